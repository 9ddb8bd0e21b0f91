-- BITS OF AN INT, MASKS
def nb_t (x : Int32) (k : Nat) : Bool := x.toBitVec.getLsbD k
theorem nb_ext {x y : Int32} (h : ∀ k, k < 32 → nb_t x k = nb_t y k) : x = y := Int32.toBitVec_inj.mp (BitVec.eq_of_getLsbD_eq fun i hi => h i hi)
theorem nb_hi {x : Int32} {k : Nat} (h : 32 ≤ k) : nb_t x k = false := BitVec.getLsbD_of_ge _ _ h
theorem nb_or (x y : Int32) (k : Nat) : nb_t (x ||| y) k = (nb_t x k || nb_t y k) := by simp [nb_t]
theorem nb_and (x y : Int32) (k : Nat) : nb_t (x &&& y) k = (nb_t x k && nb_t y k) := by simp [nb_t]
theorem nb_xor (x y : Int32) (k : Nat) : nb_t (x ^^^ y) k = (nb_t x k ^^ nb_t y k) := by simp [nb_t]
theorem nb_0 (k : Nat) : nb_t 0 k = false := by simp [nb_t]
theorem nb_m1 (k : Nat) : nb_t (-1) k = decide (k < 32) := by
  have e : (-1 : Int32).toBitVec = BitVec.allOnes 32 := by decide
  unfold nb_t
  rw [e, BitVec.getLsbD_allOnes]
theorem nb_not (x : Int32) (k : Nat) (hk : k < 32) : nb_t (x ^^^ (-1)) k = !nb_t x k := by
  rw [nb_xor, nb_m1, decide_eq_true hk]; cases nb_t x k <;> rfl
theorem nb_diff (x y : Int32) (k : Nat) : nb_t (x &&& (y ^^^ (-1))) k = (nb_t x k && !nb_t y k) := by
  by_cases hk : k < 32
  · rw [nb_and, nb_not _ _ hk]
  · rw [nb_hi (by omega), nb_hi (by omega)]; rfl
theorem nb_smod : ∀ k, k < 32 → ((nI k &&& 31).toBitVec.smod 32).toNat = k := by decide +kernel
theorem nb_and31 : ∀ k, k < 32 → nI k &&& 31 = nI k := by decide +kernel
theorem nb_one {k : Nat} (hk : k < 32) (i : Nat) : nb_t ((1 : Int32) <<< (nI k &&& 31)) i = decide (i = k) := by
  have h := pk_shl 1 (nI k &&& 31) k (nb_smod k hk)
  have e : ((1 : Int32) <<< (nI k &&& 31)).toBitVec = BitVec.twoPow 32 k := by
    apply BitVec.eq_of_toNat_eq
    rw [h, BitVec.toNat_twoPow]
    rw [show (1 : Int32).toBitVec.toNat = 1 from rfl, Nat.one_mul]
  unfold nb_t
  rw [e, BitVec.getLsbD_twoPow]
  by_cases hi : i = k
  · subst hi; simp [hk]
  · simp [hi, Ne.symm hi]
/-- the class's bit(): ((x >>> k) & 1) == 0 -/
theorem nb_ushr {x : Int32} {k : Nat} (hk : k < 32) : ((x.toUInt32 >>> ((nI k).toUInt32 &&& Int32.toUInt32 31)).toInt32 &&& 1) = 0 ↔ nb_t x k = false := by
  have h := pk_ushr x (nI k) k (nf_sl k hk)
  rw [pk_and _ 1 (by rfl), h]
  have e2 : x.toBitVec.toNat / 2 ^ k % 2 ^ 1 = (nb_t x k).toNat := by
    unfold nb_t
    rw [BitVec.getLsbD, Nat.testBit_eq_decide_div_mod_eq, Nat.pow_one]
    have := Nat.mod_two_eq_zero_or_one (x.toBitVec.toNat / 2 ^ k)
    rcases this with q | q <;> simp [q]
  rw [e2]
  cases nb_t x k <;> decide
/-- the model's bit(): (x >> k & 1) == 1 -/
theorem nb_shr {x : Int32} {k : Nat} (hk : k < 32) : ((x >>> (nI k &&& 31)) &&& 1) = 1 ↔ nb_t x k = true := by
  have h := pk_shr x (nI k &&& 31) k (nb_smod k hk)
  have hb : (x >>> (nI k &&& 31)).toBitVec.getLsbD 0 = nb_t x k := by
    have e : (x >>> (nI k &&& 31)).toBitVec = x.toBitVec.sshiftRight k := by
      apply BitVec.eq_of_toInt_eq
      rw [BitVec.toInt_sshiftRight]
      exact h
    rw [e, BitVec.getLsbD_sshiftRight]
    simp [hk, nb_t]
  rw [pk_and _ 1 (by rfl)]
  have e2 : (x >>> (nI k &&& 31)).toBitVec.toNat % 2 ^ 1 = (nb_t x k).toNat := by
    rw [← hb, BitVec.getLsbD, Nat.testBit_zero, Nat.pow_one]
    generalize (x >>> (nI k &&& 31)).toBitVec.toNat = z
    have := Nat.mod_two_eq_zero_or_one z
    rcases this with q | q <;> simp [q]
  rw [e2]
  cases nb_t x k <;> decide
/-- bits k < n with p k -/
def nb_mk (p : Nat → Bool) : Nat → Int32
  | 0 => 0
  | k + 1 => nb_mk p k ||| (if p k = true then (1 : Int32) <<< (nI k &&& 31) else 0)
theorem nb_mk_t (p : Nat → Bool) : ∀ (n : Nat), n ≤ 32 → ∀ i, nb_t (nb_mk p n) i = (decide (i < n) && p i) := by
  intro n
  induction n with
  | zero => intro _ i; simp [nb_mk, nb_0]
  | succ n ih =>
    intro hn i
    rw [nb_mk, nb_or, ih (by omega)]
    by_cases hp : p n = true
    · rw [if_pos hp, nb_one (by omega)]
      by_cases e : i = n
      · subst e; simp [hp]
      · have : (i < n + 1) = (i < n) := by apply propext; omega
        simp [e, this]
    · rw [if_neg hp, nb_0]
      by_cases e : i = n
      · subst e; simp [hp]
      · have : (i < n + 1) = (i < n) := by apply propext; omega
        simp [this]
theorem nb_mk_eq {p : Nat → Bool} {n : Nat} (hn : n ≤ 32) {x : Int32} (h : ∀ i, i < 32 → nb_t x i = (decide (i < n) && p i)) : x = nb_mk p n := nb_ext fun i hi => by rw [h i hi, nb_mk_t p n hn]
theorem nb_mk_cong {p q : Nat → Bool} {n : Nat} (h : ∀ k, k < n → p k = q k) : nb_mk p n = nb_mk q n := by
  induction n with
  | zero => rfl
  | succ n ih => rw [nb_mk, nb_mk, ih (fun k hk => h k (by omega)), h n (by omega)]
theorem nb_eq0 {x : Int32} : x = 0 ↔ ∀ k, k < 32 → nb_t x k = false := ⟨fun h k _ => by rw [h, nb_0], fun h => nb_ext fun k hk => by rw [h k hk, nb_0]⟩
/-- how many bits -/
def nb_c (x : Int32) : Nat := fb_ct (nb_t x) 32
-- WORDS: little-endian lists of letters (the last letter first)
def nw_e : List Nat → Nat
  | [] => 0
  | c :: r => (c + 1) + 32 * nw_e r
def nw_ok (r : List Nat) : Prop := r.length ≤ 8 ∧ ∀ c ∈ r, c < 26
theorem nw_lt : ∀ (r : List Nat), (∀ c ∈ r, c < 26) → nw_e r < 32 ^ r.length := by
  intro r
  induction r with
  | nil => intro _; decide
  | cons c r ih =>
    intro h
    have h1 := ih (fun x hx => h x (List.mem_cons_of_mem _ hx))
    have h2 := h c List.mem_cons_self
    simp only [nw_e, List.length_cons, Nat.pow_succ]
    omega
theorem nw_b {r : List Nat} (h : nw_ok r) : nw_e r < 2 ^ 40 := by
  have h1 := nw_lt r h.2
  have h2 : 32 ^ r.length ≤ 32 ^ 8 := Nat.pow_le_pow_right (by decide) h.1
  have : (32 : Nat) ^ 8 = 2 ^ 40 := by decide
  omega
theorem nw_drop : ∀ (i : Nat) (r : List Nat), (∀ c ∈ r, c < 26) → nw_e r / 32 ^ i = nw_e (r.drop i) := by
  intro i
  induction i with
  | zero => intro r _; simp
  | succ i ih =>
    intro r h
    cases r with
    | nil => simp [nw_e]
    | cons c r =>
      have h2 := h c List.mem_cons_self
      rw [Nat.pow_succ, Nat.mul_comm, ← Nat.div_div_eq_div_mul, List.drop_succ_cons, ← ih r (fun x hx => h x (List.mem_cons_of_mem _ hx))]
      congr 1
      simp only [nw_e]
      omega
theorem nw_pos {r : List Nat} : nw_e r = 0 ↔ r = [] := by
  cases r with
  | nil => simp [nw_e]
  | cons c r => simp [nw_e]
def nw_h : List Nat → Nat
  | [] => 0
  | c :: _ => c + 1
theorem nw_mod {r : List Nat} (h : ∀ c ∈ r, c < 26) : nw_e r % 32 = nw_h r := by
  cases r with
  | nil => rfl
  | cons c r =>
    have h2 := h c List.mem_cons_self
    simp only [nw_e, nw_h]
    omega
theorem nw_inj : ∀ (r q : List Nat), (∀ c ∈ r, c < 26) → (∀ c ∈ q, c < 26) → nw_e r = nw_e q → r = q := by
  intro r
  induction r with
  | nil => intro q _ _ h; exact (nw_pos.mp h.symm).symm
  | cons c r ih =>
    intro q h1 h2 h
    cases q with
    | nil => simp [nw_e] at h
    | cons d q =>
      have a1 := h1 c List.mem_cons_self
      have a2 := h2 d List.mem_cons_self
      simp only [nw_e] at h
      have e1 : c = d := by omega
      have e2 : nw_e r = nw_e q := by omega
      rw [e1, ih q (fun x hx => h1 x (List.mem_cons_of_mem _ hx)) (fun x hx => h2 x (List.mem_cons_of_mem _ hx)) e2]
/-- a word as a long -/
def nw_l (r : List Nat) : Int64 := lN (nw_e r)
theorem nw_l_inj {r q : List Nat} (hr : nw_ok r) (hq : nw_ok q) : nw_l r = nw_l q ↔ r = q := by
  have h1 := nw_b hr
  have h2 := nw_b hq
  unfold nw_l
  rw [pk_lEQ (by omega) (by omega)]
  exact ⟨nw_inj r q hr.2 hq.2, fun h => by rw [h]⟩
theorem nw_ok_drop {r : List Nat} (h : nw_ok r) (i : Nat) : nw_ok (r.drop i) := ⟨by rw [List.length_drop]; have := h.1; omega, fun c hc => h.2 c (List.mem_of_mem_drop hc)⟩
theorem nw_5 (i : Nat) : (5 : Int32) * nI i = nI (5 * i) := by rw [fa_lit 5, pk_mul]
theorem nw_ushr {r : List Nat} {i : Nat} (hr : nw_ok r) (hi : i < 8) : ((nw_l r).toUInt64 >>> (((5 : Int32) * nI i).toInt64.toUInt64 &&& Int64.toUInt64 63)).toInt64 = nw_l (r.drop i) := by
  have hb := nw_b hr
  rw [nw_5]
  unfold nw_l
  rw [wb_shr (by omega) (by omega), show (2 : Nat) ^ (5 * i) = 32 ^ i by rw [Nat.pow_mul], nw_drop i r hr.2]
theorem nw_shr {r : List Nat} {i : Nat} (hr : nw_ok r) (hi : i < 8) : nw_l r >>> (((5 : Int32) * nI i).toInt64 &&& 63) = nw_l (r.drop i) := by
  have hb := nw_b hr
  rw [nw_5, wb_c _ (by omega)]
  unfold nw_l
  rw [pf_shr (d := 5 * i) (by rw [wb_tb, wb_sm _ (by omega), BitVec.toNat_ofNat, Nat.mod_eq_of_lt (by omega)]) (by omega), show (2 : Nat) ^ (5 * i) = 32 ^ i by rw [Nat.pow_mul], nw_drop i r hr.2]
theorem nw_shr1 {r : List Nat} (hr : nw_ok r) : nw_l r >>> ((5 : Int32).toInt64 &&& 63) = nw_l r.tail := by
  have := nw_shr hr (i := 1) (by decide)
  rw [List.drop_one] at this
  rw [← this]
  rfl
theorem nw_and {r : List Nat} (hr : nw_ok r) : nw_l r &&& 31 = lN (nw_h r) := by
  unfold nw_l
  rw [show (31 : Int64) = lN (2 ^ 5 - 1) from rfl, fb_maskL, show (2 : Nat) ^ 5 = 32 from rfl, nw_mod hr.2]
def nw_o : Option Nat → Int32
  | some c => nI c
  | none => -1
theorem nw_last {r : List Nat} (hr : nw_ok r) : (nw_l r &&& 31).toInt32 - 1 = nw_o r.head? := by
  rw [nw_and hr, lN_i]
  cases r with
  | nil => rfl
  | cons c r => exact nI_pred c
theorem nw_0 {r : List Nat} (hr : nw_ok r) : nw_l r = 0 ↔ r = [] := by
  have h := nw_l_inj (r := r) (q := []) hr ⟨by decide, fun c hc => by cases hc⟩
  exact h
theorem nl_cmp {x z : Int64} : lg_cmp x z = 0 ↔ x = z := by
  unfold lg_cmp
  split
  · rename_i h; constructor
    · intro q; exact absurd q (by decide)
    · intro q; subst q; exact absurd h (by simp)
  · split
    · rename_i h; exact ⟨fun _ => h, fun _ => rfl⟩
    · rename_i h; exact ⟨fun q => absurd q (by decide), fun q => absurd q h⟩
/-- the letters of a word -/
def nw_m (r : List Nat) : Int32 := nb_mk (fun c => decide (c ∈ r)) 26
theorem nw_m_t (r : List Nat) (hr : ∀ c ∈ r, c < 26) (i : Nat) : nb_t (nw_m r) i = decide (i ∈ r) := by
  unfold nw_m
  rw [nb_mk_t _ _ (by decide)]
  by_cases hi : i ∈ r
  · simp [hi, hr i hi]
  · simp [hi]
theorem nb_dec (x : Int32) : x + -1 = x - 1 := (Int32.sub_eq_add_neg x 1).symm
