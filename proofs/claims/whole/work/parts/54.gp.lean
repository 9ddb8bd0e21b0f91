-- THE GAME, as sets of words (numbers below 4096)
theorem gb_or (S x i : Nat) : (S ||| 2 ^ x).testBit i = (S.testBit i || decide (i = x)) := fb_bit_set S x i
theorem gb_gt {S x : Nat} (hx : S.testBit x = false) : S < S ||| 2 ^ x := by
  refine Nat.lt_of_le_of_ne Nat.left_le_or (fun e => ?_)
  have : (S ||| 2 ^ x).testBit x = true := by rw [gb_or]; simp
  rw [← e, hx] at this
  exact nomatch this
theorem gb_lt {S x : Nat} (hS : S < 4096) (hx : x < 12) : S ||| 2 ^ x < 4096 := by
  have h1 : 2 ^ x < 2 ^ 12 := Nat.pow_lt_pow_right (by decide) hx
  exact Nat.or_lt_two_pow (n := 12) hS h1
theorem gb_xor {S x : Nat} (hx : S.testBit x = true) (i : Nat) : (S ^^^ 2 ^ x).testBit i = (S.testBit i && !decide (i = x)) := by
  rw [fb_bit_flip]
  by_cases e : i = x
  · subst e; rw [hx]; simp
  · simp [e]
theorem gb_xlt {S x : Nat} (hx : S.testBit x = true) : S ^^^ 2 ^ x < S := by
  have e : (S ^^^ 2 ^ x) ||| 2 ^ x = S := by
    apply Nat.eq_of_testBit_eq
    intro i
    rw [gb_or, gb_xor hx]
    by_cases e : i = x
    · subst e; rw [hx]; simp
    · simp [e]
  have h := gb_gt (S := S ^^^ 2 ^ x) (x := x) (by rw [gb_xor hx]; simp)
  rw [e] at h
  exact h
/-- S within N -/
def gsub (S N : Nat) : Prop := ∀ i, S.testBit i = true → N.testBit i = true
theorem gsub_le {S N : Nat} (h : gsub S N) : S ≤ N := by
  have e : S &&& N = S := by
    apply Nat.eq_of_testBit_eq
    intro i
    rw [Nat.testBit_and]
    cases hs : S.testBit i with
    | false => rfl
    | true => rw [h i hs]; rfl
  rw [← e]
  exact Nat.and_le_right
theorem gsub_12 {S i : Nat} (hS : S < 4096) (hi : S.testBit i = true) : i < 12 := by
  refine Nat.lt_of_not_le (fun q => ?_)
  have : S < 2 ^ i := Nat.lt_of_lt_of_le hS (Nat.pow_le_pow_right (n := 2) (by decide) q)
  rw [Nat.testBit_lt_two_pow this] at hi
  exact nomatch hi
theorem gsub_iff {S N : Nat} (hS : S < 4096) : nI S &&& (nI N ^^^ (-1)) = 0 ↔ gsub S N := by
  rw [nb_eq0]
  constructor
  · intro h i hi
    have h12 := gsub_12 hS hi
    have := h i (by omega)
    rw [nb_diff, nI_bit (by omega), nI_bit (by omega), hi, Bool.true_and] at this
    simpa using this
  · intro h k hk
    rw [nb_diff, nI_bit hk, nI_bit hk]
    cases hs : S.testBit k with
    | false => rfl
    | true => rw [h k hs]; rfl
theorem gsub_or {S N x : Nat} (h : gsub S N) (hx : N.testBit x = true) : gsub (S ||| 2 ^ x) N := by
  intro i hi
  rw [gb_or] at hi
  by_cases e : i = x
  · subst e; exact hx
  · simp [e] at hi; exact h i hi
theorem gsub_xor {S N x : Nat} (h : gsub S N) (hx : S.testBit x = true) : gsub (S ^^^ 2 ^ x) N := by
  intro i hi
  rw [gb_xor hx] at hi
  exact h i ((Bool.and_eq_true _ _).mp hi).1
theorem gb_half (a b : Nat) : (a &&& b) / 2 = (a / 2) &&& (b / 2) := by
  apply Nat.eq_of_testBit_eq
  intro i
  rw [Nat.testBit_and, ← Nat.testBit_succ, ← Nat.testBit_succ, ← Nat.testBit_succ, Nat.testBit_and]
theorem gsub_half {S N : Nat} (h : gsub S N) : gsub (S / 2) (N / 2) := by
  intro i hi
  rw [← Nat.testBit_succ] at hi ⊢
  exact h _ hi
/-- the next lower set within N -/
theorem gsub_dec : ∀ (T S N : Nat), gsub T N → gsub S N → S < T → S ≤ (T - 1) &&& N := by
  intro T
  induction T using Nat.strongRecOn with
  | ind T ih =>
    intro S N hT hS hlt
    have hX := gb_half (T - 1) N
    have hdm := Nat.div_add_mod ((T - 1) &&& N) 2
    by_cases ht : T % 2 = 1
    · have e1 : (T - 1) / 2 = T / 2 := by omega
      have e2 : T / 2 &&& N / 2 = T / 2 := by
        apply Nat.eq_of_testBit_eq
        intro i
        rw [Nat.testBit_and]
        cases hs : (T / 2).testBit i with
        | false => rfl
        | true => rw [gsub_half hT i hs]; rfl
      rw [e1, e2] at hX
      omega
    · have e1 : (T - 1) / 2 = T / 2 - 1 := by omega
      rw [e1] at hX
      have h2 := ih (T / 2) (by omega) (S / 2) (N / 2) (gsub_half hT) (gsub_half hS) (by omega)
      rw [← hX] at h2
      by_cases hs : S % 2 = 1
      · have hn := hS 0 (by rw [Nat.testBit_zero]; exact decide_eq_true hs)
        have hx : ((T - 1) &&& N).testBit 0 = true := by
          rw [Nat.testBit_and, hn, Nat.testBit_zero, decide_eq_true (by omega)]
          rfl
        rw [Nat.testBit_zero] at hx
        have hx := of_decide_eq_true hx
        omega
      · omega
theorem gsub_andR (a N : Nat) : gsub (a &&& N) N := by
  intro i hi
  rw [Nat.testBit_and] at hi
  exact ((Bool.and_eq_true _ _).mp hi).2
/-- who says w last, S being said, wins -/
def gW (N : Nat) (F : Nat → Nat → Bool) : Nat → Nat → Nat → Bool
  | 0, _, _ => true
  | k + 1, S, w => !(List.range 12).any (fun x => N.testBit x && !S.testBit x && F w x && gW N F k (S ||| 2 ^ x) x)
theorem gany_cong {p q : Nat → Bool} {n : Nat} (h : ∀ x, x < n → p x = q x) : (List.range n).any p = (List.range n).any q := by
  rw [Bool.eq_iff_iff, List.any_eq_true, List.any_eq_true]
  constructor
  · rintro ⟨x, hx, hp⟩
    exact ⟨x, hx, by rw [← h x (List.mem_range.mp hx)]; exact hp⟩
  · rintro ⟨x, hx, hp⟩
    exact ⟨x, hx, by rw [h x (List.mem_range.mp hx)]; exact hp⟩
theorem gW_k {N : Nat} {F : Nat → Nat → Bool} : ∀ (k1 k2 S w : Nat), S < 4096 → 4096 ≤ S + k1 → 4096 ≤ S + k2 → gW N F k1 S w = gW N F k2 S w := by
  intro k1
  induction k1 with
  | zero => intro k2 S w hS h1; omega
  | succ k1 ih =>
    intro k2 S w hS h1 h2
    cases k2 with
    | zero => omega
    | succ k2 =>
      rw [gW, gW]
      congr 1
      refine gany_cong (fun x hx => ?_)
      cases hs : S.testBit x with
      | true => simp
      | false =>
        have hgt := gb_gt hs
        rw [ih k2 (S ||| 2 ^ x) x (gb_lt hS hx) (by omega) (by omega)]
def gw (N : Nat) (F : Nat → Nat → Bool) (S w : Nat) : Bool := gW N F 4096 S w
theorem gW_s {N : Nat} {F : Nat → Nat → Bool} (k S w : Nat) : gW N F (k + 1) S w = !(List.range 12).any (fun x => N.testBit x && !S.testBit x && F w x && gW N F k (S ||| 2 ^ x) x) := rfl
theorem gw_eq {N : Nat} {F : Nat → Nat → Bool} {S w : Nat} (hS : S < 4096) : gw N F S w = !(List.range 12).any (fun x => N.testBit x && !S.testBit x && F w x && gw N F (S ||| 2 ^ x) x) := by
  have e0 : gw N F S w = gW N F (4095 + 1) S w := rfl
  have e1 : (List.range 12).any (fun x => N.testBit x && !S.testBit x && F w x && gW N F 4095 (S ||| 2 ^ x) x) = (List.range 12).any (fun x => N.testBit x && !S.testBit x && F w x && gw N F (S ||| 2 ^ x) x) := gany_cong (fun x hx => by
    cases hs : S.testBit x with
    | true => simp
    | false =>
      have hgt := gb_gt hs
      rw [gW_k 4095 4096 (S ||| 2 ^ x) x (gb_lt hS hx) (by omega) (by omega)]
      rfl)
  rw [e0, gW_s, e1]
def gmk (N : Nat) (F : Nat → Nat → Bool) (S : Nat) : Int32 := nb_mk (fun w => S.testBit w && gw N F S w) 12
/-- x can be the last of a row of just S -/
def gE (F : Nat → Nat → Bool) : Nat → Nat → Nat → Bool
  | 0, _, _ => false
  | k + 1, S, x => decide (S ^^^ 2 ^ x = 0) || (List.range 12).any (fun w => (S ^^^ 2 ^ x).testBit w && gE F k (S ^^^ 2 ^ x) w && F w x)
theorem gE_k {F : Nat → Nat → Bool} : ∀ (k1 k2 S x : Nat), S.testBit x = true → S < k1 → S < k2 → gE F k1 S x = gE F k2 S x := by
  intro k1
  induction k1 with
  | zero => intro k2 S x hS h1; omega
  | succ k1 ih =>
    intro k2 S x hS h1 h2
    cases k2 with
    | zero => omega
    | succ k2 =>
      rw [gE, gE]
      congr 1
      refine gany_cong (fun w hw => ?_)
      have hlt := gb_xlt hS
      cases hs : (S ^^^ 2 ^ x).testBit w with
      | false => rfl
      | true => rw [ih k2 (S ^^^ 2 ^ x) w hs (by omega) (by omega)]
def ge (F : Nat → Nat → Bool) (S x : Nat) : Bool := gE F 4096 S x
theorem gE_s {F : Nat → Nat → Bool} (k S x : Nat) : gE F (k + 1) S x = (decide (S ^^^ 2 ^ x = 0) || (List.range 12).any (fun w => (S ^^^ 2 ^ x).testBit w && gE F k (S ^^^ 2 ^ x) w && F w x)) := rfl
theorem ge_eq {F : Nat → Nat → Bool} {S x : Nat} (hS : S < 4096) (hx : S.testBit x = true) : ge F S x = (decide (S ^^^ 2 ^ x = 0) || (List.range 12).any (fun w => (S ^^^ 2 ^ x).testBit w && ge F (S ^^^ 2 ^ x) w && F w x)) := by
  have e0 : ge F S x = gE F (4095 + 1) S x := rfl
  have hlt := gb_xlt hx
  have e1 : (List.range 12).any (fun w => (S ^^^ 2 ^ x).testBit w && gE F 4095 (S ^^^ 2 ^ x) w && F w x) = (List.range 12).any (fun w => (S ^^^ 2 ^ x).testBit w && ge F (S ^^^ 2 ^ x) w && F w x) := gany_cong (fun w hw => by
    cases hs : (S ^^^ 2 ^ x).testBit w with
    | false => rw [Bool.false_and, Bool.false_and, Bool.false_and, Bool.false_and]
    | true =>
      rw [gE_k 4095 4096 (S ^^^ 2 ^ x) w hs (by omega) (by omega)]
      rfl)
  rw [e0, gE_s, e1]
def gem (F : Nat → Nat → Bool) (S : Nat) : Int32 := nb_mk (fun x => S.testBit x && ge F S x) 12
/-- the longest row within N of the sets up to n -/
def gl (N : Nat) (F : Nat → Nat → Bool) : Nat → Nat
  | 0 => 0
  | n + 1 => if nI (n + 1) &&& (nI N ^^^ (-1)) = 0 ∧ ¬ gem F (n + 1) = 0 then max (gl N F n) (nb_c (nI (n + 1))) else gl N F n
theorem gl_b {N : Nat} {F : Nat → Nat → Bool} : ∀ n, gl N F n ≤ 32 := by
  intro n
  induction n with
  | zero => exact Nat.zero_le _
  | succ n ih =>
    rw [gl]
    split
    · have := nb_c_le (nI (n + 1)); omega
    · exact ih
theorem gI_or {S x : Nat} (hx : x < 12) : nI S ||| (1 : Int32) <<< (nI x &&& 31) = nI (S ||| 2 ^ x) := by rw [nI_shl x (by omega), fa_or]
theorem gI_xor {S x : Nat} (hx : x < 12) (hS : S.testBit x = true) : nI S &&& ((1 : Int32) <<< (nI x &&& 31) ^^^ (-1)) = nI (S ^^^ 2 ^ x) := nb_ext (fun k hk => by
  rw [nb_diff, nI_bit hk, nI_bit hk, nb_one (by omega), gb_xor hS])
/-- v may be said behind w -/
def gf (τ : lt_T) (w v : Nat) : Bool := decide (nw_o (lt_w τ v).getLast? = nw_o (lt_w τ w).head?)
/-- the words that can be said, as a number -/
def gN (τ : lt_T) (g mi : Int32) : Nat := (lt_say τ g mi).toBitVec.toNat
theorem gN_I (τ : lt_T) (g mi : Int32) : nI (gN τ g mi) = lt_say τ g mi := Int32.toBitVec_inj.mp (by
  show BitVec.ofNat 32 _ = _
  unfold gN
  simp)
theorem gN_t {τ : lt_T} {g mi : Int32} (hn : lt_n τ ≤ 32) (k : Nat) : (gN τ g mi).testBit k = (decide (k < lt_n τ) && lt_can τ g mi k) := by
  have : (gN τ g mi).testBit k = nb_t (lt_say τ g mi) k := rfl
  rw [this]
  unfold lt_say
  rw [nb_mk_t _ _ hn]
theorem gN_b {τ : lt_T} {g mi : Int32} (hn : lt_n τ ≤ 12) : gN τ g mi < 4096 := by
  refine Nat.lt_pow_two_of_testBit (n := 12) _ (fun i hi => ?_)
  rw [gN_t (by omega), decide_eq_false (by omega), Bool.false_and]
