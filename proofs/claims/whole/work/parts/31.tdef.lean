-- THE LOGICAL TONGUE: numbers (0 year 1 things 2 sayings 3 words 4 coined 5 going 6 heard 7 old), words (0 things' names 1 sayings' names 2 words 3 coined 4 heard 5 old), values (0 parts 1 part, 4 a saying 2 means 3 coined means 4 letter 5 day 6 shunned)
abbrev lt_T : Type := (Nat → Nat) × (Nat → Nat → List Nat) × (Nat → Nat → Nat)
abbrev lt_n (τ : lt_T) : Nat := τ.1 3 + τ.1 4
def lt_w (τ : lt_T) (w : Nat) : List Nat := if w < τ.1 3 then τ.2.1 2 w else τ.2.1 3 (w - τ.1 3)
def lt_m (τ : lt_T) (w : Nat) : Nat := if w < τ.1 3 then τ.2.2 2 w else τ.2.2 3 (w - τ.1 3)
/-- bounds of a tongue -/
def lt_b (τ : lt_T) : Prop :=
  (τ.1 0 ≤ 99 ∧ τ.1 1 ≤ 6 ∧ τ.1 2 ≤ 5 ∧ τ.1 3 ≤ 8 ∧ τ.1 4 ≤ 4 ∧ τ.1 5 ≤ 6 ∧ τ.1 6 ≤ 6 ∧ τ.1 7 ≤ 5) ∧
  (∀ w, w < lt_n τ → nw_ok (lt_w τ w) ∧ lt_w τ w ≠ [] ∧ lt_m τ w < τ.1 1) ∧
  (∀ k, k < τ.1 2 → 1 ≤ τ.2.2 0 k ∧ τ.2.2 0 k ≤ 4 ∧ ∀ i, i < τ.2.2 0 k → τ.2.2 1 (4 * k + i) < τ.1 1) ∧
  (∀ k, k < τ.1 5 → τ.2.2 4 k < 26 ∧ τ.2.2 5 k ≤ 99) ∧ (∀ j k, j < τ.1 5 → k < τ.1 5 → τ.2.2 4 j = τ.2.2 4 k → j = k) ∧
  (∀ k, k < τ.1 6 → nw_ok (τ.2.1 4 k) ∧ τ.2.2 6 k ≤ 1) ∧ (∀ k, k < τ.1 7 → nw_ok (τ.2.1 5 k)) ∧
  (∀ v w, v < lt_n τ → w < lt_n τ → lt_w τ v = lt_w τ w → v = w)
/-- the class's object of a tongue at t, its rows behind it -/
def ct_c (h : am_H) (t : Nat) (τ : lt_T) (fN : Nat → Int64) (fC fP : Nat → Int32) (fS : Nat → Int64) (fL fM fU fE fG fH : Nat → Int32) (fO : Nat → Int64) (sh : Int32) : Prop :=
  h.2.2 t = some (.inr (5, [.int (nI (τ.1 0)), .int (nI (τ.1 1)), .int (nI (τ.1 2)), .int (nI (τ.1 3)), .int (nI (τ.1 4)), .int (nI (τ.1 5)), .int (nI (τ.1 6)), .int (nI (τ.1 7)), .ref (t + 1), .ref (t + 2), .ref (t + 3), .ref (t + 4), .ref (t + 5), .ref (t + 6), .ref (t + 7), .ref (t + 8), .ref (t + 9), .ref (t + 10), .int sh, .ref (t + 11)])) ∧
  h.2.2 (t + 1) = some (.inl (1, 11, .inr (.inl fN))) ∧ h.2.2 (t + 2) = some (.inl (0, 5, .inl fC)) ∧ h.2.2 (t + 3) = some (.inl (0, 20, .inl fP)) ∧ h.2.2 (t + 4) = some (.inl (1, 12, .inr (.inl fS))) ∧ h.2.2 (t + 5) = some (.inl (0, 12, .inl fL)) ∧ h.2.2 (t + 6) = some (.inl (0, 12, .inl fM)) ∧ h.2.2 (t + 7) = some (.inl (0, 26, .inl fU)) ∧ h.2.2 (t + 8) = some (.inl (0, 6, .inl fE)) ∧ h.2.2 (t + 9) = some (.inl (0, 26, .inl fG)) ∧ h.2.2 (t + 10) = some (.inl (0, 6, .inl fH)) ∧ h.2.2 (t + 11) = some (.inl (1, 5, .inr (.inl fO)))
def lt_gf (τ : lt_T) (c : Nat) : Option Nat := (List.range (τ.1 5)).find? (fun k => τ.2.2 4 k == c)
def lt_gi (τ : lt_T) (c : Nat) : Int32 := match lt_gf τ c with
  | some k => nI (τ.2.2 5 k)
  | none => -1
/-- what its rows hold once it is settled -/
def ct_f (τ : lt_T) (fC fP : Nat → Int32) (fS : Nat → Int64) (fL fM fU fE fG fH : Nat → Int32) (fO : Nat → Int64) (sh : Int32) : Prop :=
  (∀ k, k < τ.1 2 → fC k = nI (τ.2.2 0 k)) ∧ (∀ k i, k < τ.1 2 → i < τ.2.2 0 k → fP (4 * k + i) = nI (τ.2.2 1 (4 * k + i))) ∧
  (∀ w, w < lt_n τ → fS w = nw_l (lt_w τ w) ∧ fL w = nI (lt_w τ w).length ∧ fM w = nI (lt_m τ w)) ∧
  (∀ c, c < 26 → fU c = nb_mk (fun w => decide (c ∈ lt_w τ w)) (lt_n τ)) ∧ (∀ t, t < 6 → fE t = nb_mk (fun w => decide (lt_m τ w = t)) (lt_n τ)) ∧
  (τ.1 0 = 0 ∨ ∀ c, c < 26 → fG c = lt_gi τ c) ∧ (∀ k, k < τ.1 6 → fH k = nw_m (τ.2.1 4 k)) ∧ sh = nb_mk (fun k => τ.2.2 6 k == 1) (τ.1 6) ∧ (∀ k, k < τ.1 7 → fO k = nw_l (τ.2.1 5 k))
def ct (h : am_H) (t : Nat) (τ : lt_T) : Prop := ∃ fN fC fP fS fL fM fU fE fG fH fO sh, ct_c h t τ fN fC fP fS fL fM fU fE fG fH fO sh ∧ ct_f τ fC fP fS fL fM fU fE fG fH fO sh
/-- may a word be said at all; can it -/
def lt_sp (τ : lt_T) (mi : Int32) (w : Nat) : Bool := decide (w < τ.1 3) || nb_t mi (w - τ.1 3)
def lt_can (τ : lt_T) (g mi : Int32) (w : Nat) : Bool := lt_sp τ mi w && (lt_w τ w).all (fun c => !nb_t g c)
/-- the words that can be said, as bits -/
def lt_say (τ : lt_T) (g mi : Int32) : Int32 := nb_mk (lt_can τ g mi) (lt_n τ)
/-- things by words p -/
def lt_has (τ : lt_T) (p : Nat → Bool) (t : Nat) : Bool := (List.range (lt_n τ)).any (fun w => p w && lt_m τ w == t)
def lt_th (τ : lt_T) (p : Nat → Bool) : Int32 := nb_mk (lt_has τ p) (τ.1 1)
/-- the first of the least -/
def lt_best (len : Nat → Nat) (q : Nat → Bool) : Nat → Option Nat
  | 0 => none
  | n + 1 => match lt_best len q n with
    | none => if q n = true then some n else none
    | some b => if q n = true ∧ len n < len b then some n else some b
def lt_i : Option Nat → Int32
  | none => -2
  | some k => nI k
def lt_len (τ : lt_T) (w : Nat) : Nat := (lt_w τ w).length
def lt_sh (τ : lt_T) (p : Nat → Bool) (t : Nat) : Option Nat := lt_best (lt_len τ) (fun w => p w && lt_m τ w == t) (lt_n τ)
/-- the first dumb part of a saying from i on -/
def lt_dp (τ : lt_T) (p : Nat → Bool) (k : Nat) : Option Nat := (List.range (τ.2.2 0 k)).find? (fun i => !lt_has τ p (τ.2.2 1 (4 * k + i)))
/-- how long a saying is -/
def lt_sl (τ : lt_T) (p : Nat → Bool) (k : Nat) : Nat → Option Nat
  | 0 => some (τ.2.2 0 k - 1)
  | i + 1 => match lt_sl τ p k i with
    | none => none
    | some n => match lt_sh τ p (τ.2.2 1 (4 * k + i)) with
      | none => none
      | some w => some (n + lt_len τ w)
def lt_on (τ : lt_T) (day c : Nat) : Bool := (List.range (τ.1 5)).any (fun k => τ.2.2 4 k == c && τ.2.2 5 k % τ.1 0 == day % τ.1 0)
def lt_go (τ : lt_T) (day : Nat) : Int32 := nb_mk (lt_on τ day) 26
-- small facts
theorem nb_shl {k : Nat} (hk : k < 32) (x : Int32) (i : Nat) : nb_t (x <<< (nI k &&& 31)) i = (decide (i < 32) && decide (k ≤ i) && nb_t x (i - k)) := by
  have h := pk_shl x (nI k &&& 31) k (nb_smod k hk)
  have e : (x <<< (nI k &&& 31)).toBitVec = x.toBitVec <<< k := by
    apply BitVec.eq_of_toNat_eq
    rw [h, BitVec.toNat_shiftLeft, Nat.shiftLeft_eq]
  unfold nb_t
  rw [e, BitVec.getLsbD_shiftLeft]
  by_cases h1 : i < k
  · simp [h1, Nat.not_le.mpr h1]
  · simp [h1, Nat.le_of_not_lt h1]
theorem nb_ones {k : Nat} (hk : k < 32) (i : Nat) : nb_t ((1 : Int32) <<< (nI k &&& 31) - 1) i = decide (i < k) := by
  have h := pk_shl 1 (nI k &&& 31) k (nb_smod k hk)
  have hp : 0 < 2 ^ k := Nat.pow_pos (by decide)
  have hl : 2 ^ k < 2 ^ 32 := Nat.pow_lt_pow_right (by decide) hk
  have e : ((1 : Int32) <<< (nI k &&& 31) - 1).toBitVec.toNat = 2 ^ k - 1 := by
    rw [Int32.toBitVec_sub, BitVec.toNat_sub, h, show (1 : Int32).toBitVec.toNat = 1 from rfl, Nat.one_mul, Nat.mod_eq_of_lt hl]
    omega
  unfold nb_t
  rw [BitVec.getLsbD, e, Nat.testBit_two_pow_sub_one]
theorem nb_any {p : Nat → Bool} {n : Nat} (hn : n ≤ 32) (q : Nat → Bool) : nb_mk p n &&& nb_mk q n = 0 ↔ (List.range n).any (fun w => p w && q w) = false := by
  rw [nb_eq0]
  constructor
  · intro h
    apply Bool.eq_false_iff.mpr
    intro hh
    obtain ⟨w, hw, h2⟩ := List.any_eq_true.mp hh
    have hw := List.mem_range.mp hw
    have h3 := h w (by omega)
    rw [nb_and, nb_mk_t _ _ hn, nb_mk_t _ _ hn, decide_eq_true hw] at h3
    simp only [Bool.true_and] at h3
    rw [h3] at h2
    cases h2
  · intro h k hk
    rw [nb_and, nb_mk_t _ _ hn, nb_mk_t _ _ hn]
    by_cases hw : k < n
    · have := List.any_eq_false.mp h k (List.mem_range.mpr hw)
      simp only [hw, decide_true, Bool.true_and]
      simpa using this
    · simp [hw]
