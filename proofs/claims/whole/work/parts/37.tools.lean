-- SHORTER RULES
section TL
variable {xs : Nat → Int32} {L d y : Nat} {is : List am_I} {l : am_L} {st : List Value} {h : am_H} {Q : am_I → List Value → am_H → Prop} {ln a b : Nat} {cc : Int}
theorem wp_eqB {z : Bool} (kt : z = false → am_w xs L d y (am_j y a) l st h Q) (kf : z = true → am_w xs L d y is l st h Q) : am_w xs L d y ((39, ln, a, 0, cc) :: is) l (.int (if z = true then 1 else 0) :: st) h Q := by
  cases z with
  | false => exact wp_ifeq (fun _ => kt rfl) (fun q => absurd rfl q)
  | true => exact wp_ifeq (fun q => absurd q (by decide)) (fun _ => kf rfl)
theorem wp_neB {z : Bool} (kt : z = true → am_w xs L d y (am_j y a) l st h Q) (kf : z = false → am_w xs L d y is l st h Q) : am_w xs L d y ((39, ln, a, 1, cc) :: is) l (.int (if z = true then 1 else 0) :: st) h Q := by
  cases z with
  | false => exact wp_ifne (fun q => absurd rfl q) (fun _ => kf rfl)
  | true => exact wp_ifne (fun _ => kt rfl) (fun q => absurd (show ¬ (1 : Int32) = 0 by decide) q)
theorem wp_geN {m n : Nat} (hm : m < 2 ^ 31) (hn : n < 2 ^ 31) (kt : n ≤ m → am_w xs L d y (am_j y a) l st h Q) (kf : m < n → am_w xs L d y is l st h Q) : am_w xs L d y ((40, ln, a, 3, cc) :: is) l (.int (nI n) :: .int (nI m) :: st) h Q :=
  wp_icge (fun q => kt ((nI_leI hn hm).mp q)) (fun q => kf (Nat.lt_of_not_le fun z => q (nI_le z hm)))
theorem wp_ltN {m n : Nat} (hm : m < 2 ^ 31) (hn : n < 2 ^ 31) (kt : m < n → am_w xs L d y (am_j y a) l st h Q) (kf : n ≤ m → am_w xs L d y is l st h Q) : am_w xs L d y ((40, ln, a, 2, cc) :: is) l (.int (nI n) :: .int (nI m) :: st) h Q :=
  wp_iclt (fun q => kt ((nI_ltI hm hn).mp q)) (fun q => kf (Nat.le_of_not_lt fun z => q (nI_lt z hn)))
theorem wp_gtN {m n : Nat} (hm : m < 2 ^ 31) (hn : n < 2 ^ 31) (kt : n < m → am_w xs L d y (am_j y a) l st h Q) (kf : m ≤ n → am_w xs L d y is l st h Q) : am_w xs L d y ((40, ln, a, 4, cc) :: is) l (.int (nI n) :: .int (nI m) :: st) h Q :=
  wp_icgt (fun q => kt ((nI_ltI hn hm).mp q)) (fun q => kf (Nat.le_of_not_lt fun z => q (nI_lt z hm)))
theorem wp_leN {m n : Nat} (hm : m < 2 ^ 31) (hn : n < 2 ^ 31) (kt : m ≤ n → am_w xs L d y (am_j y a) l st h Q) (kf : n < m → am_w xs L d y is l st h Q) : am_w xs L d y ((40, ln, a, 5, cc) :: is) l (.int (nI n) :: .int (nI m) :: st) h Q :=
  wp_icle (fun q => kt ((nI_leI hm hn).mp q)) (fun q => kf (Nat.lt_of_not_le fun z => q (nI_le z hn)))
theorem wp_eqN {m n : Nat} (hm : m < 2 ^ 31) (hn : n < 2 ^ 31) (kt : m = n → am_w xs L d y (am_j y a) l st h Q) (kf : ¬ m = n → am_w xs L d y is l st h Q) : am_w xs L d y ((40, ln, a, 0, cc) :: is) l (.int (nI n) :: .int (nI m) :: st) h Q :=
  wp_iceq (fun q => kt ((nI_eq hm hn).mp q)) (fun q => kf fun z => q (by rw [z]))
theorem wp_neN {m n : Nat} (hm : m < 2 ^ 31) (hn : n < 2 ^ 31) (kt : ¬ m = n → am_w xs L d y (am_j y a) l st h Q) (kf : m = n → am_w xs L d y is l st h Q) : am_w xs L d y ((40, ln, a, 1, cc) :: is) l (.int (nI n) :: .int (nI m) :: st) h Q :=
  wp_icne (fun q => kt fun z => q (by rw [z])) (fun q => kf ((nI_eq hm hn).mp (Classical.not_not.mp q)))
/-- an answer that may be none: is it below 0, is it none -/
theorem lt_i_neg {o : Option Nat} (ho : ∀ k, o = some k → k < 2 ^ 31) : lt_i o < 0 ↔ o = none := by
  cases o with
  | none => exact ⟨fun _ => rfl, fun _ => by decide⟩
  | some k => exact ⟨fun q => absurd q (nI_pos (ho k rfl)), fun q => nomatch q⟩
theorem lt_i_m2 {o : Option Nat} (ho : ∀ k, o = some k → k < 2 ^ 31) : lt_i o = -2 ↔ o = none := by
  cases o with
  | none => exact ⟨fun _ => rfl, fun _ => rfl⟩
  | some k => exact ⟨fun q => absurd (by show lt_i (some k) < 0; rw [q]; decide) (nI_pos (ho k rfl)), fun q => nomatch q⟩
theorem wp_ltO {o : Option Nat} (ho : ∀ k, o = some k → k < 2 ^ 31) (kt : o = none → am_w xs L d y (am_j y a) l st h Q) (kf : ∀ k, o = some k → am_w xs L d y is l st h Q) : am_w xs L d y ((39, ln, a, 2, cc) :: is) l (.int (lt_i o) :: st) h Q :=
  wp_iflt (fun q => kt ((lt_i_neg ho).mp q)) (fun q => by
    cases o with
    | none => exact absurd ((lt_i_neg ho).mpr rfl) q
    | some k => exact kf k rfl)
theorem wp_geO {o : Option Nat} (ho : ∀ k, o = some k → k < 2 ^ 31) (kt : ∀ k, o = some k → am_w xs L d y (am_j y a) l st h Q) (kf : o = none → am_w xs L d y is l st h Q) : am_w xs L d y ((39, ln, a, 3, cc) :: is) l (.int (lt_i o) :: st) h Q :=
  wp_ifge (fun q => by
    cases o with
    | none => exact absurd q (by decide)
    | some k => exact kt k rfl) (fun q => kf ((lt_i_neg ho).mp (Classical.byContradiction fun z => q (fa_of_nlt z))))
theorem wp_eqO {o : Option Nat} (ho : ∀ k, o = some k → k < 2 ^ 31) (kt : o = none → am_w xs L d y (am_j y a) l st h Q) (kf : ∀ k, o = some k → am_w xs L d y is l st h Q) : am_w xs L d y ((40, ln, a, 0, cc) :: is) l (.int (-2) :: .int (lt_i o) :: st) h Q :=
  wp_iceq (fun q => kt ((lt_i_m2 ho).mp q)) (fun q => by
    cases o with
    | none => exact absurd rfl q
    | some k => exact kf k rfl)
theorem wp_neO {o : Option Nat} (ho : ∀ k, o = some k → k < 2 ^ 31) (kt : ∀ k, o = some k → am_w xs L d y (am_j y a) l st h Q) (kf : o = none → am_w xs L d y is l st h Q) : am_w xs L d y ((40, ln, a, 1, cc) :: is) l (.int (-2) :: .int (lt_i o) :: st) h Q :=
  wp_icne (fun q => by
    cases o with
    | none => exact absurd rfl q
    | some k => exact kt k rfl) (fun q => kf ((lt_i_m2 ho).mp (Classical.not_not.mp q)))
theorem wp_ialdN {q n k : Nat} {f : Nat → Int32} {v : Int32} (hq : h.2.2 q = some (.inl (0, n, .inl f))) (hk : k < n) (hn : n < 2 ^ 31) (e : f k = v) (kk : am_w xs L d y is l (.int v :: st) h Q) : am_w xs L d y ((48, ln, a, b, cc) :: is) l (.int (nI k) :: .ref q :: st) h Q :=
  wp_iald hq (am_inBn hk hn) (by rw [nI_clamp (Nat.lt_trans hk hn), e]; exact kk)
theorem wp_laldN {q n k : Nat} {f : Nat → Int64} {v : Int64} (hq : h.2.2 q = some (.inl (1, n, .inr (.inl f)))) (hk : k < n) (hn : n < 2 ^ 31) (e : f k = v) (kk : am_w xs L d y is l (.long v :: st) h Q) : am_w xs L d y ((49, ln, a, b, cc) :: is) l (.int (nI k) :: .ref q :: st) h Q :=
  wp_lald hq (am_inBn hk hn) (by rw [nI_clamp (Nat.lt_trans hk hn), e]; exact kk)
theorem wp_baldN {q n k : Nat} {f : Nat → Int32} {v : Int32} (hq : h.2.2 q = some (.inl (2, n, .inl f))) (hk : k < n) (hn : n < 2 ^ 31) (e : f k = v) (kk : am_w xs L d y is l (.int v :: st) h Q) : am_w xs L d y ((50, ln, a, b, cc) :: is) l (.int (nI k) :: .ref q :: st) h Q :=
  wp_bald hq (am_inBn hk hn) (by rw [nI_clamp (Nat.lt_trans hk hn), e]; exact kk)
theorem wp_iastN {q n k : Nat} {f : Nat → Int32} {x : Int32} (hq : h.2.2 q = some (.inl (0, n, .inl f))) (hk : k < n) (hn : n < 2 ^ 31) (kk : am_w xs L d y is l st (am_set h q (.inl (0, n, .inl (upd f k x)))) Q) : am_w xs L d y ((52, ln, a, b, cc) :: is) l (.int x :: .int (nI k) :: .ref q :: st) h Q :=
  wp_iast hq (am_inBn hk hn) (by rw [nI_clamp (Nat.lt_trans hk hn)]; exact kk)
theorem wp_lastN {q n k : Nat} {f : Nat → Int64} {x : Int64} (hq : h.2.2 q = some (.inl (1, n, .inr (.inl f)))) (hk : k < n) (hn : n < 2 ^ 31) (kk : am_w xs L d y is l st (am_set h q (.inl (1, n, .inr (.inl (vp_updL f k x))))) Q) : am_w xs L d y ((53, ln, a, b, cc) :: is) l (.long x :: .int (nI k) :: .ref q :: st) h Q :=
  wp_last hq (am_inBn hk hn) (by rw [nI_clamp (Nat.lt_trans hk hn)]; exact kk)
/-- loops -/
theorem lpg {ι : Type} (n : Nat) (S : Nat → ι → Prop) (lo : Nat → ι → am_L) (hh : Nat → ι → am_H) (step : ∀ i, i < n → (∀ a, S (i + 1) a → am_w xs L d y is (lo (i + 1) a) st (hh (i + 1) a) Q) → ∀ a, S i a → am_w xs L d y is (lo i a) st (hh i a) Q) (fin : ∀ a, S n a → am_w xs L d y is (lo n a) st (hh n a) Q) : ∀ a, S 0 a → am_w xs L d y is (lo 0 a) st (hh 0 a) Q := by
  have key : ∀ j i, i + j = n → ∀ a, S i a → am_w xs L d y is (lo i a) st (hh i a) Q := by
    intro j
    induction j with
    | zero => intro i hi; have e : i = n := by omega
              subst e; exact fin
    | succ j ih => intro i hi; exact step i (by omega) (ih (i + 1) (by omega))
  exact key n 0 (Nat.zero_add n)
theorem lpw (n : Nat) (lo : Nat → am_L) (step : ∀ i, i < n → am_w xs L d y is (lo (i + 1)) st h Q → am_w xs L d y is (lo i) st h Q) (fin : am_w xs L d y is (lo n) st h Q) : am_w xs L d y is (lo 0) st h Q :=
  lpg (ι := Unit) n (fun _ _ => True) (fun i _ => lo i) (fun _ _ => h) (fun i hi ih _ _ => step i hi (ih () trivial)) (fun _ _ => fin) () trivial
theorem lpo (n : Nat) (lo : Nat → Option Value → am_L) (step : ∀ i, i < n → (∀ o, am_w xs L d y is (lo (i + 1) o) st h Q) → ∀ o, am_w xs L d y is (lo i o) st h Q) (fin : ∀ o, am_w xs L d y is (lo n o) st h Q) (o : Option Value) : am_w xs L d y is (lo 0 o) st h Q :=
  lpg (ι := Option Value) n (fun _ _ => True) lo (fun _ _ => h) (fun i hi ih o _ => step i hi (fun o => ih o trivial) o) (fun o _ => fin o) o trivial
/-- a loop that stops at the first -/
theorem lpf (p : Nat → Bool) (n : Nat) (lo : Nat → am_L) (step : ∀ i, i < n → (∀ j, j < i → p j = false) → (p i = false → am_w xs L d y is (lo (i + 1)) st h Q) → am_w xs L d y is (lo i) st h Q) (fin : (∀ j, j < n → p j = false) → am_w xs L d y is (lo n) st h Q) : am_w xs L d y is (lo 0) st h Q :=
  lpg (ι := Unit) n (fun i _ => ∀ j, j < i → p j = false) (fun i _ => lo i) (fun _ _ => h) (fun i hi ih _ ha => step i hi ha (fun hp => ih () (fun j hj => by
    by_cases e : j = i
    · rw [e]; exact hp
    · exact ha j (by omega)))) (fun _ ha => fin ha) () (fun j hj => absurd hj (Nat.not_lt_zero j))
end TL
theorem nb_mk_s {p : Nat → Bool} {n : Nat} (hp : p n = true) : nb_mk p n ||| (1 : Int32) <<< (nI n &&& 31) = nb_mk p (n + 1) := by rw [nb_mk, if_pos hp]
theorem nb_mk_n {p : Nat → Bool} {n : Nat} (hp : p n = false) : nb_mk p n = nb_mk p (n + 1) := by rw [nb_mk, if_neg (by rw [hp]; decide), nb_or0]
theorem nb_mk_n0 {p : Nat → Bool} {n : Nat} (hp : p n = false) : nb_mk p n ||| 0 = nb_mk p (n + 1) := by rw [nb_mk, if_neg (by rw [hp]; decide)]
theorem lt_fd {p : Nat → Bool} {n k : Nat} (hk : k < n) (hp : p k = true) (hl : ∀ j, j < k → p j = false) : (List.range n).find? p = some k := by
  rw [List.find?_range_eq_some]
  exact ⟨hp, List.mem_range.mpr hk, fun j hj => by rw [hl j hj]; rfl⟩
theorem lt_fn {p : Nat → Bool} {n : Nat} (hl : ∀ j, j < n → p j = false) : (List.range n).find? p = none := by
  rw [List.find?_eq_none]
  exact fun j hj => by rw [hl j (List.mem_range.mp hj)]; decide
theorem lt_fr {p : Nat → Bool} {n k : Nat} (h : (List.range n).find? p = some k) : k < n ∧ p k = true := ⟨List.mem_range.mp (List.mem_of_find?_eq_some h), List.find?_some h⟩
theorem nb_c_le (x : Int32) : nb_c x ≤ 32 := fb_ct_le _ _
theorem nb_c_mk {p : Nat → Bool} {n : Nat} (hn : n ≤ 32) : nb_c (nb_mk p n) = fb_ct p n := by
  unfold nb_c
  have e : (32 : Nat) = n + (32 - n) := by omega
  have z : fb_ct (fun k => nb_t (nb_mk p n) (n + k)) (32 - n) = 0 := fb_ct_zero.mpr (fun k hk => by rw [nb_mk_t _ _ hn, decide_eq_false (by omega), Bool.false_and])
  rw [e, fb_ct_split, z, Nat.add_zero]
  exact fb_ct_cong (fun k hk => by rw [nb_mk_t _ _ hn, decide_eq_true hk, Bool.true_and])
theorem nb_mk_and {p q : Nat → Bool} {n : Nat} (hn : n ≤ 32) : nb_mk p n &&& nb_mk q n = nb_mk (fun k => p k && q k) n := nb_mk_eq hn (fun i hi => by
  rw [nb_and, nb_mk_t _ _ hn, nb_mk_t _ _ hn]
  cases decide (i < n) <;> simp)
