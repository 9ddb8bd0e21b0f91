-- ENTERING A METHOD (printed by wip/gen/enter.py)
theorem am_st1_0 (o : Option Value) (l : am_L) (v : Value) : am_st1 (o :: l) 0 v = some v :: l := rfl
theorem am_st1_1 (o p : Option Value) (l : am_L) (v : Value) : am_st1 (o :: p :: l) 1 v = am_clr o :: some v :: l := rfl
theorem am_st1_s (o : Option Value) (l : am_L) (k : Nat) (v : Value) : am_st1 (o :: l) (k + 2) v = o :: am_st1 l (k + 1) v := by simp [am_st1]
theorem am_clr_n : am_clr none = none := rfl
theorem am_clr_i (x : Int32) : am_clr (some (.int x)) = some (.int x) := rfl
theorem am_clr_r (x : Nat) : am_clr (some (.ref x)) = some (.ref x) := rfl
theorem am_clr_f (x : UInt32) : am_clr (some (.float x)) = some (.float x) := rfl
theorem am_clr_u : am_clr (some .null) = some .null := rfl
theorem am_clr_j (x : Int64) : am_clr (some (.long x)) = none := rfl
theorem am_st2_e (l : am_L) (k : Nat) (v : Value) : am_st2 l k v = (am_st1 l k v).set (k + 1) none := rfl
theorem am_Ki {P : Int32 → am_H → Prop} {x : Int32} {h : am_H} {ln a b : Nat} {cc : Int} (hp : P x h) : am_K (fun v h' => ∃ z, v = some (.int z) ∧ P z h') (64, ln, a, b, cc) [.int x] h := ⟨_, rfl, x, rfl, hp⟩
theorem am_Kb {P : Bool → am_H → Prop} (z : Bool) {x : Int32} {h : am_H} {ln a b : Nat} {cc : Int} (hx : x = if z = true then 1 else 0) (hp : P z h) : am_K (fun v h' => ∃ z : Bool, v = some (.int (if z = true then 1 else 0)) ∧ P z h') (64, ln, a, b, cc) [.int x] h := ⟨_, rfl, z, by rw [hx], hp⟩
theorem am_Kj {P : Int64 → am_H → Prop} {x : Int64} {h : am_H} {ln a b : Nat} {cc : Int} (hp : P x h) : am_K (fun v h' => ∃ z, v = some (.long z) ∧ P z h') (65, ln, a, b, cc) [.long x] h := ⟨_, rfl, x, rfl, hp⟩
theorem am_Ka {P : Nat → am_H → Prop} {x : Nat} {h : am_H} {ln a b : Nat} {cc : Int} (hp : P x h) : am_K (fun v h' => ∃ z, v = some (.ref z) ∧ P z h') (66, ln, a, b, cc) [.ref x] h := ⟨_, rfl, x, rfl, hp⟩
theorem am_Kv {P : am_H → Prop} {h : am_H} {ln a b : Nat} {cc : Int} (hp : P h) : am_K (fun v h' => v = none ∧ P h') (67, ln, a, b, cc) [] h := ⟨_, rfl, rfl, hp⟩
theorem am_inBn {k n : Nat} (h : k < n) (hn : n < 2 ^ 31) : am_inB (nI k) n = true := by
  have h1 := vp_in_nI h hn
  simp only [am_inB, Bool.not_eq_true', Bool.or_eq_false_iff, decide_eq_false_iff_not]
  exact ⟨fun q => h1 (Or.inl q), fun q => h1 (Or.inr q)⟩
theorem am_inBv {x : Int32} {n : Nat} (h1 : vp_in x n) : am_inB x n = true := by
  simp only [am_inB, Bool.not_eq_true', Bool.or_eq_false_iff, decide_eq_false_iff_not]
  exact ⟨fun q => h1 (Or.inl q), fun q => h1 (Or.inr q)⟩
theorem am_gs (h : am_H) (k : Nat) (c : am_C) : (am_set h k c).2.2 k = some c := va_up_self _ _ _
theorem am_gn (h : am_H) {k j : Nat} (c : am_C) (e : j ≠ k) : (am_set h k c).2.2 j = h.2.2 j := va_up_ne _ _ e
theorem am_ss (h : am_H) (k : Nat) (c c' : am_C) : am_set (am_set h k c) k c' = am_set h k c' := by
  unfold am_set
  congr 2
  funext j
  by_cases e : j = k
  · simp [va_up, e]
  · simp [va_up, e]
theorem am_sid (h : am_H) (k : Nat) (c : am_C) (e : h.2.2 k = some c) : am_set h k c = h := by
  unfold am_set
  have : va_up h.2.2 k (some c) = h.2.2 := by
    funext j
    by_cases ej : j = k
    · subst ej; simp [va_up, e]
    · simp [va_up, ej]
  rw [this]
section KG
variable {xs : Nat → Int32} {L d : Nat} {h : am_H} {P : Option Value → am_H → Prop}
theorem kg_1 {q : Nat} (k : am_w xs L d 1 ((4, 1, 0, 0, 0) :: (61, 3, 0, 0, 106) :: (4, 1, 0, 0, 0) :: (0, 3, 0, 0, 1000) :: (57, 2, 2, 0, 0) :: (47, 3, 0, 6, 0) :: (4, 1, 0, 0, 0) :: (59, 3, 3, 0, 2) :: (36, 1, 0, 0, 0) :: (63, 3, 123, 1, 107) :: (47, 3, 1, 6, 1) :: (4, 1, 0, 0, 0) :: (59, 3, 1, 0, 3) :: (36, 1, 0, 0, 0) :: (63, 3, 100, 1, 108) :: (47, 3, 2, 6, 2) :: (4, 1, 0, 0, 0) :: (59, 3, 2, 0, 4) :: (36, 1, 0, 0, 0) :: (63, 3, 106, 1, 109) :: (47, 3, 3, 6, 3) :: (4, 1, 0, 0, 0) :: (59, 3, 0, 0, 5) :: (36, 1, 0, 0, 0) :: (63, 3, 84, 1, 110) :: (47, 3, 4, 6, 4) :: (4, 1, 0, 0, 0) :: (59, 3, 5, 0, 6) :: (36, 1, 0, 0, 0) :: (63, 3, 154, 1, 111) :: (46, 3, 5, 6, 5) :: (4, 1, 0, 0, 0) :: (0, 1, 0, 0, 0) :: (46, 3, 6, 6, 6) :: (4, 1, 0, 0, 0) :: (0, 1, 0, 0, 0) :: (46, 3, 7, 6, 7) :: (4, 1, 0, 0, 0) :: (0, 1, 0, 0, 0) :: (46, 3, 8, 6, 8) :: (4, 1, 0, 0, 0) :: (0, 1, 0, 0, 0) :: (46, 3, 9, 6, 9) :: (4, 1, 0, 0, 0) :: (0, 1, 0, 0, 0) :: (46, 3, 10, 6, 10) :: (67, 1, 0, 0, 0) :: []) [some (.ref q)] [] h (am_K P)) : am_m xs L d 1 [.ref q] h P := by
  unfold am_m
  rw [(kn_1).1, ke_1_0]
  exact k
theorem kg_2 {q : Nat} {x0 : Int32} {x1 : Int32} {x2 : Int32} {x3 : Int32} {x4 : Int32} (k : am_w xs L d 2 ((4, 1, 0, 0, 0) :: (45, 3, 7, 6, 7) :: (0, 2, 0, 0, 20) :: (9, 1, 0, 0, 0) :: (0, 3, 0, 0, 1000) :: (40, 3, 15, 5, 0) :: (0, 1, 0, 0, -1) :: (64, 1, 0, 0, 0) :: am_j 2 15) [some (.ref q), some (.int x0), some (.int x1), some (.int x2), some (.int x3), some (.int x4)] [] h (am_K P)) : am_m xs L d 2 [.ref q, .int x0, .int x1, .int x2, .int x3, .int x4] h P := by
  unfold am_m
  rw [(kn_2).1, ke_2_0]
  exact k
theorem kg_3 {q : Nat} {x0 : Int32} (k : am_w xs L d 3 ((0, 2, 0, 0, 24) :: (5, 1, 2, 0, 0) :: am_j 3 3) [some (.ref q), some (.int x0), none] [] h (am_K P)) : am_m xs L d 3 [.ref q, .int x0] h P := by
  unfold am_m
  rw [(kn_3).1, ke_3_0]
  exact k
theorem kg_4 {q : Nat} {x0 : Int32} (k : am_w xs L d 4 ((4, 1, 0, 0, 0) :: (2, 1, 1, 0, 0) :: (39, 3, 13, 2, 0) :: (2, 1, 1, 0, 0) :: (4, 1, 0, 0, 0) :: (45, 3, 7, 6, 7) :: (40, 3, 17, 5, 0) :: am_j 4 13) [some (.ref q), some (.int x0)] [] h (am_K P)) : am_m xs L d 4 [.ref q, .int x0] h P := by
  unfold am_m
  rw [(kn_4).1, ke_4_0]
  exact k
theorem kg_5 {q : Nat} {x0 : Int32} (k : am_w xs L d 5 ((4, 1, 0, 0, 0) :: (2, 1, 1, 0, 0) :: (46, 3, 8, 6, 8) :: (2, 1, 1, 0, 0) :: (39, 3, 13, 0, 0) :: (0, 1, 0, 0, 1) :: (41, 3, 14, 0, 0) :: am_j 5 13) [some (.ref q), some (.int x0)] [] h (am_K P)) : am_m xs L d 5 [.ref q, .int x0] h P := by
  unfold am_m
  rw [(kn_5).1, ke_5_0]
  exact k
theorem kg_6 {x0 : Int32} (k : am_w xs L d 6 ((2, 1, 0, 0, 0) :: (39, 3, 14, 2, 0) :: (2, 1, 0, 0, 0) :: (0, 2, 0, 0, 26) :: (40, 3, 14, 3, 0) :: (0, 1, 0, 0, 1) :: (41, 3, 15, 0, 0) :: am_j 6 14) [some (.int x0)] [] h (am_K P)) : am_m xs L d 6 [.int x0] h P := by
  unfold am_m
  rw [(kn_6).1, ke_6_0]
  exact k
theorem kg_7 {x0 : Int32} {x1 : Int32} (k : am_w xs L d 7 ((2, 1, 0, 0, 0) :: (2, 1, 1, 0, 0) :: (17, 1, 0, 0, 0) :: (0, 1, 0, 0, 1) :: (18, 1, 0, 0, 0) :: (39, 3, 12, 0, 0) :: (0, 1, 0, 0, 1) :: (41, 3, 13, 0, 0) :: am_j 7 12) [some (.int x0), some (.int x1)] [] h (am_K P)) : am_m xs L d 7 [.int x0, .int x1] h P := by
  unfold am_m
  rw [(kn_7).1, ke_7_0]
  exact k
theorem kg_8 {q : Nat} (k : am_w xs L d 8 ((4, 1, 0, 0, 0) :: (45, 3, 9, 6, 9) :: (64, 1, 0, 0, 0) :: []) [some (.ref q)] [] h (am_K P)) : am_m xs L d 8 [.ref q] h P := by
  unfold am_m
  rw [(kn_8).1, ke_8_0]
  exact k
theorem kg_9 {q : Nat} (k : am_w xs L d 9 ((4, 1, 0, 0, 0) :: (45, 3, 8, 6, 8) :: (0, 1, 0, 0, 4) :: (40, 3, 15, 1, 0) :: (4, 1, 0, 0, 0) :: (45, 3, 10, 6, 10) :: (41, 3, 16, 0, 0) :: am_j 9 15) [some (.ref q)] [] h (am_K P)) : am_m xs L d 9 [.ref q] h P := by
  unfold am_m
  rw [(kn_9).1, ke_9_0]
  exact k
theorem kg_10 {q : Nat} (k : am_w xs L d 10 ((4, 1, 0, 0, 0) :: (4, 1, 0, 0, 0) :: (62, 3, 11, 1, 121) :: (62, 3, 5, 2, 113) :: (39, 3, 15, 0, 0) :: (0, 1, 0, 0, -1) :: (41, 3, 22, 0, 0) :: am_j 10 15) [some (.ref q)] [] h (am_K P)) : am_m xs L d 10 [.ref q] h P := by
  unfold am_m
  rw [(kn_10).1, ke_10_0]
  exact k
theorem kg_11 {q : Nat} (k : am_w xs L d 11 ((4, 1, 0, 0, 0) :: (45, 3, 6, 6, 6) :: (39, 3, 11, 0, 0) :: (0, 1, 0, 0, 0) :: (41, 3, 12, 0, 0) :: am_j 11 11) [some (.ref q)] [] h (am_K P)) : am_m xs L d 11 [.ref q] h P := by
  unfold am_m
  rw [(kn_11).1, ke_11_0]
  exact k
theorem kg_12 {q : Nat} {x0 : Int32} {x1 : Int32} (k : am_w xs L d 12 ((4, 1, 0, 0, 0) :: (4, 1, 0, 0, 0) :: (2, 1, 1, 0, 0) :: (62, 3, 13, 2, 122) :: (39, 3, 22, 0, 0) :: (2, 1, 2, 0, 0) :: (39, 3, 22, 2, 0) :: (2, 1, 2, 0, 0) :: (0, 1, 0, 0, 4) :: (40, 3, 22, 4, 0) :: (0, 1, 0, 0, 0) :: (41, 3, 23, 0, 0) :: am_j 12 22) [some (.ref q), some (.int x0), some (.int x1)] [] h (am_K P)) : am_m xs L d 12 [.ref q, .int x0, .int x1] h P := by
  unfold am_m
  rw [(kn_12).1, ke_12_0]
  exact k
theorem kg_13 {q : Nat} {x0 : Int32} (k : am_w xs L d 13 ((4, 1, 0, 0, 0) :: (45, 3, 6, 6, 6) :: (39, 3, 26, 0, 0) :: (2, 1, 1, 0, 0) :: (39, 3, 26, 2, 0) :: (2, 1, 1, 0, 0) :: (4, 1, 0, 0, 0) :: (45, 3, 5, 6, 5) :: (62, 3, 170, 1, 127) :: (40, 3, 26, 3, 0) :: (0, 1, 0, 0, 1) :: (41, 3, 27, 0, 0) :: am_j 13 26) [some (.ref q), some (.int x0)] [] h (am_K P)) : am_m xs L d 13 [.ref q, .int x0] h P := by
  unfold am_m
  rw [(kn_13).1, ke_13_0]
  exact k
theorem kg_14 {q : Nat} {x0 : Int32} (k : am_w xs L d 14 ((4, 1, 0, 0, 0) :: (62, 3, 15, 1, 128) :: (2, 1, 1, 0, 0) :: (60, 3, 7, 2, 126) :: (64, 1, 0, 0, 0) :: []) [some (.ref q), some (.int x0)] [] h (am_K P)) : am_m xs L d 14 [.ref q, .int x0] h P := by
  unfold am_m
  rw [(kn_14).1, ke_14_0]
  exact k
theorem kg_15 {q : Nat} (k : am_w xs L d 15 ((4, 1, 0, 0, 0) :: (45, 3, 5, 6, 5) :: (4, 1, 0, 0, 0) :: (45, 3, 2, 6, 2) :: (45, 3, 0, 1, 12) :: (4, 1, 0, 0, 0) :: (45, 3, 2, 6, 2) :: (45, 3, 1, 1, 16) :: (62, 3, 172, 3, 129) :: (64, 1, 0, 0, 0) :: []) [some (.ref q)] [] h (am_K P)) : am_m xs L d 15 [.ref q] h P := by
  unfold am_m
  rw [(kn_15).1, ke_15_0]
  exact k
theorem kg_16 {q : Nat} {x0 : Int32} {x1 : Int32} (k : am_w xs L d 16 ((4, 1, 0, 0, 0) :: (4, 1, 0, 0, 0) :: (2, 1, 1, 0, 0) :: (62, 3, 17, 2, 130) :: (39, 3, 22, 0, 0) :: (2, 1, 2, 0, 0) :: (39, 3, 22, 2, 0) :: (2, 1, 2, 0, 0) :: (0, 1, 0, 0, 3) :: (40, 3, 22, 4, 0) :: (0, 1, 0, 0, 0) :: (41, 3, 23, 0, 0) :: am_j 16 22) [some (.ref q), some (.int x0), some (.int x1), none, none] [] h (am_K P)) : am_m xs L d 16 [.ref q, .int x0, .int x1] h P := by
  unfold am_m
  rw [(kn_16).1, ke_16_0]
  exact k
theorem kg_17 {q : Nat} {x0 : Int32} (k : am_w xs L d 17 ((4, 1, 0, 0, 0) :: (45, 3, 6, 6, 6) :: (39, 3, 26, 0, 0) :: (2, 1, 1, 0, 0) :: (39, 3, 26, 2, 0) :: (2, 1, 1, 0, 0) :: (4, 1, 0, 0, 0) :: (45, 3, 5, 6, 5) :: (45, 3, 1, 5, 11) :: (40, 3, 26, 3, 0) :: (0, 1, 0, 0, 1) :: (41, 3, 27, 0, 0) :: am_j 17 26) [some (.ref q), some (.int x0)] [] h (am_K P)) : am_m xs L d 17 [.ref q, .int x0] h P := by
  unfold am_m
  rw [(kn_17).1, ke_17_0]
  exact k
theorem kg_18 {q : Nat} {x0 : Int32} (k : am_w xs L d 18 ((4, 1, 0, 0, 0) :: (4, 1, 0, 0, 0) :: (2, 1, 1, 0, 0) :: (62, 3, 19, 2, 133) :: (62, 3, 5, 2, 113) :: (39, 3, 16, 0, 0) :: (0, 1, 0, 0, -1) :: (41, 3, 28, 0, 0) :: am_j 18 16) [some (.ref q), some (.int x0)] [] h (am_K P)) : am_m xs L d 18 [.ref q, .int x0] h P := by
  unfold am_m
  rw [(kn_18).1, ke_18_0]
  exact k
theorem kg_19 {q : Nat} {x0 : Int32} (k : am_w xs L d 19 ((4, 1, 0, 0, 0) :: (45, 3, 6, 6, 6) :: (39, 3, 26, 0, 0) :: (2, 1, 1, 0, 0) :: (39, 3, 26, 2, 0) :: (2, 1, 1, 0, 0) :: (4, 1, 0, 0, 0) :: (45, 3, 5, 6, 5) :: (45, 3, 2, 5, 18) :: (40, 3, 26, 3, 0) :: (0, 1, 0, 0, 0) :: (41, 3, 27, 0, 0) :: am_j 19 26) [some (.ref q), some (.int x0)] [] h (am_K P)) : am_m xs L d 19 [.ref q, .int x0] h P := by
  unfold am_m
  rw [(kn_19).1, ke_19_0]
  exact k
theorem kg_20 {q : Nat} {x0 : Int32} (k : am_w xs L d 20 ((4, 1, 0, 0, 0) :: (4, 1, 0, 0, 0) :: (2, 1, 1, 0, 0) :: (62, 3, 19, 2, 133) :: (62, 3, 5, 2, 113) :: (39, 3, 16, 0, 0) :: (0, 1, 0, 0, -1) :: (41, 3, 28, 0, 0) :: am_j 20 16) [some (.ref q), some (.int x0)] [] h (am_K P)) : am_m xs L d 20 [.ref q, .int x0] h P := by
  unfold am_m
  rw [(kn_20).1, ke_20_0]
  exact k
theorem kg_21 {q : Nat} (k : am_w xs L d 21 ((4, 1, 0, 0, 0) :: (4, 1, 0, 0, 0) :: (62, 3, 11, 1, 121) :: (62, 3, 5, 2, 113) :: (39, 3, 15, 0, 0) :: (0, 1, 0, 0, -1) :: (41, 3, 26, 0, 0) :: am_j 21 15) [some (.ref q)] [] h (am_K P)) : am_m xs L d 21 [.ref q] h P := by
  unfold am_m
  rw [(kn_21).1, ke_21_0]
  exact k
theorem kg_22 {q : Nat} (k : am_w xs L d 22 ((4, 1, 0, 0, 0) :: (4, 1, 0, 0, 0) :: (62, 3, 11, 1, 121) :: (62, 3, 5, 2, 113) :: (39, 3, 13, 0, 0) :: (0, 1, 0, 0, -1) :: (64, 1, 0, 0, 0) :: am_j 22 13) [some (.ref q), none, none, none, none, none] [] h (am_K P)) : am_m xs L d 22 [.ref q] h P := by
  unfold am_m
  rw [(kn_22).1, ke_22_0]
  exact k
theorem kg_23 {q : Nat} {x0 : Int32} (k : am_w xs L d 23 ((4, 1, 0, 0, 0) :: (4, 1, 0, 0, 0) :: (2, 1, 1, 0, 0) :: (62, 3, 24, 2, 137) :: (62, 3, 5, 2, 113) :: (39, 3, 16, 0, 0) :: (0, 1, 0, 0, -1) :: (41, 3, 33, 0, 0) :: am_j 23 16) [some (.ref q), some (.int x0)] [] h (am_K P)) : am_m xs L d 23 [.ref q, .int x0] h P := by
  unfold am_m
  rw [(kn_23).1, ke_23_0]
  exact k
theorem kg_24 {q : Nat} {x0 : Int32} (k : am_w xs L d 24 ((4, 1, 0, 0, 0) :: (2, 1, 1, 0, 0) :: (60, 3, 6, 1, 138) :: (62, 3, 25, 2, 139) :: (64, 1, 0, 0, 0) :: []) [some (.ref q), some (.int x0)] [] h (am_K P)) : am_m xs L d 24 [.ref q, .int x0] h P := by
  unfold am_m
  rw [(kn_24).1, ke_24_0]
  exact k
theorem kg_25 {q : Nat} {x0 : Int32} (k : am_w xs L d 25 ((4, 1, 0, 0, 0) :: (45, 3, 6, 6, 6) :: (39, 3, 11, 1, 0) :: (0, 1, 0, 0, 1) :: (41, 3, 20, 0, 0) :: am_j 25 11) [some (.ref q), some (.int x0)] [] h (am_K P)) : am_m xs L d 25 [.ref q, .int x0] h P := by
  unfold am_m
  rw [(kn_25).1, ke_25_0]
  exact k
theorem kg_26 {q : Nat} {x0 : Int32} (k : am_w xs L d 26 ((4, 1, 0, 0, 0) :: (4, 1, 0, 0, 0) :: (2, 1, 1, 0, 0) :: (62, 3, 24, 2, 137) :: (62, 3, 5, 2, 113) :: (39, 3, 16, 0, 0) :: (0, 1, 0, 0, -1) :: (41, 3, 31, 0, 0) :: am_j 26 16) [some (.ref q), some (.int x0)] [] h (am_K P)) : am_m xs L d 26 [.ref q, .int x0] h P := by
  unfold am_m
  rw [(kn_26).1, ke_26_0]
  exact k
theorem kg_27 {q : Nat} {x0 : Int32} (k : am_w xs L d 27 ((4, 1, 0, 0, 0) :: (45, 3, 5, 6, 5) :: (4, 1, 0, 0, 0) :: (45, 3, 5, 6, 5) :: (2, 1, 1, 0, 0) :: (4, 1, 0, 0, 0) :: (45, 3, 2, 6, 2) :: (45, 3, 1, 1, 16) :: (62, 3, 172, 3, 129) :: (62, 3, 177, 2, 136) :: (64, 1, 0, 0, 0) :: []) [some (.ref q), some (.int x0)] [] h (am_K P)) : am_m xs L d 27 [.ref q, .int x0] h P := by
  unfold am_m
  rw [(kn_27).1, ke_27_0]
  exact k
theorem kg_28 {q : Nat} {x0 : Int32} (k : am_w xs L d 28 ((4, 1, 0, 0, 0) :: (4, 1, 0, 0, 0) :: (2, 1, 1, 0, 0) :: (62, 3, 19, 2, 133) :: (62, 3, 5, 2, 113) :: (39, 3, 14, 0, 0) :: (0, 1, 0, 0, -1) :: (64, 1, 0, 0, 0) :: am_j 28 14) [some (.ref q), some (.int x0), none, none] [] h (am_K P)) : am_m xs L d 28 [.ref q, .int x0] h P := by
  unfold am_m
  rw [(kn_28).1, ke_28_0]
  exact k
theorem kg_29 {q : Nat} {x0 : Int32} (k : am_w xs L d 29 ((4, 1, 0, 0, 0) :: (4, 1, 0, 0, 0) :: (2, 1, 1, 0, 0) :: (39, 3, 16, 2, 0) :: (2, 1, 1, 0, 0) :: (0, 2, 0, 0, 99) :: (40, 3, 16, 4, 0) :: (0, 1, 0, 0, 1) :: (41, 3, 17, 0, 0) :: am_j 29 16) [some (.ref q), some (.int x0)] [] h (am_K P)) : am_m xs L d 29 [.ref q, .int x0] h P := by
  unfold am_m
  rw [(kn_29).1, ke_29_0]
  exact k
theorem kg_30 {q : Nat} {x0 : Int32} (k : am_w xs L d 30 ((4, 1, 0, 0, 0) :: (45, 3, 2, 6, 2) :: (45, 3, 0, 1, 12) :: (5, 1, 2, 0, 0) :: (0, 1, 0, 0, 1) :: (5, 1, 3, 0, 0) :: am_j 30 10) [some (.ref q), some (.int x0), none, none] [] h (am_K P)) : am_m xs L d 30 [.ref q, .int x0] h P := by
  unfold am_m
  rw [(kn_30).1, ke_30_0]
  exact k
theorem kg_31 {q : Nat} (k : am_w xs L d 31 ((4, 1, 0, 0, 0) :: (4, 1, 0, 0, 0) :: (62, 3, 11, 1, 121) :: (62, 3, 5, 2, 113) :: (39, 3, 13, 0, 0) :: (0, 1, 0, 0, -1) :: (64, 1, 0, 0, 0) :: am_j 31 13) [some (.ref q), none, none, none, none, none] [] h (am_K P)) : am_m xs L d 31 [.ref q] h P := by
  unfold am_m
  rw [(kn_31).1, ke_31_0]
  exact k
theorem kg_32 {q : Nat} {x0 : Int32} (k : am_w xs L d 32 ((4, 1, 0, 0, 0) :: (4, 1, 0, 0, 0) :: (2, 1, 1, 0, 0) :: (62, 3, 17, 2, 130) :: (39, 3, 13, 0, 0) :: (0, 1, 0, 0, 0) :: (41, 3, 14, 0, 0) :: am_j 32 13) [some (.ref q), some (.int x0), none, none, none] [] h (am_K P)) : am_m xs L d 32 [.ref q, .int x0] h P := by
  unfold am_m
  rw [(kn_32).1, ke_32_0]
  exact k
theorem kg_33 {q : Nat} {x0 : Int32} {x1 : Int32} (k : am_w xs L d 33 ((4, 1, 0, 0, 0) :: (4, 1, 0, 0, 0) :: (2, 1, 1, 0, 0) :: (62, 3, 13, 2, 122) :: (39, 3, 13, 1, 0) :: (0, 1, 0, 0, 1) :: (41, 3, 29, 0, 0) :: am_j 33 13) [some (.ref q), some (.int x0), some (.int x1), none, none, none] [] h (am_K P)) : am_m xs L d 33 [.ref q, .int x0, .int x1] h P := by
  unfold am_m
  rw [(kn_33).1, ke_33_0]
  exact k
theorem kg_34 {q : Nat} (k : am_w xs L d 34 ((4, 1, 0, 0, 0) :: (4, 1, 0, 0, 0) :: (62, 3, 11, 1, 121) :: (62, 3, 5, 2, 113) :: (39, 3, 15, 0, 0) :: (0, 1, 0, 0, -1) :: (41, 3, 22, 0, 0) :: am_j 34 15) [some (.ref q)] [] h (am_K P)) : am_m xs L d 34 [.ref q] h P := by
  unfold am_m
  rw [(kn_34).1, ke_34_0]
  exact k
theorem kg_35 {q : Nat} (k : am_w xs L d 35 ((4, 1, 0, 0, 0) :: (4, 1, 0, 0, 0) :: (62, 3, 11, 1, 121) :: (62, 3, 5, 2, 113) :: (39, 3, 15, 0, 0) :: (0, 1, 0, 0, -1) :: (41, 3, 22, 0, 0) :: am_j 35 15) [some (.ref q)] [] h (am_K P)) : am_m xs L d 35 [.ref q] h P := by
  unfold am_m
  rw [(kn_35).1, ke_35_0]
  exact k
theorem kg_36 {q : Nat} (k : am_w xs L d 36 ((4, 1, 0, 0, 0) :: (4, 1, 0, 0, 0) :: (62, 3, 11, 1, 121) :: (62, 3, 5, 2, 113) :: (39, 3, 13, 0, 0) :: (0, 1, 0, 0, -1) :: (64, 1, 0, 0, 0) :: am_j 36 13) [some (.ref q), none] [] h (am_K P)) : am_m xs L d 36 [.ref q] h P := by
  unfold am_m
  rw [(kn_36).1, ke_36_0]
  exact k
theorem kg_37 {q : Nat} {x0 : Int32} (k : am_w xs L d 37 ((4, 1, 0, 0, 0) :: (4, 1, 0, 0, 0) :: (2, 1, 1, 0, 0) :: (62, 3, 24, 2, 137) :: (62, 3, 5, 2, 113) :: (39, 3, 16, 0, 0) :: (0, 1, 0, 0, -1) :: (41, 3, 24, 0, 0) :: am_j 37 16) [some (.ref q), some (.int x0)] [] h (am_K P)) : am_m xs L d 37 [.ref q, .int x0] h P := by
  unfold am_m
  rw [(kn_37).1, ke_37_0]
  exact k
theorem kg_38 {q : Nat} (k : am_w xs L d 38 ((4, 1, 0, 0, 0) :: (4, 1, 0, 0, 0) :: (62, 3, 11, 1, 121) :: (62, 3, 5, 2, 113) :: (39, 3, 15, 0, 0) :: (0, 1, 0, 0, -1) :: (41, 3, 34, 0, 0) :: am_j 38 15) [some (.ref q)] [] h (am_K P)) : am_m xs L d 38 [.ref q] h P := by
  unfold am_m
  rw [(kn_38).1, ke_38_0]
  exact k
theorem kg_39 {q : Nat} (k : am_w xs L d 39 ((4, 1, 0, 0, 0) :: (4, 1, 0, 0, 0) :: (62, 3, 11, 1, 121) :: (62, 3, 5, 2, 113) :: (39, 3, 15, 0, 0) :: (0, 1, 0, 0, -1) :: (41, 3, 34, 0, 0) :: am_j 39 15) [some (.ref q)] [] h (am_K P)) : am_m xs L d 39 [.ref q] h P := by
  unfold am_m
  rw [(kn_39).1, ke_39_0]
  exact k
theorem kg_40 {q : Nat} (k : am_w xs L d 40 ((4, 1, 0, 0, 0) :: (4, 1, 0, 0, 0) :: (62, 3, 11, 1, 121) :: (62, 3, 5, 2, 113) :: (39, 3, 15, 0, 0) :: (0, 1, 0, 0, -1) :: (41, 3, 33, 0, 0) :: am_j 40 15) [some (.ref q)] [] h (am_K P)) : am_m xs L d 40 [.ref q] h P := by
  unfold am_m
  rw [(kn_40).1, ke_40_0]
  exact k
theorem kg_41 {q : Nat} {x0 : Int32} (k : am_w xs L d 41 ((4, 1, 0, 0, 0) :: (4, 1, 0, 0, 0) :: (2, 1, 1, 0, 0) :: (62, 3, 19, 2, 133) :: (62, 3, 5, 2, 113) :: (39, 3, 14, 0, 0) :: (0, 1, 0, 0, -1) :: (64, 1, 0, 0, 0) :: am_j 41 14) [some (.ref q), some (.int x0), none, none, none] [] h (am_K P)) : am_m xs L d 41 [.ref q, .int x0] h P := by
  unfold am_m
  rw [(kn_41).1, ke_41_0]
  exact k
theorem kg_42 {q : Nat} (k : am_w xs L d 42 ((4, 1, 0, 0, 0) :: (4, 1, 0, 0, 0) :: (62, 3, 11, 1, 121) :: (62, 3, 5, 2, 113) :: (39, 3, 15, 0, 0) :: (0, 1, 0, 0, -1) :: (41, 3, 36, 0, 0) :: am_j 42 15) [some (.ref q)] [] h (am_K P)) : am_m xs L d 42 [.ref q] h P := by
  unfold am_m
  rw [(kn_42).1, ke_42_0]
  exact k
theorem kg_43 {q : Nat} (k : am_w xs L d 43 ((4, 1, 0, 0, 0) :: (4, 1, 0, 0, 0) :: (62, 3, 11, 1, 121) :: (62, 3, 5, 2, 113) :: (39, 3, 13, 0, 0) :: (0, 1, 0, 0, -1) :: (64, 1, 0, 0, 0) :: am_j 43 13) [some (.ref q), none, none, none, none, none] [] h (am_K P)) : am_m xs L d 43 [.ref q] h P := by
  unfold am_m
  rw [(kn_43).1, ke_43_0]
  exact k
theorem kg_44 {q : Nat} {x0 : Int32} {x1 : Int32} (k : am_w xs L d 44 ((4, 1, 0, 0, 0) :: (4, 1, 0, 0, 0) :: (45, 3, 6, 6, 6) :: (39, 3, 23, 0, 0) :: (2, 1, 1, 0, 0) :: (39, 3, 23, 2, 0) :: (2, 1, 1, 0, 0) :: (4, 1, 0, 0, 0) :: (45, 3, 5, 6, 5) :: (45, 3, 7, 5, 21) :: (40, 3, 27, 2, 0) :: am_j 44 23) [some (.ref q), some (.int x0), some (.int x1)] [] h (am_K P)) : am_m xs L d 44 [.ref q, .int x0, .int x1] h P := by
  unfold am_m
  rw [(kn_44).1, ke_44_0]
  exact k
theorem kg_45 {q : Nat} {x0 : Int32} (k : am_w xs L d 45 ((4, 1, 0, 0, 0) :: (4, 1, 0, 0, 0) :: (2, 1, 1, 0, 0) :: (62, 3, 24, 2, 137) :: (62, 3, 5, 2, 113) :: (39, 3, 16, 0, 0) :: (0, 1, 0, 0, -1) :: (41, 3, 24, 0, 0) :: am_j 45 16) [some (.ref q), some (.int x0)] [] h (am_K P)) : am_m xs L d 45 [.ref q, .int x0] h P := by
  unfold am_m
  rw [(kn_45).1, ke_45_0]
  exact k
theorem kg_46 {q : Nat} (k : am_w xs L d 46 ((4, 1, 0, 0, 0) :: (4, 1, 0, 0, 0) :: (62, 3, 11, 1, 121) :: (62, 3, 5, 2, 113) :: (39, 3, 13, 0, 0) :: (0, 1, 0, 0, -1) :: (64, 1, 0, 0, 0) :: am_j 46 13) [some (.ref q), none, none] [] h (am_K P)) : am_m xs L d 46 [.ref q] h P := by
  unfold am_m
  rw [(kn_46).1, ke_46_0]
  exact k
theorem kg_47 {q : Nat} {x0 : Int32} (k : am_w xs L d 47 ((4, 1, 0, 0, 0) :: (4, 1, 0, 0, 0) :: (2, 1, 1, 0, 0) :: (62, 3, 24, 2, 137) :: (62, 3, 5, 2, 113) :: (39, 3, 16, 0, 0) :: (0, 1, 0, 0, -1) :: (41, 3, 24, 0, 0) :: am_j 47 16) [some (.ref q), some (.int x0)] [] h (am_K P)) : am_m xs L d 47 [.ref q, .int x0] h P := by
  unfold am_m
  rw [(kn_47).1, ke_47_0]
  exact k
theorem kg_48 {q : Nat} {x0 : Int32} (k : am_w xs L d 48 ((4, 1, 0, 0, 0) :: (4, 1, 0, 0, 0) :: (2, 1, 1, 0, 0) :: (62, 3, 49, 2, 153) :: (62, 3, 5, 2, 113) :: (39, 3, 14, 0, 0) :: (0, 1, 0, 0, -1) :: (64, 1, 0, 0, 0) :: am_j 48 14) [some (.ref q), some (.int x0)] [] h (am_K P)) : am_m xs L d 48 [.ref q, .int x0] h P := by
  unfold am_m
  rw [(kn_48).1, ke_48_0]
  exact k
theorem kg_49 {q : Nat} {x0 : Int32} (k : am_w xs L d 49 ((4, 1, 0, 0, 0) :: (2, 1, 1, 0, 0) :: (62, 3, 13, 2, 122) :: (39, 3, 12, 1, 0) :: (0, 1, 0, 0, 1) :: (41, 3, 25, 0, 0) :: am_j 49 12) [some (.ref q), some (.int x0)] [] h (am_K P)) : am_m xs L d 49 [.ref q, .int x0] h P := by
  unfold am_m
  rw [(kn_49).1, ke_49_0]
  exact k
theorem kg_50 {q : Nat} (k : am_w xs L d 50 ((4, 1, 0, 0, 0) :: (4, 1, 0, 0, 0) :: (62, 3, 11, 1, 121) :: (62, 3, 5, 2, 113) :: (39, 3, 13, 0, 0) :: (0, 1, 0, 0, -1) :: (64, 1, 0, 0, 0) :: am_j 50 13) [some (.ref q), none] [] h (am_K P)) : am_m xs L d 50 [.ref q] h P := by
  unfold am_m
  rw [(kn_50).1, ke_50_0]
  exact k
theorem kg_51 {q : Nat} {x0 : Int32} (k : am_w xs L d 51 ((4, 1, 0, 0, 0) :: (4, 1, 0, 0, 0) :: (2, 1, 1, 0, 0) :: (62, 3, 49, 2, 153) :: (62, 3, 5, 2, 113) :: (39, 3, 14, 0, 0) :: (0, 1, 0, 0, -1) :: (64, 1, 0, 0, 0) :: am_j 51 14) [some (.ref q), some (.int x0)] [] h (am_K P)) : am_m xs L d 51 [.ref q, .int x0] h P := by
  unfold am_m
  rw [(kn_51).1, ke_51_0]
  exact k
theorem kg_52 {q : Nat} (k : am_w xs L d 52 ((4, 1, 0, 0, 0) :: (4, 1, 0, 0, 0) :: (62, 3, 11, 1, 121) :: (62, 3, 5, 2, 113) :: (39, 3, 13, 0, 0) :: (0, 1, 0, 0, -1) :: (64, 1, 0, 0, 0) :: am_j 52 13) [some (.ref q)] [] h (am_K P)) : am_m xs L d 52 [.ref q] h P := by
  unfold am_m
  rw [(kn_52).1, ke_52_0]
  exact k
theorem kg_53 {q : Nat} {x0 : Int32} (k : am_w xs L d 53 ((4, 1, 0, 0, 0) :: (4, 1, 0, 0, 0) :: (2, 1, 1, 0, 0) :: (62, 3, 49, 2, 153) :: (62, 3, 5, 2, 113) :: (39, 3, 14, 0, 0) :: (0, 1, 0, 0, -1) :: (64, 1, 0, 0, 0) :: am_j 53 14) [some (.ref q), some (.int x0)] [] h (am_K P)) : am_m xs L d 53 [.ref q, .int x0] h P := by
  unfold am_m
  rw [(kn_53).1, ke_53_0]
  exact k
theorem kg_54 {q : Nat} {x0 : Int32} {x1 : Int32} {x2 : Int32} (k : am_w xs L d 54 ((4, 1, 0, 0, 0) :: (4, 1, 0, 0, 0) :: (2, 1, 1, 0, 0) :: (62, 3, 17, 2, 130) :: (39, 3, 13, 1, 0) :: (0, 1, 0, 0, 1) :: (41, 3, 26, 0, 0) :: am_j 54 13) [some (.ref q), some (.int x0), some (.int x1), some (.int x2), none] [] h (am_K P)) : am_m xs L d 54 [.ref q, .int x0, .int x1, .int x2] h P := by
  unfold am_m
  rw [(kn_54).1, ke_54_0]
  exact k
theorem kg_55 {q : Nat} {x0 : Int32} (k : am_w xs L d 55 ((2, 1, 1, 0, 0) :: (39, 3, 21, 2, 0) :: (2, 1, 1, 0, 0) :: (0, 1, 0, 0, 3) :: (40, 3, 21, 4, 0) :: (2, 1, 1, 0, 0) :: (4, 1, 0, 0, 0) :: (62, 3, 56, 1, 161) :: (40, 3, 21, 4, 0) :: (0, 1, 0, 0, 1) :: (41, 3, 22, 0, 0) :: am_j 55 21) [some (.ref q), some (.int x0)] [] h (am_K P)) : am_m xs L d 55 [.ref q, .int x0] h P := by
  unfold am_m
  rw [(kn_55).1, ke_55_0]
  exact k
theorem kg_56 {q : Nat} (k : am_w xs L d 56 ((0, 2, 0, 0, 26) :: (4, 1, 0, 0, 0) :: (45, 3, 2, 6, 2) :: (45, 3, 0, 1, 12) :: (60, 3, 315, 1, 132) :: (10, 1, 0, 0, 0) :: (64, 1, 0, 0, 0) :: []) [some (.ref q)] [] h (am_K P)) : am_m xs L d 56 [.ref q] h P := by
  unfold am_m
  rw [(kn_56).1, ke_56_0]
  exact k
theorem kg_57 {q : Nat} {x0 : Int32} {x1 : Int32} (k : am_w xs L d 57 ((4, 1, 0, 0, 0) :: (4, 1, 0, 0, 0) :: (4, 1, 0, 0, 0) :: (2, 1, 1, 0, 0) :: (62, 3, 55, 2, 159) :: (62, 3, 25, 2, 139) :: (62, 3, 5, 2, 113) :: (39, 3, 20, 0, 0) :: (1, 3, 2, 0, -1) :: (65, 1, 0, 0, 0) :: am_j 57 20) [some (.ref q), some (.int x0), some (.int x1), none] [] h (am_K P)) : am_m xs L d 57 [.ref q, .int x0, .int x1] h P := by
  unfold am_m
  rw [(kn_57).1, ke_57_0]
  exact k
theorem kg_58 {q : Nat} {x0 : Int32} (k : am_w xs L d 58 ((4, 1, 0, 0, 0) :: (4, 1, 0, 0, 0) :: (2, 1, 1, 0, 0) :: (60, 3, 76, 1, 164) :: (62, 3, 25, 2, 139) :: (62, 3, 5, 2, 113) :: (39, 3, 17, 0, 0) :: (0, 1, 0, 0, -1) :: (64, 1, 0, 0, 0) :: am_j 58 17) [some (.ref q), some (.int x0), none, none, none] [] h (am_K P)) : am_m xs L d 58 [.ref q, .int x0] h P := by
  unfold am_m
  rw [(kn_58).1, ke_58_0]
  exact k
theorem kg_59 {q : Nat} {x0 : Int32} {x1 : Int32} (k : am_w xs L d 59 ((4, 1, 0, 0, 0) :: (4, 1, 0, 0, 0) :: (2, 1, 1, 0, 0) :: (60, 3, 76, 1, 164) :: (39, 3, 25, 0, 0) :: (2, 1, 2, 0, 0) :: (39, 3, 25, 2, 0) :: (2, 1, 2, 0, 0) :: (4, 1, 0, 0, 0) :: (62, 3, 56, 1, 161) :: (40, 3, 25, 4, 0) :: (0, 1, 0, 0, 1) :: (41, 3, 26, 0, 0) :: am_j 59 25) [some (.ref q), some (.int x0), some (.int x1)] [] h (am_K P)) : am_m xs L d 59 [.ref q, .int x0, .int x1] h P := by
  unfold am_m
  rw [(kn_59).1, ke_59_0]
  exact k
theorem kg_60 {q : Nat} {x0 : Int32} {x1 : Int32} (k : am_w xs L d 60 ((4, 1, 0, 0, 0) :: (4, 1, 0, 0, 0) :: (2, 1, 1, 0, 0) :: (60, 3, 76, 1, 164) :: (39, 3, 26, 0, 0) :: (2, 1, 2, 0, 0) :: (0, 1, 0, 0, 1) :: (40, 3, 26, 2, 0) :: (2, 1, 2, 0, 0) :: (4, 1, 0, 0, 0) :: (62, 3, 56, 1, 161) :: (40, 3, 26, 4, 0) :: (0, 1, 0, 0, 1) :: (41, 3, 27, 0, 0) :: am_j 60 26) [some (.ref q), some (.int x0), some (.int x1), none] [] h (am_K P)) : am_m xs L d 60 [.ref q, .int x0, .int x1] h P := by
  unfold am_m
  rw [(kn_60).1, ke_60_0]
  exact k
theorem kg_61 {q : Nat} {x0 : Int32} (k : am_w xs L d 61 ((4, 1, 0, 0, 0) :: (4, 1, 0, 0, 0) :: (2, 1, 1, 0, 0) :: (62, 3, 24, 2, 137) :: (62, 3, 5, 2, 113) :: (39, 3, 38, 1, 0) :: (4, 1, 0, 0, 0) :: (4, 1, 0, 0, 0) :: (45, 3, 2, 6, 2) :: (45, 3, 0, 1, 12) :: (2, 1, 1, 0, 0) :: (60, 3, 7, 2, 126) :: (39, 3, 31, 0, 0) :: (0, 1, 0, 0, 5) :: (41, 3, 32, 0, 0) :: am_j 61 31) [some (.ref q), some (.int x0)] [] h (am_K P)) : am_m xs L d 61 [.ref q, .int x0] h P := by
  unfold am_m
  rw [(kn_61).1, ke_61_0]
  exact k
theorem kg_62 {q : Nat} {x0 : Int32} (k : am_w xs L d 62 ((4, 1, 0, 0, 0) :: (4, 1, 0, 0, 0) :: (2, 1, 1, 0, 0) :: (62, 3, 24, 2, 137) :: (62, 3, 5, 2, 113) :: (39, 3, 38, 1, 0) :: (4, 1, 0, 0, 0) :: (4, 1, 0, 0, 0) :: (45, 3, 2, 6, 2) :: (45, 3, 0, 1, 12) :: (2, 1, 1, 0, 0) :: (60, 3, 7, 2, 126) :: (39, 3, 31, 0, 0) :: (0, 1, 0, 0, 0) :: (41, 3, 32, 0, 0) :: am_j 62 31) [some (.ref q), some (.int x0)] [] h (am_K P)) : am_m xs L d 62 [.ref q, .int x0] h P := by
  unfold am_m
  rw [(kn_62).1, ke_62_0]
  exact k
theorem kg_63 {q : Nat} {x0 : Int32} (k : am_w xs L d 63 ((4, 1, 0, 0, 0) :: (4, 1, 0, 0, 0) :: (45, 3, 6, 6, 6) :: (39, 3, 23, 0, 0) :: (2, 1, 1, 0, 0) :: (39, 3, 23, 2, 0) :: (2, 1, 1, 0, 0) :: (4, 1, 0, 0, 0) :: (45, 3, 5, 6, 5) :: (45, 3, 4, 5, 22) :: (40, 3, 27, 2, 0) :: am_j 63 23) [some (.ref q), some (.int x0)] [] h (am_K P)) : am_m xs L d 63 [.ref q, .int x0] h P := by
  unfold am_m
  rw [(kn_63).1, ke_63_0]
  exact k
theorem kg_64 {q : Nat} {x0 : Int32} (k : am_w xs L d 64 ((4, 1, 0, 0, 0) :: (4, 1, 0, 0, 0) :: (2, 1, 1, 0, 0) :: (0, 1, 0, 0, 1) :: (40, 3, 17, 2, 0) :: (2, 1, 1, 0, 0) :: (0, 2, 0, 0, 99) :: (40, 3, 17, 4, 0) :: (0, 1, 0, 0, 1) :: (41, 3, 18, 0, 0) :: am_j 64 17) [some (.ref q), some (.int x0), none, none] [] h (am_K P)) : am_m xs L d 64 [.ref q, .int x0] h P := by
  unfold am_m
  rw [(kn_64).1, ke_64_0]
  exact k
theorem kg_65 {q : Nat} (k : am_w xs L d 65 ((4, 1, 0, 0, 0) :: (4, 1, 0, 0, 0) :: (45, 3, 3, 6, 3) :: (62, 3, 109, 1, 169) :: (39, 3, 16, 1, 0) :: (0, 2, 0, 0, 6) :: (41, 3, 17, 0, 0) :: am_j 65 16) [some (.ref q)] [] h (am_K P)) : am_m xs L d 65 [.ref q] h P := by
  unfold am_m
  rw [(kn_65).1, ke_65_0]
  exact k
theorem kg_66 {q : Nat} (k : am_w xs L d 66 ((4, 1, 0, 0, 0) :: (4, 1, 0, 0, 0) :: (45, 3, 6, 6, 6) :: (39, 3, 12, 1, 0) :: (0, 1, 0, 0, 1) :: (41, 3, 28, 0, 0) :: am_j 66 12) [some (.ref q)] [] h (am_K P)) : am_m xs L d 66 [.ref q] h P := by
  unfold am_m
  rw [(kn_66).1, ke_66_0]
  exact k
theorem kg_67 {q : Nat} {x0 : Int32} (k : am_w xs L d 67 ((4, 1, 0, 0, 0) :: (2, 1, 1, 0, 0) :: (39, 3, 16, 2, 0) :: (2, 1, 1, 0, 0) :: (4, 1, 0, 0, 0) :: (45, 3, 3, 6, 3) :: (62, 3, 111, 1, 171) :: (40, 3, 20, 2, 0) :: am_j 67 16) [some (.ref q), some (.int x0)] [] h (am_K P)) : am_m xs L d 67 [.ref q, .int x0] h P := by
  unfold am_m
  rw [(kn_67).1, ke_67_0]
  exact k
theorem kg_68 {q : Nat} {x0 : Int32} (k : am_w xs L d 68 ((2, 1, 1, 0, 0) :: (44, 63, 3, 0, 0) :: am_j 68 64) [some (.ref q), some (.int x0)] [] h (am_K P)) : am_m xs L d 68 [.ref q, .int x0] h P := by
  unfold am_m
  rw [(kn_68).1, ke_68_0]
  exact k
theorem kg_69 {q : Nat} (k : am_w xs L d 69 ((4, 1, 0, 0, 0) :: (45, 3, 8, 6, 8) :: (64, 1, 0, 0, 0) :: []) [some (.ref q)] [] h (am_K P)) : am_m xs L d 69 [.ref q] h P := by
  unfold am_m
  rw [(kn_69).1, ke_69_0]
  exact k
theorem kg_70 {q : Nat} {x0 : Int32} (k : am_w xs L d 70 ((0, 1, 0, 0, 1) :: (4, 1, 0, 0, 0) :: (45, 3, 5, 6, 5) :: (45, 3, 1, 5, 11) :: (15, 1, 0, 0, 0) :: (0, 1, 0, 0, 1) :: (10, 1, 0, 0, 0) :: (4, 1, 0, 0, 0) :: (45, 3, 5, 6, 5) :: (4, 1, 0, 0, 0) :: (62, 3, 15, 1, 128) :: (62, 3, 177, 2, 136) :: (0, 1, 0, 0, -1) :: (20, 1, 0, 0, 0) :: (18, 1, 0, 0, 0) :: (5, 1, 2, 0, 0) :: (0, 1, 0, 0, 0) :: (5, 1, 3, 0, 0) :: (0, 1, 0, 0, 0) :: (5, 2, 4, 0, 0) :: am_j 70 31) [some (.ref q), some (.int x0), none, none, none] [] h (am_K P)) : am_m xs L d 70 [.ref q, .int x0] h P := by
  unfold am_m
  rw [(kn_70).1, ke_70_0]
  exact k
theorem kg_71 {x0 : Nat} {x1 : Int32} {x2 : Int32} {x3 : Int32} {x4 : Int32} (k : am_w xs L d 71 ((2, 2, 4, 0, 0) :: (0, 1, 0, 0, 3) :: (40, 3, 10, 5, 0) :: (0, 1, 0, 0, 0) :: (41, 3, 20, 0, 0) :: am_j 71 10) [some (.ref x0), some (.int x1), some (.int x2), some (.int x3), some (.int x4)] [] h (am_K P)) : am_m xs L d 71 [.ref x0, .int x1, .int x2, .int x3, .int x4] h P := by
  unfold am_m
  rw [(kn_71).1, ke_71_0]
  exact k
theorem kg_72 {x0 : Nat} {x1 : Int32} {x2 : Int32} {x3 : Int32} {x4 : Int32} {x5 : Int32} (k : am_w xs L d 72 ((2, 2, 5, 0, 0) :: (39, 3, 16, 4, 0) :: (4, 1, 0, 0, 0) :: (2, 1, 3, 0, 0) :: (62, 3, 177, 2, 175) :: (2, 1, 1, 0, 0) :: (18, 1, 0, 0, 0) :: (60, 3, 315, 1, 176) :: (64, 1, 0, 0, 0) :: am_j 72 16) [some (.ref x0), some (.int x1), some (.int x2), some (.int x3), some (.int x4), some (.int x5), none, none] [] h (am_K P)) : am_m xs L d 72 [.ref x0, .int x1, .int x2, .int x3, .int x4, .int x5] h P := by
  unfold am_m
  rw [(kn_72).1, ke_72_0]
  exact k
theorem kg_73 {x0 : Int32} {x1 : Int32} (k : am_w xs L d 73 ((0, 1, 0, 0, 1) :: (5, 1, 2, 0, 0) :: (0, 1, 0, 0, 0) :: (5, 1, 3, 0, 0) :: am_j 73 4) [some (.int x0), some (.int x1), none, none] [] h (am_K P)) : am_m xs L d 73 [.int x0, .int x1] h P := by
  unfold am_m
  rw [(kn_73).1, ke_73_0]
  exact k
theorem kg_74 {x0 : Int32} {x1 : Int32} {x2 : Int32} (k : am_w xs L d 74 ((2, 1, 1, 0, 0) :: (2, 1, 0, 0, 0) :: (60, 3, 75, 2, 178) :: (5, 1, 3, 0, 0) :: (2, 1, 3, 0, 0) :: (39, 3, 14, 1, 0) :: (1, 1, 0, 0, 0) :: (41, 3, 26, 0, 0) :: am_j 74 14) [some (.int x0), some (.int x1), some (.int x2), none] [] h (am_K P)) : am_m xs L d 74 [.int x0, .int x1, .int x2] h P := by
  unfold am_m
  rw [(kn_74).1, ke_74_0]
  exact k
theorem kg_75 {x0 : Int32} {x1 : Int32} (k : am_w xs L d 75 ((2, 1, 0, 0, 0) :: (5, 1, 2, 0, 0) :: (2, 1, 1, 0, 0) :: (5, 1, 3, 0, 0) :: (0, 1, 0, 0, 0) :: (5, 2, 4, 0, 0) :: am_j 75 7) [some (.int x0), some (.int x1), none, none, none, none] [] h (am_K P)) : am_m xs L d 75 [.int x0, .int x1] h P := by
  unfold am_m
  rw [(kn_75).1, ke_75_0]
  exact k
theorem kg_76 {x0 : Int32} (k : am_w xs L d 76 ((2, 1, 0, 0, 0) :: (39, 3, 14, 2, 0) :: (2, 1, 0, 0, 0) :: (0, 2, 3, 0, 65537) :: (40, 3, 14, 3, 0) :: (0, 1, 0, 0, 1) :: (41, 3, 15, 0, 0) :: am_j 76 14) [some (.int x0)] [] h (am_K P)) : am_m xs L d 76 [.int x0] h P := by
  unfold am_m
  rw [(kn_76).1, ke_76_0]
  exact k
theorem kg_77 {x0 : Int32} (k : am_w xs L d 77 ((0, 2, 0, 0, 75) :: (2, 1, 0, 0, 0) :: (11, 1, 0, 0, 0) :: (0, 2, 0, 0, 74) :: (9, 1, 0, 0, 0) :: (0, 2, 3, 0, 65537) :: (13, 1, 0, 0, 0) :: (64, 1, 0, 0, 0) :: []) [some (.int x0)] [] h (am_K P)) : am_m xs L d 77 [.int x0] h P := by
  unfold am_m
  rw [(kn_77).1, ke_77_0]
  exact k
theorem kg_78 {x0 : Int32} {x1 : Int32} (k : am_w xs L d 78 ((0, 2, 0, 0, 26) :: (2, 1, 0, 0, 0) :: (0, 2, 4, 0, 67108863) :: (18, 1, 0, 0, 0) :: (60, 3, 315, 1, 176) :: (10, 1, 0, 0, 0) :: (5, 1, 2, 0, 0) :: (2, 1, 2, 0, 0) :: (39, 3, 21, 5, 0) :: (2, 1, 1, 0, 0) :: (2, 1, 2, 0, 0) :: (13, 1, 0, 0, 0) :: (41, 3, 22, 0, 0) :: am_j 78 21) [some (.int x0), some (.int x1), none, none, none] [] h (am_K P)) : am_m xs L d 78 [.int x0, .int x1] h P := by
  unfold am_m
  rw [(kn_78).1, ke_78_0]
  exact k
theorem kg_79 {x0 : Int32} {x1 : Int32} {x2 : Int32} (k : am_w xs L d 79 ((2, 1, 0, 0, 0) :: (5, 1, 3, 0, 0) :: (2, 1, 1, 0, 0) :: (5, 2, 4, 0, 0) :: (0, 1, 0, 0, 0) :: (5, 2, 5, 0, 0) :: am_j 79 8) [some (.int x0), some (.int x1), some (.int x2), none, none, none] [] h (am_K P)) : am_m xs L d 79 [.int x0, .int x1, .int x2] h P := by
  unfold am_m
  rw [(kn_79).1, ke_79_0]
  exact k
theorem kg_80 {x0 : Nat} (k : am_w xs L d 80 ((0, 2, 5, 0, 67108863) :: (5, 1, 1, 0, 0) :: (0, 1, 0, 0, 0) :: (5, 1, 2, 0, 0) :: am_j 80 5) [some (.ref x0), none, none] [] h (am_K P)) : am_m xs L d 80 [.ref x0] h P := by
  unfold am_m
  rw [(kn_80).1, ke_80_0]
  exact k
theorem kg_81 {x0 : Nat} (k : am_w xs L d 81 ((4, 1, 0, 0, 0) :: (60, 3, 80, 1, 182) :: (39, 3, 10, 1, 0) :: (0, 2, 0, 0, -2) :: (64, 1, 0, 0, 0) :: am_j 81 10) [some (.ref x0), none, none, none, none] [] h (am_K P)) : am_m xs L d 81 [.ref x0] h P := by
  unfold am_m
  rw [(kn_81).1, ke_81_0]
  exact k
theorem kg_82 {x0 : Nat} {x1 : Int32} (k : am_w xs L d 82 ((4, 1, 0, 0, 0) :: (60, 3, 80, 1, 182) :: (5, 1, 2, 0, 0) :: (4, 1, 0, 0, 0) :: (45, 3, 11, 5, 32) :: (2, 1, 1, 0, 0) :: (49, 1, 0, 0, 0) :: (60, 3, 119, 1, 184) :: (5, 1, 3, 0, 0) :: (2, 1, 2, 0, 0) :: (2, 1, 3, 0, 0) :: (18, 1, 0, 0, 0) :: (60, 3, 315, 1, 185) :: (2, 1, 2, 0, 0) :: (2, 1, 3, 0, 0) :: (0, 1, 0, 0, -1) :: (20, 1, 0, 0, 0) :: (18, 1, 0, 0, 0) :: (60, 3, 315, 1, 185) :: (71, 3, 0, 0, 186) :: (64, 1, 0, 0, 0) :: []) [some (.ref x0), some (.int x1), none, none] [] h (am_K P)) : am_m xs L d 82 [.ref x0, .int x1] h P := by
  unfold am_m
  rw [(kn_82).1, ke_82_0]
  exact k
theorem kg_83 {x0 : Nat} {x1 : Int32} (k : am_w xs L d 83 ((0, 1, 0, 0, 0) :: (5, 1, 2, 0, 0) :: am_j 83 2) [some (.ref x0), some (.int x1), none] [] h (am_K P)) : am_m xs L d 83 [.ref x0, .int x1] h P := by
  unfold am_m
  rw [(kn_83).1, ke_83_0]
  exact k
theorem kg_84 {q : Nat} (k : am_w xs L d 84 ((4, 1, 0, 0, 0) :: (61, 3, 0, 0, 187) :: (4, 1, 0, 0, 0) :: (0, 2, 0, 0, 12) :: (57, 2, 0, 0, 0) :: (47, 3, 0, 0, 33) :: (4, 1, 0, 0, 0) :: (0, 2, 0, 0, 12) :: (57, 2, 0, 0, 0) :: (47, 3, 1, 0, 34) :: (4, 1, 0, 0, 0) :: (0, 3, 0, 0, 4096) :: (57, 2, 0, 0, 0) :: (47, 3, 2, 0, 35) :: (4, 1, 0, 0, 0) :: (0, 3, 0, 0, 4096) :: (57, 2, 0, 0, 0) :: (47, 3, 3, 0, 36) :: (4, 1, 0, 0, 0) :: (0, 1, 0, 0, 0) :: (46, 3, 4, 0, 37) :: (4, 1, 0, 0, 0) :: (0, 1, 0, 0, 0) :: (46, 3, 5, 0, 38) :: (4, 1, 0, 0, 0) :: (0, 1, 0, 0, 0) :: (46, 3, 6, 0, 39) :: (4, 1, 0, 0, 0) :: (0, 1, 0, 0, -1) :: (46, 3, 7, 0, 40) :: (67, 1, 0, 0, 0) :: []) [some (.ref q)] [] h (am_K P)) : am_m xs L d 84 [.ref q] h P := by
  unfold am_m
  rw [(kn_84).1, ke_84_0]
  exact k
theorem kg_85 {q : Nat} (k : am_w xs L d 85 ((4, 1, 0, 0, 0) :: (0, 1, 0, 0, 0) :: (46, 3, 5, 0, 38) :: (67, 1, 0, 0, 0) :: []) [some (.ref q)] [] h (am_K P)) : am_m xs L d 85 [.ref q] h P := by
  unfold am_m
  rw [(kn_85).1, ke_85_0]
  exact k
theorem kg_86 {q : Nat} {x0 : Nat} {x1 : Int32} (k : am_w xs L d 86 ((4, 1, 0, 0, 0) :: (45, 3, 5, 0, 38) :: (39, 3, 16, 0, 0) :: (4, 1, 0, 0, 0) :: (45, 3, 4, 0, 37) :: (2, 1, 2, 0, 0) :: (40, 3, 16, 1, 0) :: (67, 1, 0, 0, 0) :: am_j 86 16) [some (.ref q), some (.ref x0), some (.int x1), none, none] [] h (am_K P)) : am_m xs L d 86 [.ref q, .ref x0, .int x1] h P := by
  unfold am_m
  rw [(kn_86).1, ke_86_0]
  exact k
theorem kg_87 {q : Nat} {x0 : Int32} {x1 : Int32} (k : am_w xs L d 87 ((4, 1, 0, 0, 0) :: (45, 3, 6, 0, 39) :: (39, 3, 16, 1, 0) :: (4, 1, 0, 0, 0) :: (62, 3, 88, 1, 192) :: (4, 1, 0, 0, 0) :: (0, 1, 0, 0, 1) :: (46, 3, 6, 0, 39) :: am_j 87 16) [some (.ref q), some (.int x0), some (.int x1)] [] h (am_K P)) : am_m xs L d 87 [.ref q, .int x0, .int x1] h P := by
  unfold am_m
  rw [(kn_87).1, ke_87_0]
  exact k
theorem kg_88 {q : Nat} (k : am_w xs L d 88 ((4, 1, 0, 0, 0) :: (45, 3, 4, 0, 37) :: (5, 1, 1, 0, 0) :: am_j 88 5) [some (.ref q), none] [] h (am_K P)) : am_m xs L d 88 [.ref q] h P := by
  unfold am_m
  rw [(kn_88).1, ke_88_0]
  exact k
theorem kg_89 {q : Nat} {x0 : Int32} (k : am_w xs L d 89 ((4, 1, 0, 0, 0) :: (45, 3, 4, 0, 37) :: (2, 1, 1, 0, 0) :: (0, 1, 0, 0, -1) :: (20, 1, 0, 0, 0) :: (18, 1, 0, 0, 0) :: (5, 1, 2, 0, 0) :: (0, 1, 0, 0, 0) :: (5, 1, 3, 0, 0) :: (0, 1, 0, 0, 0) :: (5, 2, 4, 0, 0) :: am_j 89 14) [some (.ref q), some (.int x0), none, none, none] [] h (am_K P)) : am_m xs L d 89 [.ref q, .int x0] h P := by
  unfold am_m
  rw [(kn_89).1, ke_89_0]
  exact k
theorem kg_90 {q : Nat} {x0 : Int32} {x1 : Int32} (k : am_w xs L d 90 ((0, 1, 0, 0, 0) :: (5, 1, 3, 0, 0) :: (0, 1, 0, 0, 0) :: (5, 2, 4, 0, 0) :: am_j 90 5) [some (.ref q), some (.int x0), some (.int x1), none, none] [] h (am_K P)) : am_m xs L d 90 [.ref q, .int x0, .int x1] h P := by
  unfold am_m
  rw [(kn_90).1, ke_90_0]
  exact k
theorem kg_91 {q : Nat} {x0 : Int32} {x1 : Int32} (k : am_w xs L d 91 ((0, 1, 0, 0, 0) :: (5, 1, 3, 0, 0) :: am_j 91 2) [some (.ref q), some (.int x0), some (.int x1), none] [] h (am_K P)) : am_m xs L d 91 [.ref q, .int x0, .int x1] h P := by
  unfold am_m
  rw [(kn_91).1, ke_91_0]
  exact k
theorem kg_92 {q : Nat} {x0 : Int32} (k : am_w xs L d 92 ((2, 1, 1, 0, 0) :: (39, 3, 19, 2, 0) :: (2, 1, 1, 0, 0) :: (0, 2, 0, 0, 12) :: (40, 3, 19, 3, 0) :: (4, 1, 0, 0, 0) :: (45, 3, 0, 0, 33) :: (2, 1, 1, 0, 0) :: (48, 1, 0, 0, 0) :: (41, 3, 20, 0, 0) :: am_j 92 19) [some (.ref q), some (.int x0)] [] h (am_K P)) : am_m xs L d 92 [.ref q, .int x0] h P := by
  unfold am_m
  rw [(kn_92).1, ke_92_0]
  exact k
theorem kg_93 {q : Nat} (k : am_w xs L d 93 ((4, 1, 0, 0, 0) :: (45, 3, 7, 0, 40) :: (39, 3, 15, 3, 0) :: (4, 1, 0, 0, 0) :: (4, 1, 0, 0, 0) :: (62, 3, 94, 1, 196) :: (46, 3, 7, 0, 40) :: am_j 93 15) [some (.ref q)] [] h (am_K P)) : am_m xs L d 93 [.ref q] h P := by
  unfold am_m
  rw [(kn_93).1, ke_93_0]
  exact k
theorem kg_94 {q : Nat} (k : am_w xs L d 94 ((0, 1, 0, 0, 0) :: (5, 1, 1, 0, 0) :: (0, 1, 0, 0, 1) :: (5, 1, 2, 0, 0) :: am_j 94 4) [some (.ref q), none, none] [] h (am_K P)) : am_m xs L d 94 [.ref q] h P := by
  unfold am_m
  rw [(kn_94).1, ke_94_0]
  exact k
theorem kg_95 {q : Nat} {x0 : Int32} (k : am_w xs L d 95 ((0, 1, 0, 0, 0) :: (5, 1, 2, 0, 0) :: (0, 1, 0, 0, 0) :: (5, 1, 3, 0, 0) :: am_j 95 4) [some (.ref q), some (.int x0), none, none, none] [] h (am_K P)) : am_m xs L d 95 [.ref q, .int x0] h P := by
  unfold am_m
  rw [(kn_95).1, ke_95_0]
  exact k
theorem kg_96 {x0 : Nat} {x1 : Int32} {x2 : Int32} {x3 : Int32} (k : am_w xs L d 96 ((0, 2, 0, 0, -2) :: (5, 2, 4, 0, 0) :: (0, 1, 0, 0, 0) :: (5, 2, 5, 0, 0) :: (0, 1, 0, 0, 0) :: (5, 2, 6, 0, 0) :: am_j 96 10) [some (.ref x0), some (.int x1), some (.int x2), some (.int x3), none, none, none, none] [] h (am_K P)) : am_m xs L d 96 [.ref x0, .int x1, .int x2, .int x3] h P := by
  unfold am_m
  rw [(kn_96).1, ke_96_0]
  exact k
theorem kg_97 {x0 : Nat} {x1 : Int32} {x2 : Int32} (k : am_w xs L d 97 ((0, 1, 0, 0, 0) :: (5, 1, 3, 0, 0) :: am_j 97 2) [some (.ref x0), some (.int x1), some (.int x2), none, none] [] h (am_K P)) : am_m xs L d 97 [.ref x0, .int x1, .int x2] h P := by
  unfold am_m
  rw [(kn_97).1, ke_97_0]
  exact k
theorem kg_98 {x0 : Nat} {x1 : Int32} {x2 : Int32} {x3 : Int32} {x4 : Int32} (k : am_w xs L d 98 ((2, 2, 4, 0, 0) :: (39, 3, 16, 4, 0) :: (2, 1, 2, 0, 0) :: (39, 3, 13, 1, 0) :: (0, 1, 0, 0, 0) :: (41, 3, 15, 0, 0) :: am_j 98 13) [some (.ref x0), some (.int x1), some (.int x2), some (.int x3), some (.int x4), none, none] [] h (am_K P)) : am_m xs L d 98 [.ref x0, .int x1, .int x2, .int x3, .int x4] h P := by
  unfold am_m
  rw [(kn_98).1, ke_98_0]
  exact k
theorem kg_99 {x0 : Nat} {x1 : Int32} {x2 : Int32} (k : am_w xs L d 99 ((0, 1, 0, 0, 1) :: (4, 1, 0, 0, 0) :: (45, 3, 1, 5, 43) :: (15, 1, 0, 0, 0) :: (0, 1, 0, 0, 1) :: (10, 1, 0, 0, 0) :: (5, 1, 3, 0, 0) :: (0, 2, 0, 0, -2) :: (5, 2, 4, 0, 0) :: (0, 1, 0, 0, 5) :: (5, 2, 5, 0, 0) :: (0, 1, 0, 0, 0) :: (5, 2, 6, 0, 0) :: am_j 99 19) [some (.ref x0), some (.int x1), some (.int x2), none, none, none, none] [] h (am_K P)) : am_m xs L d 99 [.ref x0, .int x1, .int x2] h P := by
  unfold am_m
  rw [(kn_99).1, ke_99_0]
  exact k
theorem kg_100 {q : Nat} (k : am_w xs L d 100 ((4, 1, 0, 0, 0) :: (61, 3, 0, 0, 205) :: (4, 1, 0, 0, 0) :: (0, 1, 0, 0, 0) :: (46, 3, 0, 1, 45) :: (4, 1, 0, 0, 0) :: (0, 1, 0, 0, 0) :: (46, 3, 1, 1, 46) :: (4, 1, 0, 0, 0) :: (0, 1, 0, 0, 0) :: (46, 3, 2, 1, 47) :: (67, 1, 0, 0, 0) :: []) [some (.ref q)] [] h (am_K P)) : am_m xs L d 100 [.ref q] h P := by
  unfold am_m
  rw [(kn_100).1, ke_100_0]
  exact k
theorem kg_101 {q : Nat} {x0 : Int32} (k : am_w xs L d 101 ((4, 1, 0, 0, 0) :: (2, 1, 1, 0, 0) :: (46, 3, 0, 1, 45) :: (4, 1, 0, 0, 0) :: (0, 1, 0, 0, 0) :: (46, 3, 1, 1, 46) :: (4, 1, 0, 0, 0) :: (0, 1, 0, 0, 0) :: (46, 3, 2, 1, 47) :: (67, 1, 0, 0, 0) :: []) [some (.ref q), some (.int x0)] [] h (am_K P)) : am_m xs L d 101 [.ref q, .int x0] h P := by
  unfold am_m
  rw [(kn_101).1, ke_101_0]
  exact k
theorem kg_102 {q : Nat} {x0 : Nat} (k : am_w xs L d 102 ((4, 1, 0, 0, 0) :: (4, 1, 1, 0, 0) :: (45, 3, 0, 1, 45) :: (46, 3, 0, 1, 45) :: (4, 1, 0, 0, 0) :: (4, 1, 1, 0, 0) :: (45, 3, 1, 1, 46) :: (46, 3, 1, 1, 46) :: (4, 1, 0, 0, 0) :: (4, 1, 1, 0, 0) :: (45, 3, 2, 1, 47) :: (46, 3, 2, 1, 47) :: (67, 1, 0, 0, 0) :: []) [some (.ref q), some (.ref x0)] [] h (am_K P)) : am_m xs L d 102 [.ref q, .ref x0] h P := by
  unfold am_m
  rw [(kn_102).1, ke_102_0]
  exact k
theorem kg_103 {x0 : Nat} {x1 : Int32} {x2 : Int32} (k : am_w xs L d 103 ((0, 1, 0, 0, 0) :: (5, 1, 3, 0, 0) :: (0, 1, 0, 0, 0) :: (5, 2, 4, 0, 0) :: am_j 103 5) [some (.ref x0), some (.int x1), some (.int x2), none, none] [] h (am_K P)) : am_m xs L d 103 [.ref x0, .int x1, .int x2] h P := by
  unfold am_m
  rw [(kn_103).1, ke_103_0]
  exact k
theorem kg_104 {x0 : Nat} {x1 : Int32} (k : am_w xs L d 104 ((0, 1, 0, 0, 1) :: (5, 1, 2, 0, 0) :: (0, 1, 0, 0, 0) :: (5, 1, 3, 0, 0) :: am_j 104 4) [some (.ref x0), some (.int x1), none, none] [] h (am_K P)) : am_m xs L d 104 [.ref x0, .int x1] h P := by
  unfold am_m
  rw [(kn_104).1, ke_104_0]
  exact k
theorem kg_105 {x0 : Nat} {x1 : Int32} (k : am_w xs L d 105 ((0, 1, 0, 0, 0) :: (5, 1, 2, 0, 0) :: am_j 105 2) [some (.ref x0), some (.int x1), none, none] [] h (am_K P)) : am_m xs L d 105 [.ref x0, .int x1] h P := by
  unfold am_m
  rw [(kn_105).1, ke_105_0]
  exact k
theorem kg_106 {q : Nat} (k : am_w xs L d 106 ((4, 1, 0, 0, 0) :: (61, 3, 0, 0, 210) :: (4, 1, 0, 0, 0) :: (0, 2, 0, 0, 16) :: (58, 3, 0, 0, 7) :: (47, 3, 0, 2, 53) :: (4, 1, 0, 0, 0) :: (0, 1, 0, 0, 3) :: (58, 3, 0, 0, 7) :: (47, 3, 1, 2, 54) :: (4, 1, 0, 0, 0) :: (0, 1, 0, 0, 0) :: (46, 3, 2, 2, 55) :: (4, 1, 0, 0, 0) :: (0, 1, 0, 0, 0) :: (46, 3, 3, 2, 56) :: (4, 1, 0, 0, 0) :: (0, 1, 0, 0, 0) :: (46, 3, 4, 2, 57) :: (0, 1, 0, 0, 0) :: (5, 1, 1, 0, 0) :: am_j 106 38) [some (.ref q), none] [] h (am_K P)) : am_m xs L d 106 [.ref q] h P := by
  unfold am_m
  rw [(kn_106).1, ke_106_0]
  exact k
theorem kg_107 {q : Nat} (k : am_w xs L d 107 ((4, 1, 0, 0, 0) :: (0, 1, 0, 0, 0) :: (46, 3, 3, 2, 56) :: (4, 1, 0, 0, 0) :: (0, 1, 0, 0, 0) :: (46, 3, 4, 2, 57) :: (67, 1, 0, 0, 0) :: []) [some (.ref q)] [] h (am_K P)) : am_m xs L d 107 [.ref q] h P := by
  unfold am_m
  rw [(kn_107).1, ke_107_0]
  exact k
theorem kg_108 {q : Nat} {x0 : Nat} (k : am_w xs L d 108 ((4, 1, 0, 0, 0) :: (45, 3, 3, 2, 56) :: (0, 2, 0, 0, 16) :: (40, 3, 32, 1, 0) :: (4, 1, 0, 0, 0) :: (4, 1, 0, 0, 0) :: (45, 3, 2, 2, 55) :: (0, 1, 0, 0, 1) :: (9, 1, 0, 0, 0) :: (0, 2, 0, 0, 16) :: (13, 1, 0, 0, 0) :: (46, 3, 2, 2, 55) :: (4, 1, 0, 0, 0) :: (36, 1, 0, 0, 0) :: (45, 3, 3, 2, 56) :: (0, 1, 0, 0, 1) :: (10, 1, 0, 0, 0) :: (46, 3, 3, 2, 56) :: am_j 108 32) [some (.ref q), some (.ref x0)] [] h (am_K P)) : am_m xs L d 108 [.ref q, .ref x0] h P := by
  unfold am_m
  rw [(kn_108).1, ke_108_0]
  exact k
theorem kg_109 {q : Nat} (k : am_w xs L d 109 ((4, 1, 0, 0, 0) :: (45, 3, 3, 2, 56) :: (64, 1, 0, 0, 0) :: []) [some (.ref q)] [] h (am_K P)) : am_m xs L d 109 [.ref q] h P := by
  unfold am_m
  rw [(kn_109).1, ke_109_0]
  exact k
theorem kg_110 {q : Nat} {x0 : Nat} (k : am_w xs L d 110 ((4, 1, 0, 0, 0) :: (45, 3, 3, 2, 56) :: (39, 3, 38, 5, 0) :: (4, 1, 0, 0, 0) :: (36, 1, 0, 0, 0) :: (45, 3, 3, 2, 56) :: (0, 1, 0, 0, 1) :: (10, 1, 0, 0, 0) :: (46, 3, 3, 2, 56) :: (4, 1, 1, 0, 0) :: (4, 1, 0, 0, 0) :: (45, 3, 0, 2, 53) :: (4, 1, 0, 0, 0) :: (45, 3, 2, 2, 55) :: (4, 1, 0, 0, 0) :: (45, 3, 3, 2, 56) :: (9, 1, 0, 0, 0) :: (0, 2, 0, 0, 16) :: (13, 1, 0, 0, 0) :: (51, 1, 0, 0, 0) :: (62, 3, 102, 2, 212) :: am_j 110 38) [some (.ref q), some (.ref x0)] [] h (am_K P)) : am_m xs L d 110 [.ref q, .ref x0] h P := by
  unfold am_m
  rw [(kn_110).1, ke_110_0]
  exact k
theorem kg_111 {q : Nat} (k : am_w xs L d 111 ((4, 1, 0, 0, 0) :: (45, 3, 4, 2, 57) :: (64, 1, 0, 0, 0) :: []) [some (.ref q)] [] h (am_K P)) : am_m xs L d 111 [.ref q] h P := by
  unfold am_m
  rw [(kn_111).1, ke_111_0]
  exact k
theorem kg_112 {q : Nat} {x0 : Nat} (k : am_w xs L d 112 ((4, 1, 0, 0, 0) :: (45, 3, 4, 2, 57) :: (0, 1, 0, 0, 3) :: (40, 3, 10, 2, 0) :: (0, 1, 0, 0, -1) :: (64, 1, 0, 0, 0) :: am_j 112 10) [some (.ref q), some (.ref x0)] [] h (am_K P)) : am_m xs L d 112 [.ref q, .ref x0] h P := by
  unfold am_m
  rw [(kn_112).1, ke_112_0]
  exact k
theorem kg_113 {q : Nat} {x0 : Int32} {x1 : Nat} (k : am_w xs L d 113 ((2, 1, 1, 0, 0) :: (39, 3, 27, 2, 0) :: (2, 1, 1, 0, 0) :: (4, 1, 0, 0, 0) :: (45, 3, 4, 2, 57) :: (40, 3, 27, 3, 0) :: (4, 1, 2, 0, 0) :: (4, 1, 0, 0, 0) :: (45, 3, 1, 2, 54) :: (2, 1, 1, 0, 0) :: (51, 1, 0, 0, 0) :: (62, 3, 102, 2, 212) :: (4, 1, 0, 0, 0) :: (0, 1, 0, 0, 0) :: (46, 3, 3, 2, 56) :: am_j 113 27) [some (.ref q), some (.int x0), some (.ref x1)] [] h (am_K P)) : am_m xs L d 113 [.ref q, .int x0, .ref x1] h P := by
  unfold am_m
  rw [(kn_113).1, ke_113_0]
  exact k
theorem kg_114 {x0 : UInt32} (k : am_w xs L d 114 ((1, 1, 0, 0, 0) :: (6, 1, 1, 0, 0) :: (0, 1, 0, 0, 0) :: (5, 1, 3, 0, 0) :: am_j 114 4) [some (.float x0), none, none, none] [] h (am_K P)) : am_m xs L d 114 [.float x0] h P := by
  unfold am_m
  rw [(kn_114).1, ke_114_0]
  exact k
theorem kg_115 {x0 : Int64} {x1 : Int32} (k : am_w xs L d 115 ((3, 1, 0, 0, 0) :: (0, 1, 0, 0, 5) :: (28, 1, 0, 0, 0) :: (2, 1, 2, 0, 0) :: (0, 1, 0, 0, 1) :: (9, 1, 0, 0, 0) :: (32, 1, 0, 0, 0) :: (27, 1, 0, 0, 0) :: (65, 1, 0, 0, 0) :: []) [some (.long x0), none, some (.int x1)] [] h (am_K P)) : am_m xs L d 115 [.long x0, .int x1] h P := by
  unfold am_m
  rw [(kn_115).1, ke_115_0]
  exact k
theorem kg_116 {x0 : Int64} (k : am_w xs L d 116 ((0, 1, 0, 0, 0) :: (5, 1, 2, 0, 0) :: (0, 1, 0, 0, 0) :: (5, 1, 3, 0, 0) :: am_j 116 4) [some (.long x0), none, none, none] [] h (am_K P)) : am_m xs L d 116 [.long x0] h P := by
  unfold am_m
  rw [(kn_116).1, ke_116_0]
  exact k
theorem kg_117 {x0 : Int64} (k : am_w xs L d 117 ((3, 1, 0, 0, 0) :: (0, 1, 0, 0, 0) :: (60, 3, 118, 2, 216) :: (64, 1, 0, 0, 0) :: []) [some (.long x0), none] [] h (am_K P)) : am_m xs L d 117 [.long x0] h P := by
  unfold am_m
  rw [(kn_117).1, ke_117_0]
  exact k
theorem kg_118 {x0 : Int64} {x1 : Int32} (k : am_w xs L d 118 ((3, 1, 0, 0, 0) :: (0, 1, 0, 0, 5) :: (2, 1, 2, 0, 0) :: (11, 1, 0, 0, 0) :: (30, 1, 0, 0, 0) :: (1, 3, 6, 0, 31) :: (26, 1, 0, 0, 0) :: (33, 1, 0, 0, 0) :: (0, 1, 0, 0, 1) :: (10, 1, 0, 0, 0) :: (64, 1, 0, 0, 0) :: []) [some (.long x0), none, some (.int x1)] [] h (am_K P)) : am_m xs L d 118 [.long x0, .int x1] h P := by
  unfold am_m
  rw [(kn_118).1, ke_118_0]
  exact k
theorem kg_119 {x0 : Int64} (k : am_w xs L d 119 ((0, 1, 0, 0, 0) :: (5, 1, 2, 0, 0) :: (0, 1, 0, 0, 0) :: (5, 1, 3, 0, 0) :: am_j 119 4) [some (.long x0), none, none, none, none] [] h (am_K P)) : am_m xs L d 119 [.long x0] h P := by
  unfold am_m
  rw [(kn_119).1, ke_119_0]
  exact k
theorem kg_120 {x0 : Int64} {x1 : Int32} (k : am_w xs L d 120 ((3, 1, 0, 0, 0) :: (1, 1, 0, 0, 1) :: (0, 1, 0, 0, 5) :: (2, 1, 2, 0, 0) :: (11, 1, 0, 0, 0) :: (28, 1, 0, 0, 0) :: (1, 1, 0, 0, 1) :: (22, 1, 0, 0, 0) :: (26, 1, 0, 0, 0) :: (65, 1, 0, 0, 0) :: []) [some (.long x0), none, some (.int x1)] [] h (am_K P)) : am_m xs L d 120 [.long x0, .int x1] h P := by
  unfold am_m
  rw [(kn_120).1, ke_120_0]
  exact k
theorem kg_121 {x0 : Int64} {x1 : Int32} (k : am_w xs L d 121 ((1, 1, 0, 0, 0) :: (6, 1, 3, 0, 0) :: (0, 2, 0, 0, 7) :: (5, 2, 5, 0, 0) :: am_j 121 6) [some (.long x0), none, some (.int x1), none, none, none, none] [] h (am_K P)) : am_m xs L d 121 [.long x0, .int x1] h P := by
  unfold am_m
  rw [(kn_121).1, ke_121_0]
  exact k
theorem kg_122 {x0 : Int64} (k : am_w xs L d 122 ((3, 1, 0, 0, 0) :: (0, 1, 0, 0, 0) :: (3, 1, 0, 0, 0) :: (60, 3, 116, 1, 217) :: (0, 1, 0, 0, 1) :: (10, 1, 0, 0, 0) :: (71, 3, 0, 0, 218) :: (60, 3, 118, 2, 216) :: (64, 1, 0, 0, 0) :: []) [some (.long x0), none] [] h (am_K P)) : am_m xs L d 122 [.long x0] h P := by
  unfold am_m
  rw [(kn_122).1, ke_122_0]
  exact k
theorem kg_123 {q : Nat} (k : am_w xs L d 123 ((4, 1, 0, 0, 0) :: (61, 3, 0, 0, 219) :: (4, 1, 0, 0, 0) :: (59, 3, 4, 0, 9) :: (36, 1, 0, 0, 0) :: (63, 3, 145, 1, 220) :: (47, 3, 0, 3, 58) :: (4, 1, 0, 0, 0) :: (0, 2, 0, 0, 13) :: (57, 2, 1, 0, 0) :: (47, 3, 1, 3, 59) :: (4, 1, 0, 0, 0) :: (59, 3, 5, 0, 10) :: (36, 1, 0, 0, 0) :: (63, 3, 154, 1, 221) :: (46, 3, 2, 3, 60) :: (4, 1, 0, 0, 0) :: (0, 1, 0, 0, 0) :: (46, 3, 3, 3, 61) :: (4, 1, 0, 0, 0) :: (0, 1, 0, 0, 0) :: (46, 3, 4, 3, 62) :: (4, 1, 0, 0, 0) :: (45, 3, 1, 3, 59) :: (0, 1, 0, 0, 0) :: (68, 2, 0, 0, 0) :: (60, 3, 114, 1, 222) :: (53, 1, 0, 0, 0) :: (4, 1, 0, 0, 0) :: (45, 3, 1, 3, 59) :: (0, 1, 0, 0, 1) :: (68, 2, 1, 1, 0) :: (60, 3, 114, 1, 222) :: (53, 1, 0, 0, 0) :: (4, 1, 0, 0, 0) :: (45, 3, 1, 3, 59) :: (0, 1, 0, 0, 2) :: (68, 2, 2, 2, 0) :: (60, 3, 114, 1, 222) :: (53, 1, 0, 0, 0) :: (4, 1, 0, 0, 0) :: (45, 3, 1, 3, 59) :: (0, 1, 0, 0, 3) :: (68, 2, 3, 3, 0) :: (60, 3, 114, 1, 222) :: (53, 1, 0, 0, 0) :: (4, 1, 0, 0, 0) :: (45, 3, 1, 3, 59) :: (0, 1, 0, 0, 4) :: (68, 2, 4, 4, 0) :: (60, 3, 114, 1, 222) :: (53, 1, 0, 0, 0) :: (4, 1, 0, 0, 0) :: (45, 3, 1, 3, 59) :: (0, 1, 0, 0, 5) :: (68, 2, 5, 5, 0) :: (60, 3, 114, 1, 222) :: (53, 1, 0, 0, 0) :: (4, 1, 0, 0, 0) :: (45, 3, 1, 3, 59) :: (0, 2, 0, 0, 6) :: (68, 2, 6, 6, 0) :: (60, 3, 114, 1, 222) :: (53, 1, 0, 0, 0) :: (4, 1, 0, 0, 0) :: (45, 3, 1, 3, 59) :: (0, 2, 0, 0, 7) :: (68, 2, 7, 7, 0) :: (60, 3, 114, 1, 222) :: (53, 1, 0, 0, 0) :: (4, 1, 0, 0, 0) :: (45, 3, 1, 3, 59) :: (0, 2, 0, 0, 8) :: (68, 2, 8, 8, 0) :: (60, 3, 114, 1, 222) :: (53, 1, 0, 0, 0) :: (4, 1, 0, 0, 0) :: (45, 3, 1, 3, 59) :: (0, 2, 0, 0, 9) :: (68, 2, 9, 9, 0) :: (60, 3, 114, 1, 222) :: (53, 1, 0, 0, 0) :: (4, 1, 0, 0, 0) :: (45, 3, 1, 3, 59) :: (0, 2, 0, 0, 10) :: (68, 2, 10, 10, 0) :: (60, 3, 114, 1, 222) :: (53, 1, 0, 0, 0) :: (4, 1, 0, 0, 0) :: (45, 3, 1, 3, 59) :: (0, 2, 0, 0, 11) :: (68, 2, 11, 11, 0) :: (60, 3, 114, 1, 222) :: (53, 1, 0, 0, 0) :: (4, 1, 0, 0, 0) :: (45, 3, 1, 3, 59) :: (0, 2, 0, 0, 12) :: (68, 2, 12, 12, 0) :: (60, 3, 114, 1, 222) :: (53, 1, 0, 0, 0) :: (67, 1, 0, 0, 0) :: []) [some (.ref q)] [] h (am_K P)) : am_m xs L d 123 [.ref q] h P := by
  unfold am_m
  rw [(kn_123).1, ke_123_0]
  exact k
theorem kg_124 {q : Nat} {x0 : Nat} {x1 : Int32} (k : am_w xs L d 124 ((4, 1, 0, 0, 0) :: (45, 3, 2, 3, 60) :: (62, 3, 155, 1, 223) :: (4, 1, 0, 0, 0) :: (0, 1, 0, 0, 0) :: (46, 3, 3, 3, 61) :: (4, 1, 0, 0, 0) :: (0, 1, 0, 0, 0) :: (46, 3, 4, 3, 62) :: (4, 1, 0, 0, 0) :: (45, 3, 0, 3, 58) :: (4, 1, 1, 0, 0) :: (2, 1, 2, 0, 0) :: (62, 3, 146, 3, 224) :: (0, 1, 0, 0, 1) :: (5, 1, 3, 0, 0) :: (0, 1, 0, 0, 0) :: (5, 2, 4, 0, 0) :: am_j 124 31) [some (.ref q), some (.ref x0), some (.int x1), none, none] [] h (am_K P)) : am_m xs L d 124 [.ref q, .ref x0, .int x1] h P := by
  unfold am_m
  rw [(kn_124).1, ke_124_0]
  exact k
theorem kg_125 {q : Nat} (k : am_w xs L d 125 ((4, 1, 0, 0, 0) :: (45, 3, 0, 3, 58) :: (45, 3, 3, 4, 63) :: (0, 1, 0, 0, 1) :: (40, 3, 25, 1, 0) :: (4, 1, 0, 0, 0) :: (4, 1, 0, 0, 0) :: (45, 3, 0, 3, 58) :: (45, 3, 5, 4, 64) :: (62, 3, 126, 2, 228) :: (41, 3, 27, 0, 0) :: am_j 125 25) [some (.ref q), none] [] h (am_K P)) : am_m xs L d 125 [.ref q] h P := by
  unfold am_m
  rw [(kn_125).1, ke_125_0]
  exact k
theorem kg_126 {q : Nat} {x0 : Int64} (k : am_w xs L d 126 ((0, 1, 0, 0, 0) :: (5, 1, 3, 0, 0) :: am_j 126 2) [some (.ref q), some (.long x0), none, none] [] h (am_K P)) : am_m xs L d 126 [.ref q, .long x0] h P := by
  unfold am_m
  rw [(kn_126).1, ke_126_0]
  exact k
theorem kg_127 {q : Nat} {x0 : Int32} (k : am_w xs L d 127 ((4, 1, 0, 0, 0) :: (2, 1, 1, 0, 0) :: (46, 3, 3, 3, 61) :: (4, 1, 0, 0, 0) :: (4, 1, 0, 0, 0) :: (45, 3, 0, 3, 58) :: (45, 3, 4, 4, 66) :: (46, 3, 4, 3, 62) :: (0, 1, 0, 0, 0) :: (64, 1, 0, 0, 0) :: []) [some (.ref q), some (.int x0)] [] h (am_K P)) : am_m xs L d 127 [.ref q, .int x0] h P := by
  unfold am_m
  rw [(kn_127).1, ke_127_0]
  exact k
theorem kg_128 {q : Nat} (k : am_w xs L d 128 ((4, 1, 0, 0, 0) :: (45, 3, 0, 3, 58) :: (62, 3, 147, 1, 232) :: (4, 1, 0, 0, 0) :: (0, 2, 0, 0, 12) :: (62, 3, 129, 2, 239) :: (39, 3, 24, 0, 0) :: (4, 1, 0, 0, 0) :: (0, 1, 0, 0, 1) :: (62, 3, 130, 2, 240) :: (39, 3, 26, 1, 0) :: am_j 128 24) [some (.ref q)] [] h (am_K P)) : am_m xs L d 128 [.ref q] h P := by
  unfold am_m
  rw [(kn_128).1, ke_128_0]
  exact k
theorem kg_129 {q : Nat} {x0 : Int32} (k : am_w xs L d 129 ((4, 1, 0, 0, 0) :: (45, 3, 0, 3, 58) :: (45, 3, 3, 4, 63) :: (0, 1, 0, 0, 1) :: (40, 3, 28, 1, 0) :: (4, 1, 0, 0, 0) :: (45, 3, 0, 3, 58) :: (45, 3, 5, 4, 64) :: (4, 1, 0, 0, 0) :: (45, 3, 1, 3, 59) :: (2, 1, 1, 0, 0) :: (49, 1, 0, 0, 0) :: (31, 1, 0, 0, 0) :: (39, 3, 34, 0, 0) :: am_j 129 28) [some (.ref q), some (.int x0)] [] h (am_K P)) : am_m xs L d 129 [.ref q, .int x0] h P := by
  unfold am_m
  rw [(kn_129).1, ke_129_0]
  exact k
theorem kg_130 {q : Nat} {x0 : Int32} (k : am_w xs L d 130 ((4, 1, 0, 0, 0) :: (45, 3, 0, 3, 58) :: (45, 3, 3, 4, 63) :: (0, 1, 0, 0, 2) :: (40, 3, 17, 0, 0) :: (4, 1, 0, 0, 0) :: (0, 1, 0, 0, 1) :: (62, 3, 127, 2, 229) :: (64, 1, 0, 0, 0) :: am_j 130 17) [some (.ref q), some (.int x0)] [] h (am_K P)) : am_m xs L d 130 [.ref q, .int x0] h P := by
  unfold am_m
  rw [(kn_130).1, ke_130_0]
  exact k
theorem kg_131 {q : Nat} {x0 : Int32} (k : am_w xs L d 131 ((2, 1, 1, 0, 0) :: (44, 47, 5, 0, 0) :: am_j 131 48) [some (.ref q), some (.int x0)] [] h (am_K P)) : am_m xs L d 131 [.ref q, .int x0] h P := by
  unfold am_m
  rw [(kn_131).1, ke_131_0]
  exact k
theorem kg_132 {q : Nat} (k : am_w xs L d 132 ((4, 1, 0, 0, 0) :: (62, 3, 133, 1, 241) :: (39, 3, 9, 1, 0) :: (0, 1, 0, 0, 0) :: (64, 1, 0, 0, 0) :: am_j 132 9) [some (.ref q)] [] h (am_K P)) : am_m xs L d 132 [.ref q] h P := by
  unfold am_m
  rw [(kn_132).1, ke_132_0]
  exact k
theorem kg_133 {q : Nat} (k : am_w xs L d 133 ((4, 1, 0, 0, 0) :: (62, 3, 134, 1, 243) :: (39, 3, 36, 0, 0) :: (4, 1, 0, 0, 0) :: (45, 3, 2, 3, 60) :: (4, 1, 0, 0, 0) :: (45, 3, 0, 3, 58) :: (45, 3, 5, 4, 64) :: (62, 3, 156, 2, 244) :: (39, 3, 32, 0, 0) :: (4, 1, 0, 0, 0) :: (0, 1, 0, 0, 3) :: (62, 3, 127, 2, 229) :: (39, 3, 36, 0, 0) :: am_j 133 32) [some (.ref q)] [] h (am_K P)) : am_m xs L d 133 [.ref q] h P := by
  unfold am_m
  rw [(kn_133).1, ke_133_0]
  exact k
theorem kg_134 {q : Nat} (k : am_w xs L d 134 ((4, 1, 0, 0, 0) :: (45, 3, 0, 3, 58) :: (45, 3, 3, 4, 63) :: (0, 1, 0, 0, 1) :: (40, 3, 27, 1, 0) :: (4, 1, 0, 0, 0) :: (4, 1, 0, 0, 0) :: (45, 3, 0, 3, 58) :: (45, 3, 5, 4, 64) :: (62, 3, 126, 2, 228) :: (0, 2, 0, 0, 11) :: (40, 3, 35, 4, 0) :: am_j 134 27) [some (.ref q)] [] h (am_K P)) : am_m xs L d 134 [.ref q] h P := by
  unfold am_m
  rw [(kn_134).1, ke_134_0]
  exact k
theorem kg_135 {q : Nat} (k : am_w xs L d 135 ((4, 1, 0, 0, 0) :: (62, 3, 133, 1, 241) :: (39, 3, 9, 1, 0) :: (0, 1, 0, 0, 0) :: (64, 1, 0, 0, 0) :: am_j 135 9) [some (.ref q), none] [] h (am_K P)) : am_m xs L d 135 [.ref q] h P := by
  unfold am_m
  rw [(kn_135).1, ke_135_0]
  exact k
theorem kg_136 {q : Nat} (k : am_w xs L d 136 ((4, 1, 0, 0, 0) :: (62, 3, 134, 1, 243) :: (39, 3, 36, 0, 0) :: (4, 1, 0, 0, 0) :: (45, 3, 2, 3, 60) :: (4, 1, 0, 0, 0) :: (45, 3, 0, 3, 58) :: (45, 3, 5, 4, 64) :: (62, 3, 157, 2, 247) :: (39, 3, 32, 3, 0) :: (4, 1, 0, 0, 0) :: (0, 1, 0, 0, 2) :: (62, 3, 127, 2, 229) :: (39, 3, 36, 0, 0) :: am_j 136 32) [some (.ref q)] [] h (am_K P)) : am_m xs L d 136 [.ref q] h P := by
  unfold am_m
  rw [(kn_136).1, ke_136_0]
  exact k
theorem kg_137 {q : Nat} {x0 : Int32} (k : am_w xs L d 137 ((4, 1, 0, 0, 0) :: (62, 3, 138, 1, 249) :: (39, 3, 9, 1, 0) :: (0, 1, 0, 0, 0) :: (64, 1, 0, 0, 0) :: am_j 137 9) [some (.ref q), some (.int x0), none, none, none] [] h (am_K P)) : am_m xs L d 137 [.ref q, .int x0] h P := by
  unfold am_m
  rw [(kn_137).1, ke_137_0]
  exact k
theorem kg_138 {q : Nat} (k : am_w xs L d 138 ((4, 1, 0, 0, 0) :: (45, 3, 0, 3, 58) :: (45, 3, 3, 4, 63) :: (0, 1, 0, 0, 1) :: (40, 3, 19, 0, 0) :: (4, 1, 0, 0, 0) :: (0, 1, 0, 0, 1) :: (62, 3, 127, 2, 229) :: (39, 3, 23, 0, 0) :: am_j 138 19) [some (.ref q)] [] h (am_K P)) : am_m xs L d 138 [.ref q] h P := by
  unfold am_m
  rw [(kn_138).1, ke_138_0]
  exact k
theorem kg_139 {q : Nat} (k : am_w xs L d 139 ((4, 1, 0, 0, 0) :: (62, 3, 138, 1, 249) :: (39, 3, 9, 1, 0) :: (0, 1, 0, 0, 0) :: (64, 1, 0, 0, 0) :: am_j 139 9) [some (.ref q), none] [] h (am_K P)) : am_m xs L d 139 [.ref q] h P := by
  unfold am_m
  rw [(kn_139).1, ke_139_0]
  exact k
theorem kg_140 {q : Nat} (k : am_w xs L d 140 ((4, 1, 0, 0, 0) :: (62, 3, 138, 1, 249) :: (39, 3, 9, 1, 0) :: (0, 1, 0, 0, 0) :: (64, 1, 0, 0, 0) :: am_j 140 9) [some (.ref q)] [] h (am_K P)) : am_m xs L d 140 [.ref q] h P := by
  unfold am_m
  rw [(kn_140).1, ke_140_0]
  exact k
theorem kg_141 {q : Nat} {x0 : Int32} (k : am_w xs L d 141 ((4, 1, 0, 0, 0) :: (62, 3, 138, 1, 249) :: (39, 3, 9, 1, 0) :: (0, 1, 0, 0, 0) :: (64, 1, 0, 0, 0) :: am_j 141 9) [some (.ref q), some (.int x0)] [] h (am_K P)) : am_m xs L d 141 [.ref q, .int x0] h P := by
  unfold am_m
  rw [(kn_141).1, ke_141_0]
  exact k
theorem kg_142 {q : Nat} (k : am_w xs L d 142 ((4, 1, 0, 0, 0) :: (45, 3, 0, 3, 58) :: (45, 3, 3, 4, 63) :: (0, 1, 0, 0, 3) :: (40, 3, 20, 1, 0) :: (4, 1, 0, 0, 0) :: (45, 3, 0, 3, 58) :: (62, 3, 147, 1, 232) :: (0, 1, 0, 0, 1) :: (64, 1, 0, 0, 0) :: am_j 142 20) [some (.ref q)] [] h (am_K P)) : am_m xs L d 142 [.ref q] h P := by
  unfold am_m
  rw [(kn_142).1, ke_142_0]
  exact k
theorem kg_143 {q : Nat} (k : am_w xs L d 143 ((4, 1, 0, 0, 0) :: (45, 3, 4, 3, 62) :: (64, 1, 0, 0, 0) :: []) [some (.ref q)] [] h (am_K P)) : am_m xs L d 143 [.ref q] h P := by
  unfold am_m
  rw [(kn_143).1, ke_143_0]
  exact k
theorem kg_144 {q : Nat} {x0 : Nat} (k : am_w xs L d 144 ((4, 1, 0, 0, 0) :: (45, 3, 2, 3, 60) :: (7, 1, 2, 0, 0) :: (4, 1, 0, 0, 0) :: (4, 1, 1, 0, 0) :: (46, 3, 2, 3, 60) :: (4, 1, 2, 0, 0) :: (66, 1, 0, 0, 0) :: []) [some (.ref q), some (.ref x0), none] [] h (am_K P)) : am_m xs L d 144 [.ref q, .ref x0] h P := by
  unfold am_m
  rw [(kn_144).1, ke_144_0]
  exact k
theorem kg_145 {q : Nat} (k : am_w xs L d 145 ((4, 1, 0, 0, 0) :: (61, 3, 0, 0, 259) :: (4, 1, 0, 0, 0) :: (0, 1, 0, 0, 0) :: (57, 2, 2, 0, 0) :: (46, 3, 0, 4, 75) :: (4, 1, 0, 0, 0) :: (0, 1, 0, 0, 0) :: (46, 3, 1, 4, 76) :: (4, 1, 0, 0, 0) :: (0, 1, 0, 0, 0) :: (46, 3, 2, 4, 77) :: (4, 1, 0, 0, 0) :: (0, 1, 0, 0, 0) :: (46, 3, 3, 4, 78) :: (4, 1, 0, 0, 0) :: (0, 1, 0, 0, 0) :: (46, 3, 4, 4, 79) :: (4, 1, 0, 0, 0) :: (1, 1, 0, 0, 0) :: (46, 3, 5, 4, 80) :: (4, 1, 0, 0, 0) :: (0, 1, 0, 0, 0) :: (46, 3, 6, 4, 81) :: (67, 1, 0, 0, 0) :: []) [some (.ref q)] [] h (am_K P)) : am_m xs L d 145 [.ref q] h P := by
  unfold am_m
  rw [(kn_145).1, ke_145_0]
  exact k
theorem kg_146 {q : Nat} {x0 : Nat} {x1 : Int32} (k : am_w xs L d 146 ((4, 1, 0, 0, 0) :: (4, 1, 1, 0, 0) :: (46, 3, 0, 4, 75) :: (4, 1, 0, 0, 0) :: (2, 1, 2, 0, 0) :: (4, 1, 1, 0, 0) :: (56, 1, 0, 0, 0) :: (74, 3, 0, 0, 260) :: (46, 3, 1, 4, 76) :: (4, 1, 0, 0, 0) :: (0, 1, 0, 0, 0) :: (46, 3, 2, 4, 77) :: (4, 1, 0, 0, 0) :: (62, 3, 147, 1, 261) :: (67, 1, 0, 0, 0) :: []) [some (.ref q), some (.ref x0), some (.int x1)] [] h (am_K P)) : am_m xs L d 146 [.ref q, .ref x0, .int x1] h P := by
  unfold am_m
  rw [(kn_146).1, ke_146_0]
  exact k
theorem kg_147 {q : Nat} (k : am_w xs L d 147 ((4, 1, 0, 0, 0) :: (4, 1, 0, 0, 0) :: (45, 3, 2, 4, 77) :: (46, 3, 4, 4, 79) :: am_j 147 8) [some (.ref q)] [] h (am_K P)) : am_m xs L d 147 [.ref q] h P := by
  unfold am_m
  rw [(kn_147).1, ke_147_0]
  exact k
theorem kg_148 {q : Nat} {x0 : Int32} (k : am_w xs L d 148 ((2, 1, 1, 0, 0) :: (39, 3, 26, 2, 0) :: (2, 1, 1, 0, 0) :: (4, 1, 0, 0, 0) :: (45, 3, 0, 4, 75) :: (56, 1, 0, 0, 0) :: (40, 3, 26, 3, 0) :: (4, 1, 0, 0, 0) :: (45, 3, 0, 4, 75) :: (2, 1, 1, 0, 0) :: (50, 1, 0, 0, 0) :: (0, 3, 0, 0, 255) :: (18, 1, 0, 0, 0) :: (41, 3, 27, 0, 0) :: am_j 148 26) [some (.ref q), some (.int x0)] [] h (am_K P)) : am_m xs L d 148 [.ref q, .int x0] h P := by
  unfold am_m
  rw [(kn_148).1, ke_148_0]
  exact k
theorem kg_149 {x0 : Int32} (k : am_w xs L d 149 ((2, 1, 0, 0, 0) :: (0, 2, 0, 0, 97) :: (40, 3, 16, 2, 0) :: (2, 1, 0, 0, 0) :: (0, 2, 0, 0, 122) :: (40, 3, 16, 4, 0) :: (0, 1, 0, 0, 1) :: (41, 3, 17, 0, 0) :: am_j 149 16) [some (.int x0)] [] h (am_K P)) : am_m xs L d 149 [.int x0] h P := by
  unfold am_m
  rw [(kn_149).1, ke_149_0]
  exact k
theorem kg_150 {q : Nat} (k : am_w xs L d 150 ((4, 1, 0, 0, 0) :: (1, 1, 0, 0, 0) :: (46, 3, 5, 4, 80) :: am_j 150 5) [some (.ref q)] [] h (am_K P)) : am_m xs L d 150 [.ref q] h P := by
  unfold am_m
  rw [(kn_150).1, ke_150_0]
  exact k
theorem kg_151 {x0 : Int32} (k : am_w xs L d 151 ((2, 1, 0, 0, 0) :: (0, 2, 0, 0, 48) :: (40, 3, 16, 2, 0) :: (2, 1, 0, 0, 0) :: (0, 2, 0, 0, 57) :: (40, 3, 16, 4, 0) :: (0, 1, 0, 0, 1) :: (41, 3, 17, 0, 0) :: am_j 151 16) [some (.int x0)] [] h (am_K P)) : am_m xs L d 151 [.int x0] h P := by
  unfold am_m
  rw [(kn_151).1, ke_151_0]
  exact k
theorem kg_152 {q : Nat} (k : am_w xs L d 152 ((4, 1, 0, 0, 0) :: (0, 1, 0, 0, 0) :: (46, 3, 6, 4, 81) :: am_j 152 5) [some (.ref q)] [] h (am_K P)) : am_m xs L d 152 [.ref q] h P := by
  unfold am_m
  rw [(kn_152).1, ke_152_0]
  exact k
theorem kg_153 {q : Nat} (k : am_w xs L d 153 ((4, 1, 0, 0, 0) :: (4, 1, 0, 0, 0) :: (45, 3, 4, 4, 79) :: (62, 3, 148, 2, 262) :: (5, 1, 1, 0, 0) :: (4, 1, 0, 0, 0) :: (2, 1, 1, 0, 0) :: (0, 2, 0, 0, 59) :: (40, 3, 20, 1, 0) :: (0, 1, 0, 0, 3) :: (41, 3, 31, 0, 0) :: am_j 153 20) [some (.ref q), none] [] h (am_K P)) : am_m xs L d 153 [.ref q] h P := by
  unfold am_m
  rw [(kn_153).1, ke_153_0]
  exact k
theorem kg_154 {q : Nat} (k : am_w xs L d 154 ((4, 1, 0, 0, 0) :: (61, 3, 0, 0, 269) :: (4, 1, 0, 0, 0) :: (0, 2, 0, 0, 11) :: (57, 2, 1, 0, 0) :: (47, 3, 8, 5, 82) :: (4, 1, 0, 0, 0) :: (0, 1, 0, 0, 5) :: (57, 2, 0, 0, 0) :: (47, 3, 9, 5, 83) :: (4, 1, 0, 0, 0) :: (0, 2, 0, 0, 20) :: (57, 2, 0, 0, 0) :: (47, 3, 10, 5, 84) :: (4, 1, 0, 0, 0) :: (0, 2, 0, 0, 12) :: (57, 2, 1, 0, 0) :: (47, 3, 11, 5, 85) :: (4, 1, 0, 0, 0) :: (0, 2, 0, 0, 12) :: (57, 2, 0, 0, 0) :: (47, 3, 12, 5, 86) :: (4, 1, 0, 0, 0) :: (0, 2, 0, 0, 12) :: (57, 2, 0, 0, 0) :: (47, 3, 13, 5, 87) :: (4, 1, 0, 0, 0) :: (0, 2, 0, 0, 26) :: (57, 2, 0, 0, 0) :: (47, 3, 14, 5, 88) :: (4, 1, 0, 0, 0) :: (0, 2, 0, 0, 6) :: (57, 2, 0, 0, 0) :: (47, 3, 15, 5, 89) :: (4, 1, 0, 0, 0) :: (0, 2, 0, 0, 26) :: (57, 2, 0, 0, 0) :: (47, 3, 16, 5, 90) :: (4, 1, 0, 0, 0) :: (0, 2, 0, 0, 6) :: (57, 2, 0, 0, 0) :: (47, 3, 17, 5, 91) :: (4, 1, 0, 0, 0) :: (0, 1, 0, 0, 5) :: (57, 2, 1, 0, 0) :: (47, 3, 19, 5, 92) :: (67, 1, 0, 0, 0) :: []) [some (.ref q)] [] h (am_K P)) : am_m xs L d 154 [.ref q] h P := by
  unfold am_m
  rw [(kn_154).1, ke_154_0]
  exact k
theorem kg_155 {q : Nat} (k : am_w xs L d 155 ((4, 1, 0, 0, 0) :: (0, 1, 0, 0, 0) :: (46, 3, 0, 5, 93) :: (4, 1, 0, 0, 0) :: (0, 1, 0, 0, 0) :: (46, 3, 1, 5, 94) :: (4, 1, 0, 0, 0) :: (0, 1, 0, 0, 0) :: (46, 3, 2, 5, 95) :: (4, 1, 0, 0, 0) :: (0, 1, 0, 0, 0) :: (46, 3, 3, 5, 96) :: (4, 1, 0, 0, 0) :: (0, 1, 0, 0, 0) :: (46, 3, 4, 5, 97) :: (4, 1, 0, 0, 0) :: (0, 1, 0, 0, 0) :: (46, 3, 5, 5, 98) :: (4, 1, 0, 0, 0) :: (0, 1, 0, 0, 0) :: (46, 3, 6, 5, 99) :: (4, 1, 0, 0, 0) :: (0, 1, 0, 0, 0) :: (46, 3, 7, 5, 100) :: (4, 1, 0, 0, 0) :: (0, 1, 0, 0, 0) :: (46, 3, 18, 5, 101) :: (4, 1, 0, 0, 0) :: (45, 3, 9, 5, 83) :: (0, 1, 0, 0, 0) :: (60, 3, 316, 2, 270) :: (4, 1, 0, 0, 0) :: (45, 3, 14, 5, 88) :: (0, 1, 0, 0, 0) :: (60, 3, 316, 2, 270) :: (4, 1, 0, 0, 0) :: (45, 3, 15, 5, 89) :: (0, 1, 0, 0, 0) :: (60, 3, 316, 2, 270) :: (4, 1, 0, 0, 0) :: (45, 3, 16, 5, 90) :: (0, 1, 0, 0, -1) :: (60, 3, 316, 2, 270) :: (67, 1, 0, 0, 0) :: []) [some (.ref q)] [] h (am_K P)) : am_m xs L d 155 [.ref q] h P := by
  unfold am_m
  rw [(kn_155).1, ke_155_0]
  exact k
theorem kg_156 {q : Nat} {x0 : Int64} (k : am_w xs L d 156 ((0, 1, 0, 0, 0) :: (5, 1, 3, 0, 0) :: am_j 156 2) [some (.ref q), some (.long x0), none, none] [] h (am_K P)) : am_m xs L d 156 [.ref q, .long x0] h P := by
  unfold am_m
  rw [(kn_156).1, ke_156_0]
  exact k
theorem kg_157 {q : Nat} {x0 : Int64} (k : am_w xs L d 157 ((0, 1, 0, 0, 0) :: (5, 1, 3, 0, 0) :: am_j 157 2) [some (.ref q), some (.long x0), none, none] [] h (am_K P)) : am_m xs L d 157 [.ref q, .long x0] h P := by
  unfold am_m
  rw [(kn_157).1, ke_157_0]
  exact k
theorem kg_158 {q : Nat} {x0 : Int64} (k : am_w xs L d 158 ((4, 1, 0, 0, 0) :: (45, 3, 1, 5, 94) :: (0, 2, 0, 0, 6) :: (40, 3, 29, 3, 0) :: (4, 1, 0, 0, 0) :: (45, 3, 8, 5, 82) :: (4, 1, 0, 0, 0) :: (45, 3, 1, 5, 94) :: (3, 1, 1, 0, 0) :: (53, 1, 0, 0, 0) :: (4, 1, 0, 0, 0) :: (36, 1, 0, 0, 0) :: (45, 3, 1, 5, 94) :: (0, 1, 0, 0, 1) :: (9, 1, 0, 0, 0) :: (46, 3, 1, 5, 94) :: am_j 158 29) [some (.ref q), some (.long x0), none] [] h (am_K P)) : am_m xs L d 158 [.ref q, .long x0] h P := by
  unfold am_m
  rw [(kn_158).1, ke_158_0]
  exact k
theorem kg_159 {q : Nat} {x0 : Int64} (k : am_w xs L d 159 ((4, 1, 0, 0, 0) :: (45, 3, 2, 5, 95) :: (0, 1, 0, 0, 5) :: (40, 3, 31, 3, 0) :: (4, 1, 0, 0, 0) :: (45, 3, 8, 5, 82) :: (0, 2, 0, 0, 6) :: (4, 1, 0, 0, 0) :: (45, 3, 2, 5, 95) :: (9, 1, 0, 0, 0) :: (3, 1, 1, 0, 0) :: (53, 1, 0, 0, 0) :: (4, 1, 0, 0, 0) :: (36, 1, 0, 0, 0) :: (45, 3, 2, 5, 95) :: (0, 1, 0, 0, 1) :: (9, 1, 0, 0, 0) :: (46, 3, 2, 5, 95) :: am_j 159 31) [some (.ref q), some (.long x0), none] [] h (am_K P)) : am_m xs L d 159 [.ref q, .long x0] h P := by
  unfold am_m
  rw [(kn_159).1, ke_159_0]
  exact k
theorem kg_160 {q : Nat} {x0 : Int32} (k : am_w xs L d 160 ((4, 1, 0, 0, 0) :: (45, 3, 2, 5, 95) :: (0, 1, 0, 0, 1) :: (10, 1, 0, 0, 0) :: (5, 1, 2, 0, 0) :: (2, 1, 2, 0, 0) :: (39, 3, 47, 2, 0) :: (4, 1, 0, 0, 0) :: (45, 3, 9, 5, 83) :: (2, 1, 2, 0, 0) :: (48, 1, 0, 0, 0) :: (0, 1, 0, 0, 4) :: (40, 3, 47, 3, 0) :: (4, 1, 0, 0, 0) :: (45, 3, 10, 5, 84) :: (2, 1, 2, 0, 0) :: (0, 1, 0, 0, 4) :: (11, 1, 0, 0, 0) :: (4, 1, 0, 0, 0) :: (45, 3, 9, 5, 83) :: (2, 1, 2, 0, 0) :: (48, 1, 0, 0, 0) :: (9, 1, 0, 0, 0) :: (2, 1, 1, 0, 0) :: (52, 1, 0, 0, 0) :: (4, 1, 0, 0, 0) :: (45, 3, 9, 5, 83) :: (2, 1, 2, 0, 0) :: (38, 1, 0, 0, 0) :: (48, 1, 0, 0, 0) :: (0, 1, 0, 0, 1) :: (9, 1, 0, 0, 0) :: (52, 1, 0, 0, 0) :: am_j 160 47) [some (.ref q), some (.int x0), none] [] h (am_K P)) : am_m xs L d 160 [.ref q, .int x0] h P := by
  unfold am_m
  rw [(kn_160).1, ke_160_0]
  exact k
theorem kg_161 {q : Nat} {x0 : Int64} (k : am_w xs L d 161 ((0, 1, 0, 0, 0) :: (5, 1, 3, 0, 0) :: am_j 161 2) [some (.ref q), some (.long x0), none, none] [] h (am_K P)) : am_m xs L d 161 [.ref q, .long x0] h P := by
  unfold am_m
  rw [(kn_161).1, ke_161_0]
  exact k
theorem kg_162 {q : Nat} {x0 : Int64} {x1 : Int32} (k : am_w xs L d 162 ((4, 1, 0, 0, 0) :: (45, 3, 4, 5, 97) :: (0, 1, 0, 0, 4) :: (40, 3, 31, 3, 0) :: (4, 1, 0, 0, 0) :: (0, 2, 0, 0, 8) :: (4, 1, 0, 0, 0) :: (45, 3, 4, 5, 97) :: (9, 1, 0, 0, 0) :: (3, 1, 1, 0, 0) :: (2, 1, 3, 0, 0) :: (62, 3, 163, 4, 272) :: (4, 1, 0, 0, 0) :: (36, 1, 0, 0, 0) :: (45, 3, 4, 5, 97) :: (0, 1, 0, 0, 1) :: (9, 1, 0, 0, 0) :: (46, 3, 4, 5, 97) :: am_j 162 31) [some (.ref q), some (.long x0), none, some (.int x1)] [] h (am_K P)) : am_m xs L d 162 [.ref q, .long x0, .int x1] h P := by
  unfold am_m
  rw [(kn_162).1, ke_162_0]
  exact k
theorem kg_163 {q : Nat} {x0 : Int32} {x1 : Int64} {x2 : Int32} (k : am_w xs L d 163 ((4, 1, 0, 0, 0) :: (45, 3, 11, 5, 85) :: (2, 1, 1, 0, 0) :: (3, 1, 2, 0, 0) :: (53, 1, 0, 0, 0) :: (4, 1, 0, 0, 0) :: (45, 3, 12, 5, 86) :: (2, 1, 1, 0, 0) :: (3, 1, 2, 0, 0) :: (60, 3, 116, 1, 273) :: (52, 1, 0, 0, 0) :: (4, 1, 0, 0, 0) :: (45, 3, 13, 5, 87) :: (2, 1, 1, 0, 0) :: (2, 2, 4, 0, 0) :: (52, 1, 0, 0, 0) :: (67, 1, 0, 0, 0) :: []) [some (.ref q), some (.int x0), some (.long x1), none, some (.int x2)] [] h (am_K P)) : am_m xs L d 163 [.ref q, .int x0, .long x1, .int x2] h P := by
  unfold am_m
  rw [(kn_163).1, ke_163_0]
  exact k
theorem kg_164 {q : Nat} {x0 : Int64} {x1 : Int32} (k : am_w xs L d 164 ((4, 1, 0, 0, 0) :: (45, 3, 3, 5, 96) :: (0, 2, 0, 0, 8) :: (40, 3, 29, 3, 0) :: (4, 1, 0, 0, 0) :: (4, 1, 0, 0, 0) :: (45, 3, 3, 5, 96) :: (3, 1, 1, 0, 0) :: (2, 1, 3, 0, 0) :: (62, 3, 163, 4, 272) :: (4, 1, 0, 0, 0) :: (36, 1, 0, 0, 0) :: (45, 3, 3, 5, 96) :: (0, 1, 0, 0, 1) :: (9, 1, 0, 0, 0) :: (46, 3, 3, 5, 96) :: am_j 164 29) [some (.ref q), some (.long x0), none, some (.int x1)] [] h (am_K P)) : am_m xs L d 164 [.ref q, .long x0, .int x1] h P := by
  unfold am_m
  rw [(kn_164).1, ke_164_0]
  exact k
theorem kg_165 {q : Nat} {x0 : Int32} (k : am_w xs L d 165 ((2, 1, 1, 0, 0) :: (60, 3, 6, 1, 274) :: (39, 3, 21, 0, 0) :: (4, 1, 0, 0, 0) :: (45, 3, 16, 5, 90) :: (2, 1, 1, 0, 0) :: (48, 1, 0, 0, 0) :: (0, 1, 0, 0, -1) :: (40, 3, 21, 0, 0) :: (0, 1, 0, 0, 1) :: (41, 3, 22, 0, 0) :: am_j 165 21) [some (.ref q), some (.int x0)] [] h (am_K P)) : am_m xs L d 165 [.ref q, .int x0] h P := by
  unfold am_m
  rw [(kn_165).1, ke_165_0]
  exact k
theorem kg_166 {q : Nat} {x0 : Int32} {x1 : Int32} (k : am_w xs L d 166 ((2, 1, 1, 0, 0) :: (60, 3, 6, 1, 274) :: (39, 3, 24, 0, 0) :: (4, 1, 0, 0, 0) :: (45, 3, 16, 5, 90) :: (2, 1, 1, 0, 0) :: (2, 1, 2, 0, 0) :: (52, 1, 0, 0, 0) :: (4, 1, 0, 0, 0) :: (36, 1, 0, 0, 0) :: (45, 3, 5, 5, 98) :: (0, 1, 0, 0, 1) :: (9, 1, 0, 0, 0) :: (46, 3, 5, 5, 98) :: am_j 166 24) [some (.ref q), some (.int x0), some (.int x1)] [] h (am_K P)) : am_m xs L d 166 [.ref q, .int x0, .int x1] h P := by
  unfold am_m
  rw [(kn_166).1, ke_166_0]
  exact k
theorem kg_167 {q : Nat} {x0 : Int64} (k : am_w xs L d 167 ((4, 1, 0, 0, 0) :: (45, 3, 7, 5, 100) :: (0, 1, 0, 0, 5) :: (40, 3, 28, 3, 0) :: (4, 1, 0, 0, 0) :: (45, 3, 19, 5, 92) :: (4, 1, 0, 0, 0) :: (45, 3, 7, 5, 100) :: (3, 1, 1, 0, 0) :: (53, 1, 0, 0, 0) :: (4, 1, 0, 0, 0) :: (36, 1, 0, 0, 0) :: (45, 3, 7, 5, 100) :: (0, 1, 0, 0, 1) :: (9, 1, 0, 0, 0) :: (46, 3, 7, 5, 100) :: am_j 167 28) [some (.ref q), some (.long x0), none] [] h (am_K P)) : am_m xs L d 167 [.ref q, .long x0] h P := by
  unfold am_m
  rw [(kn_167).1, ke_167_0]
  exact k
theorem kg_168 {q : Nat} {x0 : Int64} {x1 : Int32} (k : am_w xs L d 168 ((4, 1, 0, 0, 0) :: (45, 3, 6, 5, 99) :: (0, 2, 0, 0, 6) :: (40, 3, 55, 3, 0) :: (4, 1, 0, 0, 0) :: (45, 3, 17, 5, 91) :: (4, 1, 0, 0, 0) :: (45, 3, 6, 5, 99) :: (3, 1, 1, 0, 0) :: (60, 3, 119, 1, 275) :: (52, 1, 0, 0, 0) :: (4, 1, 0, 0, 0) :: (36, 1, 0, 0, 0) :: (45, 3, 18, 5, 101) :: (2, 1, 3, 0, 0) :: (39, 3, 40, 0, 0) :: (0, 1, 0, 0, 1) :: (4, 1, 0, 0, 0) :: (45, 3, 6, 5, 99) :: (15, 1, 0, 0, 0) :: (41, 3, 41, 0, 0) :: am_j 168 40) [some (.ref q), some (.long x0), none, some (.int x1)] [] h (am_K P)) : am_m xs L d 168 [.ref q, .long x0, .int x1] h P := by
  unfold am_m
  rw [(kn_168).1, ke_168_0]
  exact k
theorem kg_169 {q : Nat} (k : am_w xs L d 169 ((0, 1, 0, 0, 0) :: (5, 1, 1, 0, 0) :: am_j 169 2) [some (.ref q), none, none, none] [] h (am_K P)) : am_m xs L d 169 [.ref q] h P := by
  unfold am_m
  rw [(kn_169).1, ke_169_0]
  exact k
theorem kg_170 {q : Nat} (k : am_w xs L d 170 ((4, 1, 0, 0, 0) :: (45, 3, 3, 5, 96) :: (4, 1, 0, 0, 0) :: (45, 3, 4, 5, 97) :: (9, 1, 0, 0, 0) :: (64, 1, 0, 0, 0) :: []) [some (.ref q)] [] h (am_K P)) : am_m xs L d 170 [.ref q] h P := by
  unfold am_m
  rw [(kn_170).1, ke_170_0]
  exact k
theorem kg_171 {q : Nat} {x0 : Int32} (k : am_w xs L d 171 ((0, 1, 0, 0, 0) :: (5, 1, 2, 0, 0) :: (4, 1, 0, 0, 0) :: (45, 3, 0, 5, 93) :: (39, 3, 59, 5, 0) :: (0, 1, 0, 0, 0) :: (5, 1, 3, 0, 0) :: am_j 171 11) [some (.ref q), some (.int x0), none, none] [] h (am_K P)) : am_m xs L d 171 [.ref q, .int x0] h P := by
  unfold am_m
  rw [(kn_171).1, ke_171_0]
  exact k
theorem kg_172 {q : Nat} {x0 : Int32} {x1 : Int32} (k : am_w xs L d 172 ((4, 1, 0, 0, 0) :: (2, 1, 2, 0, 0) :: (62, 3, 173, 2, 278) :: (5, 1, 3, 0, 0) :: (0, 1, 0, 0, 0) :: (5, 2, 4, 0, 0) :: am_j 172 9) [some (.ref q), some (.int x0), some (.int x1), none, none] [] h (am_K P)) : am_m xs L d 172 [.ref q, .int x0, .int x1] h P := by
  unfold am_m
  rw [(kn_172).1, ke_172_0]
  exact k
theorem kg_173 {q : Nat} {x0 : Int32} (k : am_w xs L d 173 ((0, 1, 0, 0, 1) :: (4, 1, 0, 0, 0) :: (45, 3, 3, 5, 96) :: (15, 1, 0, 0, 0) :: (0, 1, 0, 0, 1) :: (10, 1, 0, 0, 0) :: (2, 1, 1, 0, 0) :: (4, 1, 0, 0, 0) :: (45, 3, 3, 5, 96) :: (15, 1, 0, 0, 0) :: (19, 1, 0, 0, 0) :: (64, 1, 0, 0, 0) :: []) [some (.ref q), some (.int x0)] [] h (am_K P)) : am_m xs L d 173 [.ref q, .int x0] h P := by
  unfold am_m
  rw [(kn_173).1, ke_173_0]
  exact k
theorem kg_174 {q : Nat} {x0 : Int32} {x1 : Int32} (k : am_w xs L d 174 ((2, 1, 2, 0, 0) :: (4, 1, 0, 0, 0) :: (45, 3, 15, 5, 89) :: (2, 1, 1, 0, 0) :: (48, 1, 0, 0, 0) :: (18, 1, 0, 0, 0) :: (5, 1, 3, 0, 0) :: (0, 2, 0, 0, -2) :: (5, 2, 4, 0, 0) :: (0, 2, 0, 0, 9) :: (5, 2, 5, 0, 0) :: (0, 1, 0, 0, 0) :: (5, 2, 6, 0, 0) :: am_j 174 20) [some (.ref q), some (.int x0), some (.int x1), none, none, none, none] [] h (am_K P)) : am_m xs L d 174 [.ref q, .int x0, .int x1] h P := by
  unfold am_m
  rw [(kn_174).1, ke_174_0]
  exact k
theorem kg_175 {q : Nat} {x0 : Int32} {x1 : Int32} (k : am_w xs L d 175 ((4, 1, 0, 0, 0) :: (45, 3, 9, 5, 83) :: (2, 1, 1, 0, 0) :: (48, 1, 0, 0, 0) :: (0, 1, 0, 0, 1) :: (10, 1, 0, 0, 0) :: (5, 1, 3, 0, 0) :: (0, 1, 0, 0, 0) :: (5, 2, 4, 0, 0) :: am_j 175 12) [some (.ref q), some (.int x0), some (.int x1), none, none, none] [] h (am_K P)) : am_m xs L d 175 [.ref q, .int x0, .int x1] h P := by
  unfold am_m
  rw [(kn_175).1, ke_175_0]
  exact k
theorem kg_176 {q : Nat} {x0 : Int32} {x1 : Int32} (k : am_w xs L d 176 ((0, 1, 0, 0, 0) :: (5, 1, 3, 0, 0) :: am_j 176 2) [some (.ref q), some (.int x0), some (.int x1), none] [] h (am_K P)) : am_m xs L d 176 [.ref q, .int x0, .int x1] h P := by
  unfold am_m
  rw [(kn_176).1, ke_176_0]
  exact k
theorem kg_177 {q : Nat} {x0 : Int32} (k : am_w xs L d 177 ((0, 1, 0, 0, 0) :: (5, 1, 2, 0, 0) :: (0, 1, 0, 0, 0) :: (5, 1, 3, 0, 0) :: am_j 177 4) [some (.ref q), some (.int x0), none, none] [] h (am_K P)) : am_m xs L d 177 [.ref q, .int x0] h P := by
  unfold am_m
  rw [(kn_177).1, ke_177_0]
  exact k
theorem kg_178 {q : Nat} (k : am_w xs L d 178 ((4, 1, 0, 0, 0) :: (61, 3, 0, 0, 280) :: (4, 1, 0, 0, 0) :: (0, 1, 0, 0, -1) :: (46, 3, 2, 8, 102) :: (4, 1, 0, 0, 0) :: (0, 3, 0, 0, 1000) :: (57, 2, 2, 0, 0) :: (47, 3, 5, 8, 103) :: (4, 1, 0, 0, 0) :: (0, 2, 0, 0, 48) :: (57, 2, 0, 0, 0) :: (47, 3, 20, 8, 104) :: (4, 1, 0, 0, 0) :: (0, 2, 0, 0, 9) :: (57, 2, 0, 0, 0) :: (47, 3, 21, 8, 105) :: (4, 1, 0, 0, 0) :: (0, 1, 0, 0, 3) :: (57, 2, 0, 0, 0) :: (47, 3, 23, 8, 106) :: (4, 1, 0, 0, 0) :: (0, 3, 0, 0, 4096) :: (57, 2, 0, 0, 0) :: (47, 3, 24, 8, 107) :: (4, 1, 0, 0, 0) :: (0, 3, 0, 0, 4096) :: (57, 2, 0, 0, 0) :: (47, 3, 25, 8, 108) :: (67, 1, 0, 0, 0) :: []) [some (.ref q)] [] h (am_K P)) : am_m xs L d 178 [.ref q] h P := by
  unfold am_m
  rw [(kn_178).1, ke_178_0]
  exact k
theorem kg_179 {q : Nat} (k : am_w xs L d 179 ((4, 1, 0, 0, 0) :: (45, 3, 0, 8, 109) :: (64, 1, 0, 0, 0) :: []) [some (.ref q)] [] h (am_K P)) : am_m xs L d 179 [.ref q] h P := by
  unfold am_m
  rw [(kn_179).1, ke_179_0]
  exact k
theorem kg_180 {q : Nat} {x0 : Int32} {x1 : Int32} {x2 : Int32} {x3 : Int32} {x4 : Int32} (k : am_w xs L d 180 ((4, 1, 0, 0, 0) :: (0, 1, 0, 0, 0) :: (46, 3, 0, 8, 109) :: (4, 1, 0, 0, 0) :: (45, 3, 6, 8, 110) :: (0, 2, 0, 0, 20) :: (9, 1, 0, 0, 0) :: (0, 3, 0, 0, 1000) :: (40, 3, 20, 5, 0) :: (0, 1, 0, 0, -1) :: (64, 1, 0, 0, 0) :: am_j 180 20) [some (.ref q), some (.int x0), some (.int x1), some (.int x2), some (.int x3), some (.int x4), none, none] [] h (am_K P)) : am_m xs L d 180 [.ref q, .int x0, .int x1, .int x2, .int x3, .int x4] h P := by
  unfold am_m
  rw [(kn_180).1, ke_180_0]
  exact k
theorem kg_181 {q : Nat} {x0 : Int32} (k : am_w xs L d 181 ((4, 1, 0, 0, 0) :: (0, 1, 0, 0, 0) :: (46, 3, 0, 8, 109) :: (2, 1, 1, 0, 0) :: (39, 3, 17, 2, 0) :: (2, 1, 1, 0, 0) :: (4, 1, 0, 0, 0) :: (45, 3, 6, 8, 110) :: (40, 3, 23, 5, 0) :: am_j 181 17) [some (.ref q), some (.int x0)] [] h (am_K P)) : am_m xs L d 181 [.ref q, .int x0] h P := by
  unfold am_m
  rw [(kn_181).1, ke_181_0]
  exact k
theorem kg_182 {q : Nat} {x0 : Int32} (k : am_w xs L d 182 ((4, 1, 0, 0, 0) :: (2, 1, 1, 0, 0) :: (46, 3, 1, 8, 116) :: (4, 1, 0, 0, 0) :: (0, 1, 0, 0, -1) :: (46, 3, 2, 8, 102) :: (0, 1, 0, 0, -1) :: (64, 1, 0, 0, 0) :: []) [some (.ref q), some (.int x0)] [] h (am_K P)) : am_m xs L d 182 [.ref q, .int x0] h P := by
  unfold am_m
  rw [(kn_182).1, ke_182_0]
  exact k
theorem kg_183 {q : Nat} (k : am_w xs L d 183 ((4, 1, 0, 0, 0) :: (45, 3, 9, 8, 115) :: (0, 2, 0, 0, 6) :: (40, 3, 10, 1, 0) :: (67, 1, 0, 0, 0) :: am_j 183 10) [some (.ref q), none, none] [] h (am_K P)) : am_m xs L d 183 [.ref q] h P := by
  unfold am_m
  rw [(kn_183).1, ke_183_0]
  exact k
theorem kg_184 {q : Nat} {x0 : Int32} (k : am_w xs L d 184 ((2, 1, 1, 0, 0) :: (4, 1, 0, 0, 0) :: (45, 3, 7, 8, 111) :: (40, 3, 21, 3, 0) :: (4, 1, 0, 0, 0) :: (45, 3, 5, 8, 103) :: (2, 1, 1, 0, 0) :: (50, 1, 0, 0, 0) :: (0, 3, 0, 0, 255) :: (18, 1, 0, 0, 0) :: (41, 3, 22, 0, 0) :: am_j 184 21) [some (.ref q), some (.int x0)] [] h (am_K P)) : am_m xs L d 184 [.ref q, .int x0] h P := by
  unfold am_m
  rw [(kn_184).1, ke_184_0]
  exact k
theorem kg_185 {x0 : Int32} (k : am_w xs L d 185 ((2, 1, 0, 0, 0) :: (0, 2, 0, 0, 97) :: (40, 3, 16, 2, 0) :: (2, 1, 0, 0, 0) :: (0, 2, 0, 0, 122) :: (40, 3, 16, 4, 0) :: (0, 1, 0, 0, 1) :: (41, 3, 17, 0, 0) :: am_j 185 16) [some (.int x0)] [] h (am_K P)) : am_m xs L d 185 [.int x0] h P := by
  unfold am_m
  rw [(kn_185).1, ke_185_0]
  exact k
theorem kg_186 {x0 : Int32} (k : am_w xs L d 186 ((2, 1, 0, 0, 0) :: (0, 2, 0, 0, 48) :: (40, 3, 16, 2, 0) :: (2, 1, 0, 0, 0) :: (0, 2, 0, 0, 57) :: (40, 3, 16, 4, 0) :: (0, 1, 0, 0, 1) :: (41, 3, 17, 0, 0) :: am_j 186 16) [some (.int x0)] [] h (am_K P)) : am_m xs L d 186 [.int x0] h P := by
  unfold am_m
  rw [(kn_186).1, ke_186_0]
  exact k
theorem kg_187 {q : Nat} (k : am_w xs L d 187 ((0, 1, 0, 0, 1) :: (5, 1, 1, 0, 0) :: am_j 187 2) [some (.ref q), none] [] h (am_K P)) : am_m xs L d 187 [.ref q] h P := by
  unfold am_m
  rw [(kn_187).1, ke_187_0]
  exact k
theorem kg_188 {q : Nat} (k : am_w xs L d 188 ((4, 1, 0, 0, 0) :: (68, 2, 0, 13, 0) :: (62, 3, 189, 2, 293) :: (39, 3, 16, 0, 0) :: (4, 1, 0, 0, 0) :: (62, 3, 191, 1, 294) :: (41, 3, 153, 0, 0) :: am_j 188 16) [some (.ref q)] [] h (am_K P)) : am_m xs L d 188 [.ref q] h P := by
  unfold am_m
  rw [(kn_188).1, ke_188_0]
  exact k
theorem kg_189 {q : Nat} {x0 : UInt32} (k : am_w xs L d 189 ((4, 1, 0, 0, 0) :: (45, 3, 9, 8, 115) :: (0, 1, 0, 0, 2) :: (40, 3, 24, 1, 0) :: (4, 1, 0, 0, 0) :: (45, 3, 14, 8, 126) :: (4, 1, 1, 0, 0) :: (60, 3, 190, 1, 301) :: (31, 1, 0, 0, 0) :: (39, 3, 24, 1, 0) :: (0, 1, 0, 0, 1) :: (41, 3, 25, 0, 0) :: am_j 189 24) [some (.ref q), some (.float x0)] [] h (am_K P)) : am_m xs L d 189 [.ref q, .float x0] h P := by
  unfold am_m
  rw [(kn_189).1, ke_189_0]
  exact k
theorem kg_190 {x0 : UInt32} (k : am_w xs L d 190 ((1, 1, 0, 0, 0) :: (6, 1, 1, 0, 0) :: (0, 1, 0, 0, 0) :: (5, 1, 3, 0, 0) :: am_j 190 4) [some (.float x0), none, none, none] [] h (am_K P)) : am_m xs L d 190 [.float x0] h P := by
  unfold am_m
  rw [(kn_190).1, ke_190_0]
  exact k
theorem kg_191 {q : Nat} (k : am_w xs L d 191 ((4, 1, 0, 0, 0) :: (45, 3, 4, 8, 114) :: (45, 3, 0, 7, 128) :: (39, 3, 15, 5, 0) :: (4, 1, 0, 0, 0) :: (0, 1, 0, 0, 3) :: (62, 3, 192, 2, 292) :: am_j 191 15) [some (.ref q), none] [] h (am_K P)) : am_m xs L d 191 [.ref q] h P := by
  unfold am_m
  rw [(kn_191).1, ke_191_0]
  exact k
theorem kg_192 {q : Nat} {x0 : Int32} (k : am_w xs L d 192 ((4, 1, 0, 0, 0) :: (45, 3, 9, 8, 115) :: (0, 2, 0, 0, 6) :: (40, 3, 10, 1, 0) :: (67, 1, 0, 0, 0) :: am_j 192 10) [some (.ref q), some (.int x0)] [] h (am_K P)) : am_m xs L d 192 [.ref q, .int x0] h P := by
  unfold am_m
  rw [(kn_192).1, ke_192_0]
  exact k
theorem kg_193 {q : Nat} {x0 : UInt32} {x1 : Int32} {x2 : Int32} (k : am_w xs L d 193 ((4, 1, 0, 0, 0) :: (4, 1, 1, 0, 0) :: (62, 3, 194, 2, 305) :: (4, 1, 0, 0, 0) :: (2, 1, 2, 0, 0) :: (2, 1, 3, 0, 0) :: (62, 3, 195, 3, 306) :: (64, 1, 0, 0, 0) :: []) [some (.ref q), some (.float x0), some (.int x1), some (.int x2)] [] h (am_K P)) : am_m xs L d 193 [.ref q, .float x0, .int x1, .int x2] h P := by
  unfold am_m
  rw [(kn_193).1, ke_193_0]
  exact k
theorem kg_194 {q : Nat} {x0 : UInt32} (k : am_w xs L d 194 ((4, 1, 0, 0, 0) :: (4, 1, 1, 0, 0) :: (62, 3, 189, 2, 293) :: (39, 3, 13, 1, 0) :: (4, 1, 0, 0, 0) :: (0, 1, 0, 0, 1) :: (62, 3, 192, 2, 292) :: am_j 194 13) [some (.ref q), some (.float x0)] [] h (am_K P)) : am_m xs L d 194 [.ref q, .float x0] h P := by
  unfold am_m
  rw [(kn_194).1, ke_194_0]
  exact k
theorem kg_195 {q : Nat} {x0 : Int32} {x1 : Int32} (k : am_w xs L d 195 ((4, 1, 0, 0, 0) :: (45, 3, 9, 8, 115) :: (0, 1, 0, 0, 3) :: (40, 3, 16, 0, 0) :: (4, 1, 0, 0, 0) :: (0, 1, 0, 0, 1) :: (62, 3, 192, 2, 292) :: (41, 3, 33, 0, 0) :: am_j 195 16) [some (.ref q), some (.int x0), some (.int x1), none] [] h (am_K P)) : am_m xs L d 195 [.ref q, .int x0, .int x1] h P := by
  unfold am_m
  rw [(kn_195).1, ke_195_0]
  exact k
theorem kg_196 {x0 : Int32} {x1 : Int32} {x2 : Int32} (k : am_w xs L d 196 ((2, 1, 0, 0, 0) :: (2, 1, 1, 0, 0) :: (40, 3, 14, 2, 0) :: (2, 1, 0, 0, 0) :: (2, 1, 2, 0, 0) :: (40, 3, 14, 4, 0) :: (0, 1, 0, 0, 1) :: (41, 3, 15, 0, 0) :: am_j 196 14) [some (.int x0), some (.int x1), some (.int x2)] [] h (am_K P)) : am_m xs L d 196 [.int x0, .int x1, .int x2] h P := by
  unfold am_m
  rw [(kn_196).1, ke_196_0]
  exact k
theorem kg_197 {q : Nat} (k : am_w xs L d 197 ((4, 1, 0, 0, 0) :: (4, 1, 0, 0, 0) :: (45, 3, 4, 8, 114) :: (45, 3, 1, 7, 124) :: (0, 2, 0, 0, 6) :: (62, 3, 198, 3, 308) :: (4, 1, 0, 0, 0) :: (62, 3, 199, 1, 309) :: (6, 1, 1, 0, 0) :: (4, 1, 0, 0, 0) :: (45, 3, 9, 8, 115) :: (0, 2, 0, 0, 6) :: (40, 3, 28, 1, 0) :: (67, 1, 0, 0, 0) :: am_j 197 28) [some (.ref q), none, none] [] h (am_K P)) : am_m xs L d 197 [.ref q] h P := by
  unfold am_m
  rw [(kn_197).1, ke_197_0]
  exact k
theorem kg_198 {q : Nat} {x0 : Int32} {x1 : Int32} (k : am_w xs L d 198 ((2, 1, 1, 0, 0) :: (2, 1, 2, 0, 0) :: (40, 3, 10, 1, 0) :: (4, 1, 0, 0, 0) :: (0, 1, 0, 0, 5) :: (62, 3, 192, 2, 292) :: am_j 198 10) [some (.ref q), some (.int x0), some (.int x1)] [] h (am_K P)) : am_m xs L d 198 [.ref q, .int x0, .int x1] h P := by
  unfold am_m
  rw [(kn_198).1, ke_198_0]
  exact k
theorem kg_199 {q : Nat} (k : am_w xs L d 199 ((4, 1, 0, 0, 0) :: (62, 3, 200, 1, 311) :: (39, 3, 12, 1, 0) :: (4, 1, 0, 0, 0) :: (0, 1, 0, 0, 1) :: (62, 3, 192, 2, 292) :: am_j 199 12) [some (.ref q), none, none] [] h (am_K P)) : am_m xs L d 199 [.ref q] h P := by
  unfold am_m
  rw [(kn_199).1, ke_199_0]
  exact k
theorem kg_200 {q : Nat} (k : am_w xs L d 200 ((4, 1, 0, 0, 0) :: (45, 3, 9, 8, 115) :: (0, 1, 0, 0, 2) :: (40, 3, 62, 1, 0) :: (4, 1, 0, 0, 0) :: (68, 2, 0, 13, 0) :: (62, 3, 189, 2, 293) :: (39, 3, 62, 1, 0) :: (4, 1, 0, 0, 0) :: (68, 2, 1, 14, 0) :: (62, 3, 189, 2, 293) :: (39, 3, 62, 1, 0) :: (4, 1, 0, 0, 0) :: (68, 2, 2, 15, 0) :: (62, 3, 189, 2, 293) :: (39, 3, 62, 1, 0) :: (4, 1, 0, 0, 0) :: (68, 2, 3, 16, 0) :: (62, 3, 189, 2, 293) :: (39, 3, 62, 1, 0) :: (4, 1, 0, 0, 0) :: (68, 2, 4, 17, 0) :: (62, 3, 189, 2, 293) :: (39, 3, 62, 1, 0) :: (4, 1, 0, 0, 0) :: (68, 2, 5, 18, 0) :: (62, 3, 189, 2, 293) :: (39, 3, 64, 0, 0) :: am_j 200 62) [some (.ref q)] [] h (am_K P)) : am_m xs L d 200 [.ref q] h P := by
  unfold am_m
  rw [(kn_200).1, ke_200_0]
  exact k
theorem kg_201 {q : Nat} {x0 : Int64} {x1 : Int32} {x2 : Int32} (k : am_w xs L d 201 ((4, 1, 0, 0, 0) :: (45, 3, 4, 8, 114) :: (45, 3, 20, 7, 129) :: (4, 1, 0, 0, 0) :: (45, 3, 4, 8, 114) :: (45, 3, 8, 7, 130) :: (3, 1, 1, 0, 0) :: (53, 1, 0, 0, 0) :: (4, 1, 0, 0, 0) :: (45, 3, 4, 8, 114) :: (45, 3, 21, 7, 131) :: (4, 1, 0, 0, 0) :: (45, 3, 4, 8, 114) :: (45, 3, 8, 7, 130) :: (2, 1, 3, 0, 0) :: (52, 1, 0, 0, 0) :: (4, 1, 0, 0, 0) :: (45, 3, 4, 8, 114) :: (45, 3, 22, 7, 132) :: (4, 1, 0, 0, 0) :: (45, 3, 4, 8, 114) :: (45, 3, 8, 7, 130) :: (2, 2, 4, 0, 0) :: (52, 1, 0, 0, 0) :: (4, 1, 0, 0, 0) :: (45, 3, 4, 8, 114) :: (36, 1, 0, 0, 0) :: (45, 3, 8, 7, 130) :: (0, 1, 0, 0, 1) :: (9, 1, 0, 0, 0) :: (46, 3, 8, 7, 130) :: (67, 1, 0, 0, 0) :: []) [some (.ref q), some (.long x0), none, some (.int x1), some (.int x2)] [] h (am_K P)) : am_m xs L d 201 [.ref q, .long x0, .int x1, .int x2] h P := by
  unfold am_m
  rw [(kn_201).1, ke_201_0]
  exact k
theorem kg_202 {q : Nat} (k : am_w xs L d 202 ((4, 1, 0, 0, 0) :: (4, 1, 0, 0, 0) :: (45, 3, 4, 8, 114) :: (45, 3, 2, 7, 133) :: (0, 1, 0, 0, 5) :: (62, 3, 198, 3, 308) :: (4, 1, 0, 0, 0) :: (62, 3, 199, 1, 309) :: (6, 1, 1, 0, 0) :: (4, 1, 0, 0, 0) :: (68, 2, 9, 23, 0) :: (62, 3, 194, 2, 305) :: (4, 1, 0, 0, 0) :: (45, 3, 4, 8, 114) :: (45, 3, 2, 7, 133) :: (5, 1, 3, 0, 0) :: (0, 1, 0, 0, 0) :: (5, 2, 4, 0, 0) :: (0, 1, 0, 0, 1) :: (5, 2, 5, 0, 0) :: am_j 202 37) [some (.ref q), none, none, none, none, none, none] [] h (am_K P)) : am_m xs L d 202 [.ref q] h P := by
  unfold am_m
  rw [(kn_202).1, ke_202_0]
  exact k
theorem kg_203 {q : Nat} (k : am_w xs L d 203 ((4, 1, 0, 0, 0) :: (62, 3, 200, 1, 311) :: (39, 3, 12, 1, 0) :: (4, 1, 0, 0, 0) :: (0, 1, 0, 0, 1) :: (62, 3, 192, 2, 292) :: am_j 203 12) [some (.ref q), none] [] h (am_K P)) : am_m xs L d 203 [.ref q] h P := by
  unfold am_m
  rw [(kn_203).1, ke_203_0]
  exact k
theorem kg_204 {q : Nat} {x0 : Int32} (k : am_w xs L d 204 ((4, 1, 0, 0, 0) :: (45, 3, 9, 8, 115) :: (2, 1, 1, 0, 0) :: (40, 3, 12, 1, 0) :: (0, 1, 0, 0, 1) :: (41, 3, 13, 0, 0) :: am_j 204 12) [some (.ref q), some (.int x0), none] [] h (am_K P)) : am_m xs L d 204 [.ref q, .int x0] h P := by
  unfold am_m
  rw [(kn_204).1, ke_204_0]
  exact k
theorem kg_205 {q : Nat} {x0 : Int32} (k : am_w xs L d 205 ((4, 1, 0, 0, 0) :: (2, 1, 1, 0, 0) :: (39, 3, 15, 0, 0) :: (4, 1, 0, 0, 0) :: (45, 3, 4, 8, 114) :: (45, 3, 4, 7, 136) :: (41, 3, 22, 0, 0) :: am_j 205 15) [some (.ref q), some (.int x0), none, none, none] [] h (am_K P)) : am_m xs L d 205 [.ref q, .int x0] h P := by
  unfold am_m
  rw [(kn_205).1, ke_205_0]
  exact k
theorem kg_206 {q : Nat} (k : am_w xs L d 206 ((4, 1, 0, 0, 0) :: (45, 3, 9, 8, 115) :: (0, 1, 0, 0, 2) :: (40, 3, 13, 0, 0) :: (4, 1, 0, 0, 0) :: (0, 1, 0, 0, 1) :: (62, 3, 192, 2, 292) :: am_j 206 13) [some (.ref q), none, none] [] h (am_K P)) : am_m xs L d 206 [.ref q] h P := by
  unfold am_m
  rw [(kn_206).1, ke_206_0]
  exact k
theorem kg_207 {q : Nat} (k : am_w xs L d 207 ((4, 1, 0, 0, 0) :: (4, 1, 0, 0, 0) :: (45, 3, 4, 8, 114) :: (45, 3, 5, 7, 142) :: (0, 2, 0, 0, 6) :: (62, 3, 198, 3, 308) :: (4, 1, 0, 0, 0) :: (45, 3, 9, 8, 115) :: (0, 1, 0, 0, 2) :: (40, 3, 26, 0, 0) :: (4, 1, 0, 0, 0) :: (0, 1, 0, 0, 1) :: (62, 3, 192, 2, 292) :: am_j 207 26) [some (.ref q), none, none] [] h (am_K P)) : am_m xs L d 207 [.ref q] h P := by
  unfold am_m
  rw [(kn_207).1, ke_207_0]
  exact k
theorem kg_208 {q : Nat} {x0 : Int32} (k : am_w xs L d 208 ((4, 1, 0, 0, 0) :: (4, 1, 0, 0, 0) :: (45, 3, 4, 8, 114) :: (45, 3, 6, 7, 145) :: (0, 2, 0, 0, 6) :: (62, 3, 198, 3, 308) :: (4, 1, 0, 0, 0) :: (62, 3, 206, 1, 315) :: (6, 1, 2, 0, 0) :: (4, 1, 0, 0, 0) :: (45, 3, 9, 8, 115) :: (0, 2, 0, 0, 6) :: (40, 3, 28, 1, 0) :: (67, 1, 0, 0, 0) :: am_j 208 28) [some (.ref q), some (.int x0), none, none] [] h (am_K P)) : am_m xs L d 208 [.ref q, .int x0] h P := by
  unfold am_m
  rw [(kn_208).1, ke_208_0]
  exact k
theorem kg_209 {q : Nat} (k : am_w xs L d 209 ((4, 1, 0, 0, 0) :: (4, 1, 0, 0, 0) :: (45, 3, 4, 8, 114) :: (45, 3, 7, 7, 148) :: (0, 1, 0, 0, 5) :: (62, 3, 198, 3, 308) :: (4, 1, 0, 0, 0) :: (62, 3, 206, 1, 315) :: (6, 1, 1, 0, 0) :: (4, 1, 0, 0, 0) :: (45, 3, 9, 8, 115) :: (0, 2, 0, 0, 6) :: (40, 3, 27, 1, 0) :: (67, 1, 0, 0, 0) :: am_j 209 27) [some (.ref q), none, none] [] h (am_K P)) : am_m xs L d 209 [.ref q] h P := by
  unfold am_m
  rw [(kn_209).1, ke_209_0]
  exact k
theorem kg_210 {q : Nat} {x0 : Int32} (k : am_w xs L d 210 ((4, 1, 0, 0, 0) :: (0, 1, 0, 0, 0) :: (46, 3, 1, 8, 116) :: (4, 1, 0, 0, 0) :: (0, 1, 0, 0, -1) :: (46, 3, 2, 8, 102) :: (2, 1, 1, 0, 0) :: (64, 1, 0, 0, 0) :: []) [some (.ref q), some (.int x0)] [] h (am_K P)) : am_m xs L d 210 [.ref q, .int x0] h P := by
  unfold am_m
  rw [(kn_210).1, ke_210_0]
  exact k
theorem kg_211 {q : Nat} (k : am_w xs L d 211 ((4, 1, 0, 0, 0) :: (0, 1, 0, 0, 0) :: (46, 3, 0, 8, 109) :: (4, 1, 0, 0, 0) :: (45, 3, 12, 8, 113) :: (64, 1, 0, 0, 0) :: []) [some (.ref q)] [] h (am_K P)) : am_m xs L d 211 [.ref q] h P := by
  unfold am_m
  rw [(kn_211).1, ke_211_0]
  exact k
theorem kg_212 {q : Nat} (k : am_w xs L d 212 ((4, 1, 0, 0, 0) :: (0, 1, 0, 0, 0) :: (46, 3, 0, 8, 109) :: (4, 1, 0, 0, 0) :: (45, 3, 2, 8, 102) :: (64, 1, 0, 0, 0) :: []) [some (.ref q)] [] h (am_K P)) : am_m xs L d 212 [.ref q] h P := by
  unfold am_m
  rw [(kn_212).1, ke_212_0]
  exact k
theorem kg_213 {q : Nat} (k : am_w xs L d 213 ((4, 1, 0, 0, 0) :: (0, 1, 0, 0, 0) :: (46, 3, 0, 8, 109) :: (4, 1, 0, 0, 0) :: (45, 3, 3, 8, 118) :: (43, 3, 18, 0, 0) :: (4, 1, 0, 0, 0) :: (0, 1, 0, 0, 1) :: (62, 3, 182, 2, 281) :: (64, 1, 0, 0, 0) :: am_j 213 18) [some (.ref q)] [] h (am_K P)) : am_m xs L d 213 [.ref q] h P := by
  unfold am_m
  rw [(kn_213).1, ke_213_0]
  exact k
theorem kg_214 {q : Nat} {x0 : Int32} {x1 : Int32} (k : am_w xs L d 214 ((4, 1, 0, 0, 0) :: (0, 1, 0, 0, 0) :: (46, 3, 0, 8, 109) :: (4, 1, 0, 0, 0) :: (2, 1, 1, 0, 0) :: (62, 3, 215, 2, 317) :: (39, 3, 22, 0, 0) :: (2, 1, 2, 0, 0) :: (0, 1, 0, 0, 0) :: (0, 1, 0, 0, 4) :: (60, 3, 196, 3, 307) :: (39, 3, 28, 1, 0) :: am_j 214 22) [some (.ref q), some (.int x0), some (.int x1)] [] h (am_K P)) : am_m xs L d 214 [.ref q, .int x0, .int x1] h P := by
  unfold am_m
  rw [(kn_214).1, ke_214_0]
  exact k
theorem kg_215 {q : Nat} {x0 : Int32} (k : am_w xs L d 215 ((4, 1, 0, 0, 0) :: (45, 3, 3, 8, 118) :: (42, 3, 26, 0, 0) :: (2, 1, 1, 0, 0) :: (39, 3, 26, 2, 0) :: (2, 1, 1, 0, 0) :: (4, 1, 0, 0, 0) :: (45, 3, 3, 8, 118) :: (62, 3, 312, 1, 324) :: (40, 3, 26, 3, 0) :: (0, 1, 0, 0, 1) :: (41, 3, 27, 0, 0) :: am_j 215 26) [some (.ref q), some (.int x0)] [] h (am_K P)) : am_m xs L d 215 [.ref q, .int x0] h P := by
  unfold am_m
  rw [(kn_215).1, ke_215_0]
  exact k
theorem kg_216 {x0 : Int64} (k : am_w xs L d 216 ((0, 1, 0, 0, 0) :: (5, 1, 2, 0, 0) :: (3, 1, 0, 0, 0) :: (6, 1, 3, 0, 0) :: am_j 216 4) [some (.long x0), none, none, none, none] [] h (am_K P)) : am_m xs L d 216 [.long x0] h P := by
  unfold am_m
  rw [(kn_216).1, ke_216_0]
  exact k
theorem kg_217 {q : Nat} {x0 : Int32} {x1 : Int32} {x2 : Int32} (k : am_w xs L d 217 ((4, 1, 0, 0, 0) :: (2, 1, 1, 0, 0) :: (2, 1, 3, 0, 0) :: (62, 3, 218, 3, 323) :: (39, 3, 29, 0, 0) :: (4, 1, 0, 0, 0) :: (45, 3, 3, 8, 118) :: (2, 1, 1, 0, 0) :: (62, 3, 313, 2, 318) :: (60, 3, 220, 1, 322) :: (2, 1, 2, 0, 0) :: (18, 1, 0, 0, 0) :: (39, 3, 29, 1, 0) :: (0, 1, 0, 0, 1) :: (41, 3, 30, 0, 0) :: am_j 217 29) [some (.ref q), some (.int x0), some (.int x1), some (.int x2)] [] h (am_K P)) : am_m xs L d 217 [.ref q, .int x0, .int x1, .int x2] h P := by
  unfold am_m
  rw [(kn_217).1, ke_217_0]
  exact k
theorem kg_218 {q : Nat} {x0 : Int32} {x1 : Int32} (k : am_w xs L d 218 ((2, 1, 1, 0, 0) :: (4, 1, 0, 0, 0) :: (45, 3, 3, 8, 118) :: (45, 3, 3, 7, 137) :: (40, 3, 27, 2, 0) :: (2, 1, 2, 0, 0) :: (2, 1, 1, 0, 0) :: (4, 1, 0, 0, 0) :: (45, 3, 3, 8, 118) :: (45, 3, 3, 7, 137) :: (10, 1, 0, 0, 0) :: (60, 3, 219, 2, 325) :: (39, 3, 31, 0, 0) :: am_j 218 27) [some (.ref q), some (.int x0), some (.int x1)] [] h (am_K P)) : am_m xs L d 218 [.ref q, .int x0, .int x1] h P := by
  unfold am_m
  rw [(kn_218).1, ke_218_0]
  exact k
theorem kg_219 {x0 : Int32} {x1 : Int32} (k : am_w xs L d 219 ((2, 1, 0, 0, 0) :: (2, 1, 1, 0, 0) :: (16, 1, 0, 0, 0) :: (0, 1, 0, 0, 1) :: (18, 1, 0, 0, 0) :: (0, 1, 0, 0, 1) :: (40, 3, 13, 1, 0) :: (0, 1, 0, 0, 1) :: (41, 3, 14, 0, 0) :: am_j 219 13) [some (.int x0), some (.int x1)] [] h (am_K P)) : am_m xs L d 219 [.int x0, .int x1] h P := by
  unfold am_m
  rw [(kn_219).1, ke_219_0]
  exact k
theorem kg_220 {x0 : Int64} (k : am_w xs L d 220 ((0, 1, 0, 0, 0) :: (5, 1, 2, 0, 0) :: (3, 1, 0, 0, 0) :: (6, 1, 3, 0, 0) :: am_j 220 4) [some (.long x0), none, none, none, none] [] h (am_K P)) : am_m xs L d 220 [.long x0] h P := by
  unfold am_m
  rw [(kn_220).1, ke_220_0]
  exact k
theorem kg_221 {q : Nat} {x0 : Int32} {x1 : Int32} (k : am_w xs L d 221 ((4, 1, 0, 0, 0) :: (0, 1, 0, 0, 0) :: (46, 3, 0, 8, 109) :: (4, 1, 0, 0, 0) :: (2, 1, 1, 0, 0) :: (62, 3, 222, 2, 326) :: (39, 3, 22, 0, 0) :: (2, 1, 2, 0, 0) :: (0, 1, 0, 0, 0) :: (0, 1, 0, 0, 3) :: (60, 3, 196, 3, 307) :: (39, 3, 28, 1, 0) :: am_j 221 22) [some (.ref q), some (.int x0), some (.int x1), none] [] h (am_K P)) : am_m xs L d 221 [.ref q, .int x0, .int x1] h P := by
  unfold am_m
  rw [(kn_221).1, ke_221_0]
  exact k
theorem kg_222 {q : Nat} {x0 : Int32} (k : am_w xs L d 222 ((4, 1, 0, 0, 0) :: (45, 3, 3, 8, 118) :: (42, 3, 26, 0, 0) :: (2, 1, 1, 0, 0) :: (39, 3, 26, 2, 0) :: (2, 1, 1, 0, 0) :: (4, 1, 0, 0, 0) :: (45, 3, 3, 8, 118) :: (45, 3, 1, 7, 124) :: (40, 3, 26, 3, 0) :: (0, 1, 0, 0, 1) :: (41, 3, 27, 0, 0) :: am_j 222 26) [some (.ref q), some (.int x0)] [] h (am_K P)) : am_m xs L d 222 [.ref q, .int x0] h P := by
  unfold am_m
  rw [(kn_222).1, ke_222_0]
  exact k
theorem kg_223 {q : Nat} {x0 : Int32} {x1 : Int32} {x2 : Int32} (k : am_w xs L d 223 ((0, 2, 0, 0, -2) :: (5, 2, 4, 0, 0) :: (0, 1, 0, 0, 0) :: (5, 2, 5, 0, 0) :: am_j 223 7) [some (.ref q), some (.int x0), some (.int x1), some (.int x2), none, none] [] h (am_K P)) : am_m xs L d 223 [.ref q, .int x0, .int x1, .int x2] h P := by
  unfold am_m
  rw [(kn_223).1, ke_223_0]
  exact k
theorem kg_224 {q : Nat} {x0 : Int32} (k : am_w xs L d 224 ((0, 1, 0, 0, 0) :: (5, 1, 2, 0, 0) :: (0, 1, 0, 0, 0) :: (5, 1, 3, 0, 0) :: am_j 224 4) [some (.ref q), some (.int x0), none, none] [] h (am_K P)) : am_m xs L d 224 [.ref q, .int x0] h P := by
  unfold am_m
  rw [(kn_224).1, ke_224_0]
  exact k
theorem kg_225 {x0 : Int32} (k : am_w xs L d 225 ((0, 1, 0, 0, 0) :: (5, 1, 1, 0, 0) :: (2, 1, 0, 0, 0) :: (5, 1, 2, 0, 0) :: am_j 225 4) [some (.int x0), none, none] [] h (am_K P)) : am_m xs L d 225 [.int x0] h P := by
  unfold am_m
  rw [(kn_225).1, ke_225_0]
  exact k
theorem kg_226 {q : Nat} {x0 : Int32} (k : am_w xs L d 226 ((4, 1, 0, 0, 0) :: (0, 1, 0, 0, 0) :: (46, 3, 0, 8, 109) :: (4, 1, 0, 0, 0) :: (2, 1, 1, 0, 0) :: (62, 3, 227, 2, 330) :: (39, 3, 25, 0, 0) :: (4, 1, 0, 0, 0) :: (4, 1, 0, 0, 0) :: (2, 1, 1, 0, 0) :: (62, 3, 228, 2, 331) :: (62, 3, 210, 2, 286) :: (41, 3, 30, 0, 0) :: am_j 226 25) [some (.ref q), some (.int x0)] [] h (am_K P)) : am_m xs L d 226 [.ref q, .int x0] h P := by
  unfold am_m
  rw [(kn_226).1, ke_226_0]
  exact k
theorem kg_227 {q : Nat} {x0 : Int32} (k : am_w xs L d 227 ((4, 1, 0, 0, 0) :: (45, 3, 3, 8, 118) :: (42, 3, 26, 0, 0) :: (2, 1, 1, 0, 0) :: (39, 3, 26, 2, 0) :: (2, 1, 1, 0, 0) :: (4, 1, 0, 0, 0) :: (45, 3, 3, 8, 118) :: (45, 3, 2, 7, 133) :: (40, 3, 26, 3, 0) :: (0, 1, 0, 0, 1) :: (41, 3, 27, 0, 0) :: am_j 227 26) [some (.ref q), some (.int x0)] [] h (am_K P)) : am_m xs L d 227 [.ref q, .int x0] h P := by
  unfold am_m
  rw [(kn_227).1, ke_227_0]
  exact k
theorem kg_228 {q : Nat} {x0 : Int32} (k : am_w xs L d 228 ((4, 1, 0, 0, 0) :: (45, 3, 3, 8, 118) :: (45, 3, 9, 7, 135) :: (2, 1, 1, 0, 0) :: (48, 1, 0, 0, 0) :: (0, 1, 0, 0, 1) :: (10, 1, 0, 0, 0) :: (5, 1, 2, 0, 0) :: (0, 1, 0, 0, 0) :: (5, 1, 3, 0, 0) :: am_j 228 14) [some (.ref q), some (.int x0), none, none, none] [] h (am_K P)) : am_m xs L d 228 [.ref q, .int x0] h P := by
  unfold am_m
  rw [(kn_228).1, ke_228_0]
  exact k
theorem kg_229 {q : Nat} (k : am_w xs L d 229 ((4, 1, 0, 0, 0) :: (0, 1, 0, 0, 0) :: (46, 3, 0, 8, 109) :: (4, 1, 0, 0, 0) :: (45, 3, 3, 8, 118) :: (43, 3, 18, 0, 0) :: (4, 1, 0, 0, 0) :: (0, 1, 0, 0, 1) :: (62, 3, 182, 2, 281) :: (64, 1, 0, 0, 0) :: am_j 229 18) [some (.ref q), none, none] [] h (am_K P)) : am_m xs L d 229 [.ref q] h P := by
  unfold am_m
  rw [(kn_229).1, ke_229_0]
  exact k
theorem kg_230 {q : Nat} {x0 : Int32} (k : am_w xs L d 230 ((4, 1, 0, 0, 0) :: (0, 1, 0, 0, 0) :: (46, 3, 0, 8, 109) :: (4, 1, 0, 0, 0) :: (2, 1, 1, 0, 0) :: (62, 3, 227, 2, 330) :: (39, 3, 29, 0, 0) :: (4, 1, 0, 0, 0) :: (4, 1, 0, 0, 0) :: (2, 1, 1, 0, 0) :: (4, 1, 0, 0, 0) :: (45, 3, 15, 8, 119) :: (62, 3, 231, 3, 332) :: (62, 3, 210, 2, 286) :: (41, 3, 34, 0, 0) :: am_j 230 29) [some (.ref q), some (.int x0)] [] h (am_K P)) : am_m xs L d 230 [.ref q, .int x0] h P := by
  unfold am_m
  rw [(kn_230).1, ke_230_0]
  exact k
theorem kg_231 {q : Nat} {x0 : Int32} {x1 : Int32} (k : am_w xs L d 231 ((4, 1, 0, 0, 0) :: (2, 1, 2, 0, 0) :: (4, 1, 0, 0, 0) :: (45, 3, 16, 8, 120) :: (62, 3, 232, 3, 333) :: (5, 1, 3, 0, 0) :: (0, 1, 0, 0, 0) :: (5, 2, 4, 0, 0) :: am_j 231 13) [some (.ref q), some (.int x0), some (.int x1), none, none] [] h (am_K P)) : am_m xs L d 231 [.ref q, .int x0, .int x1] h P := by
  unfold am_m
  rw [(kn_231).1, ke_231_0]
  exact k
theorem kg_232 {q : Nat} {x0 : Int32} {x1 : Int32} (k : am_w xs L d 232 ((0, 1, 0, 0, 0) :: (5, 1, 3, 0, 0) :: (0, 1, 0, 0, 0) :: (5, 2, 4, 0, 0) :: am_j 232 5) [some (.ref q), some (.int x0), some (.int x1), none, none] [] h (am_K P)) : am_m xs L d 232 [.ref q, .int x0, .int x1] h P := by
  unfold am_m
  rw [(kn_232).1, ke_232_0]
  exact k
theorem kg_233 {q : Nat} (k : am_w xs L d 233 ((4, 1, 0, 0, 0) :: (0, 1, 0, 0, 0) :: (46, 3, 0, 8, 109) :: (4, 1, 0, 0, 0) :: (45, 3, 3, 8, 118) :: (43, 3, 20, 0, 0) :: (4, 1, 0, 0, 0) :: (0, 1, 0, 0, 1) :: (62, 3, 182, 2, 281) :: (41, 3, 36, 0, 0) :: am_j 233 20) [some (.ref q)] [] h (am_K P)) : am_m xs L d 233 [.ref q] h P := by
  unfold am_m
  rw [(kn_233).1, ke_233_0]
  exact k
theorem kg_234 {q : Nat} (k : am_w xs L d 234 ((4, 1, 0, 0, 0) :: (0, 1, 0, 0, 0) :: (46, 3, 0, 8, 109) :: (4, 1, 0, 0, 0) :: (45, 3, 3, 8, 118) :: (43, 3, 18, 0, 0) :: (4, 1, 0, 0, 0) :: (0, 1, 0, 0, 1) :: (62, 3, 182, 2, 281) :: (64, 1, 0, 0, 0) :: am_j 234 18) [some (.ref q), none, none] [] h (am_K P)) : am_m xs L d 234 [.ref q] h P := by
  unfold am_m
  rw [(kn_234).1, ke_234_0]
  exact k
theorem kg_235 {q : Nat} {x0 : Int32} (k : am_w xs L d 235 ((4, 1, 0, 0, 0) :: (0, 1, 0, 0, 0) :: (46, 3, 0, 8, 109) :: (4, 1, 0, 0, 0) :: (2, 1, 1, 0, 0) :: (62, 3, 236, 2, 334) :: (5, 1, 2, 0, 0) :: (2, 1, 2, 0, 0) :: (39, 3, 21, 5, 0) :: (4, 1, 0, 0, 0) :: (2, 1, 2, 0, 0) :: (62, 3, 182, 2, 281) :: (64, 1, 0, 0, 0) :: am_j 235 21) [some (.ref q), some (.int x0), none, none, none] [] h (am_K P)) : am_m xs L d 235 [.ref q, .int x0] h P := by
  unfold am_m
  rw [(kn_235).1, ke_235_0]
  exact k
theorem kg_236 {q : Nat} {x0 : Int32} (k : am_w xs L d 236 ((4, 1, 0, 0, 0) :: (45, 3, 3, 8, 118) :: (43, 3, 11, 0, 0) :: (0, 1, 0, 0, 1) :: (41, 3, 26, 0, 0) :: am_j 236 11) [some (.ref q), some (.int x0)] [] h (am_K P)) : am_m xs L d 236 [.ref q, .int x0] h P := by
  unfold am_m
  rw [(kn_236).1, ke_236_0]
  exact k
theorem kg_237 {q : Nat} {x0 : Int32} (k : am_w xs L d 237 ((4, 1, 0, 0, 0) :: (0, 1, 0, 0, 0) :: (46, 3, 0, 8, 109) :: (4, 1, 0, 0, 0) :: (2, 1, 1, 0, 0) :: (62, 3, 236, 2, 334) :: (5, 1, 2, 0, 0) :: (2, 1, 2, 0, 0) :: (39, 3, 23, 5, 0) :: (4, 1, 0, 0, 0) :: (2, 1, 2, 0, 0) :: (62, 3, 182, 2, 281) :: (41, 3, 43, 0, 0) :: am_j 237 23) [some (.ref q), some (.int x0), none] [] h (am_K P)) : am_m xs L d 237 [.ref q, .int x0] h P := by
  unfold am_m
  rw [(kn_237).1, ke_237_0]
  exact k
theorem kg_238 {q : Nat} {x0 : Int32} (k : am_w xs L d 238 ((4, 1, 0, 0, 0) :: (0, 1, 0, 0, 0) :: (46, 3, 0, 8, 109) :: (4, 1, 0, 0, 0) :: (2, 1, 1, 0, 0) :: (62, 3, 227, 2, 330) :: (39, 3, 19, 1, 0) :: (4, 1, 0, 0, 0) :: (0, 1, 0, 0, 1) :: (62, 3, 182, 2, 281) :: (64, 1, 0, 0, 0) :: am_j 238 19) [some (.ref q), some (.int x0), none, none] [] h (am_K P)) : am_m xs L d 238 [.ref q, .int x0] h P := by
  unfold am_m
  rw [(kn_238).1, ke_238_0]
  exact k
theorem kg_239 {q : Nat} {x0 : Int32} (k : am_w xs L d 239 ((4, 1, 0, 0, 0) :: (0, 1, 0, 0, 0) :: (46, 3, 0, 8, 109) :: (4, 1, 0, 0, 0) :: (45, 3, 3, 8, 118) :: (43, 3, 18, 0, 0) :: (4, 1, 0, 0, 0) :: (0, 1, 0, 0, 1) :: (62, 3, 182, 2, 281) :: (64, 1, 0, 0, 0) :: am_j 239 18) [some (.ref q), some (.int x0), none, none] [] h (am_K P)) : am_m xs L d 239 [.ref q, .int x0] h P := by
  unfold am_m
  rw [(kn_239).1, ke_239_0]
  exact k
theorem kg_240 {q : Nat} {x0 : Int32} (k : am_w xs L d 240 ((4, 1, 0, 0, 0) :: (0, 1, 0, 0, 0) :: (46, 3, 0, 8, 109) :: (4, 1, 0, 0, 0) :: (2, 1, 1, 0, 0) :: (62, 3, 222, 2, 326) :: (39, 3, 19, 1, 0) :: (4, 1, 0, 0, 0) :: (0, 1, 0, 0, 1) :: (62, 3, 182, 2, 281) :: (64, 1, 0, 0, 0) :: am_j 240 19) [some (.ref q), some (.int x0), none, none] [] h (am_K P)) : am_m xs L d 240 [.ref q, .int x0] h P := by
  unfold am_m
  rw [(kn_240).1, ke_240_0]
  exact k
theorem kg_241 {q : Nat} {x0 : Int32} {x1 : Int32} (k : am_w xs L d 241 ((4, 1, 0, 0, 0) :: (0, 1, 0, 0, 0) :: (46, 3, 0, 8, 109) :: (4, 1, 0, 0, 0) :: (2, 1, 1, 0, 0) :: (62, 3, 215, 2, 317) :: (39, 3, 19, 1, 0) :: (4, 1, 0, 0, 0) :: (0, 1, 0, 0, 1) :: (62, 3, 182, 2, 281) :: (64, 1, 0, 0, 0) :: am_j 241 19) [some (.ref q), some (.int x0), some (.int x1), none, none, none, none] [] h (am_K P)) : am_m xs L d 241 [.ref q, .int x0, .int x1] h P := by
  unfold am_m
  rw [(kn_241).1, ke_241_0]
  exact k
theorem kg_242 {q : Nat} (k : am_w xs L d 242 ((4, 1, 0, 0, 0) :: (0, 1, 0, 0, 0) :: (46, 3, 0, 8, 109) :: (4, 1, 0, 0, 0) :: (45, 3, 3, 8, 118) :: (43, 3, 18, 0, 0) :: (4, 1, 0, 0, 0) :: (0, 1, 0, 0, 1) :: (62, 3, 182, 2, 281) :: (64, 1, 0, 0, 0) :: am_j 242 18) [some (.ref q)] [] h (am_K P)) : am_m xs L d 242 [.ref q] h P := by
  unfold am_m
  rw [(kn_242).1, ke_242_0]
  exact k
theorem kg_243 {q : Nat} (k : am_w xs L d 243 ((0, 1, 0, 0, 0) :: (5, 1, 1, 0, 0) :: (0, 1, 0, 0, 0) :: (5, 1, 2, 0, 0) :: am_j 243 4) [some (.ref q), none, none] [] h (am_K P)) : am_m xs L d 243 [.ref q] h P := by
  unfold am_m
  rw [(kn_243).1, ke_243_0]
  exact k
theorem kg_244 {q : Nat} {x0 : Int32} (k : am_w xs L d 244 ((0, 1, 0, 0, 0) :: (5, 1, 2, 0, 0) :: am_j 244 2) [some (.ref q), some (.int x0), none] [] h (am_K P)) : am_m xs L d 244 [.ref q, .int x0] h P := by
  unfold am_m
  rw [(kn_244).1, ke_244_0]
  exact k
theorem kg_245 {q : Nat} (k : am_w xs L d 245 ((4, 1, 0, 0, 0) :: (0, 1, 0, 0, 0) :: (46, 3, 0, 8, 109) :: (4, 1, 0, 0, 0) :: (45, 3, 3, 8, 118) :: (43, 3, 18, 0, 0) :: (4, 1, 0, 0, 0) :: (0, 1, 0, 0, 1) :: (62, 3, 182, 2, 281) :: (64, 1, 0, 0, 0) :: am_j 245 18) [some (.ref q)] [] h (am_K P)) : am_m xs L d 245 [.ref q] h P := by
  unfold am_m
  rw [(kn_245).1, ke_245_0]
  exact k
theorem kg_246 {q : Nat} (k : am_w xs L d 246 ((4, 1, 0, 0, 0) :: (62, 3, 243, 1, 335) :: (5, 1, 1, 0, 0) :: (0, 2, 0, 0, -2) :: (5, 1, 2, 0, 0) :: (4, 1, 0, 0, 0) :: (0, 2, 0, 0, -2) :: (46, 3, 22, 8, 150) :: (0, 1, 0, 0, 0) :: (5, 1, 3, 0, 0) :: am_j 246 16) [some (.ref q), none, none, none, none, none, none] [] h (am_K P)) : am_m xs L d 246 [.ref q] h P := by
  unfold am_m
  rw [(kn_246).1, ke_246_0]
  exact k
theorem kg_247 {q : Nat} (k : am_w xs L d 247 ((4, 1, 0, 0, 0) :: (0, 1, 0, 0, 0) :: (46, 3, 0, 8, 109) :: (4, 1, 0, 0, 0) :: (45, 3, 3, 8, 118) :: (43, 3, 18, 0, 0) :: (4, 1, 0, 0, 0) :: (0, 1, 0, 0, 1) :: (62, 3, 182, 2, 281) :: (64, 1, 0, 0, 0) :: am_j 247 18) [some (.ref q)] [] h (am_K P)) : am_m xs L d 247 [.ref q] h P := by
  unfold am_m
  rw [(kn_247).1, ke_247_0]
  exact k
theorem kg_248 {q : Nat} {x0 : Int32} (k : am_w xs L d 248 ((4, 1, 0, 0, 0) :: (0, 1, 0, 0, 0) :: (46, 3, 0, 8, 109) :: (4, 1, 0, 0, 0) :: (2, 1, 1, 0, 0) :: (62, 3, 236, 2, 334) :: (5, 1, 2, 0, 0) :: (2, 1, 2, 0, 0) :: (39, 3, 21, 5, 0) :: (4, 1, 0, 0, 0) :: (2, 1, 2, 0, 0) :: (62, 3, 182, 2, 281) :: (64, 1, 0, 0, 0) :: am_j 248 21) [some (.ref q), some (.int x0), none] [] h (am_K P)) : am_m xs L d 248 [.ref q, .int x0] h P := by
  unfold am_m
  rw [(kn_248).1, ke_248_0]
  exact k
theorem kg_249 {q : Nat} (k : am_w xs L d 249 ((4, 1, 0, 0, 0) :: (0, 1, 0, 0, 0) :: (46, 3, 0, 8, 109) :: (4, 1, 0, 0, 0) :: (45, 3, 3, 8, 118) :: (43, 3, 18, 0, 0) :: (4, 1, 0, 0, 0) :: (0, 1, 0, 0, 1) :: (62, 3, 182, 2, 281) :: (64, 1, 0, 0, 0) :: am_j 249 18) [some (.ref q)] [] h (am_K P)) : am_m xs L d 249 [.ref q] h P := by
  unfold am_m
  rw [(kn_249).1, ke_249_0]
  exact k
theorem kg_250 {q : Nat} {x0 : Int32} (k : am_w xs L d 250 ((0, 2, 0, 0, -2) :: (5, 1, 2, 0, 0) :: (0, 1, 0, 0, 0) :: (5, 1, 3, 0, 0) :: (0, 1, 0, 0, 0) :: (5, 2, 4, 0, 0) :: am_j 250 8) [some (.ref q), some (.int x0), none, none, none, none] [] h (am_K P)) : am_m xs L d 250 [.ref q, .int x0] h P := by
  unfold am_m
  rw [(kn_250).1, ke_250_0]
  exact k
theorem kg_251 {q : Nat} (k : am_w xs L d 251 ((4, 1, 0, 0, 0) :: (0, 1, 0, 0, 0) :: (46, 3, 0, 8, 109) :: (4, 1, 0, 0, 0) :: (45, 3, 3, 8, 118) :: (43, 3, 18, 0, 0) :: (4, 1, 0, 0, 0) :: (0, 1, 0, 0, 1) :: (62, 3, 182, 2, 281) :: (64, 1, 0, 0, 0) :: am_j 251 18) [some (.ref q)] [] h (am_K P)) : am_m xs L d 251 [.ref q] h P := by
  unfold am_m
  rw [(kn_251).1, ke_251_0]
  exact k
theorem kg_252 {q : Nat} (k : am_w xs L d 252 ((4, 1, 0, 0, 0) :: (0, 1, 0, 0, 0) :: (46, 3, 0, 8, 109) :: (4, 1, 0, 0, 0) :: (45, 3, 3, 8, 118) :: (43, 3, 18, 0, 0) :: (4, 1, 0, 0, 0) :: (0, 1, 0, 0, 1) :: (62, 3, 182, 2, 281) :: (64, 1, 0, 0, 0) :: am_j 252 18) [some (.ref q), none, none, none] [] h (am_K P)) : am_m xs L d 252 [.ref q] h P := by
  unfold am_m
  rw [(kn_252).1, ke_252_0]
  exact k
theorem kg_253 {q : Nat} {x0 : Int32} (k : am_w xs L d 253 ((0, 1, 0, 0, 0) :: (5, 1, 2, 0, 0) :: am_j 253 2) [some (.ref q), some (.int x0), none] [] h (am_K P)) : am_m xs L d 253 [.ref q, .int x0] h P := by
  unfold am_m
  rw [(kn_253).1, ke_253_0]
  exact k
theorem kg_254 {q : Nat} {x0 : Int32} (k : am_w xs L d 254 ((0, 1, 0, 0, 0) :: (5, 1, 2, 0, 0) :: (0, 1, 0, 0, 0) :: (5, 1, 3, 0, 0) :: am_j 254 4) [some (.ref q), some (.int x0), none, none] [] h (am_K P)) : am_m xs L d 254 [.ref q, .int x0] h P := by
  unfold am_m
  rw [(kn_254).1, ke_254_0]
  exact k
theorem kg_255 {q : Nat} {x0 : Int32} (k : am_w xs L d 255 ((2, 1, 1, 0, 0) :: (0, 1, 0, 0, 1) :: (10, 1, 0, 0, 0) :: (5, 1, 2, 0, 0) :: am_j 255 4) [some (.ref q), some (.int x0), none, none] [] h (am_K P)) : am_m xs L d 255 [.ref q, .int x0] h P := by
  unfold am_m
  rw [(kn_255).1, ke_255_0]
  exact k
theorem kg_256 {q : Nat} {x0 : Int32} (k : am_w xs L d 256 ((4, 1, 0, 0, 0) :: (0, 1, 0, 0, 0) :: (46, 3, 0, 8, 109) :: (4, 1, 0, 0, 0) :: (2, 1, 1, 0, 0) :: (62, 3, 227, 2, 330) :: (39, 3, 19, 1, 0) :: (4, 1, 0, 0, 0) :: (0, 1, 0, 0, 1) :: (62, 3, 182, 2, 281) :: (64, 1, 0, 0, 0) :: am_j 256 19) [some (.ref q), some (.int x0), none, none] [] h (am_K P)) : am_m xs L d 256 [.ref q, .int x0] h P := by
  unfold am_m
  rw [(kn_256).1, ke_256_0]
  exact k
theorem kg_257 {q : Nat} (k : am_w xs L d 257 ((4, 1, 0, 0, 0) :: (0, 1, 0, 0, 0) :: (46, 3, 0, 8, 109) :: (4, 1, 0, 0, 0) :: (45, 3, 3, 8, 118) :: (43, 3, 18, 0, 0) :: (4, 1, 0, 0, 0) :: (0, 1, 0, 0, 1) :: (62, 3, 182, 2, 281) :: (64, 1, 0, 0, 0) :: am_j 257 18) [some (.ref q), none, none] [] h (am_K P)) : am_m xs L d 257 [.ref q] h P := by
  unfold am_m
  rw [(kn_257).1, ke_257_0]
  exact k
theorem kg_258 {q : Nat} (k : am_w xs L d 258 ((4, 1, 0, 0, 0) :: (0, 1, 0, 0, 0) :: (46, 3, 0, 8, 109) :: (4, 1, 0, 0, 0) :: (45, 3, 3, 8, 118) :: (43, 3, 18, 0, 0) :: (4, 1, 0, 0, 0) :: (0, 1, 0, 0, 1) :: (62, 3, 182, 2, 281) :: (64, 1, 0, 0, 0) :: am_j 258 18) [some (.ref q), none, none, none] [] h (am_K P)) : am_m xs L d 258 [.ref q] h P := by
  unfold am_m
  rw [(kn_258).1, ke_258_0]
  exact k
theorem kg_259 {q : Nat} {x0 : Int32} {x1 : Int32} (k : am_w xs L d 259 ((4, 1, 0, 0, 0) :: (0, 1, 0, 0, 0) :: (46, 3, 0, 8, 109) :: (4, 1, 0, 0, 0) :: (45, 3, 3, 8, 118) :: (42, 3, 27, 0, 0) :: (2, 1, 1, 0, 0) :: (39, 3, 27, 2, 0) :: (2, 1, 1, 0, 0) :: (4, 1, 0, 0, 0) :: (45, 3, 3, 8, 118) :: (45, 3, 7, 7, 148) :: (40, 3, 33, 2, 0) :: am_j 259 27) [some (.ref q), some (.int x0), some (.int x1), none] [] h (am_K P)) : am_m xs L d 259 [.ref q, .int x0, .int x1] h P := by
  unfold am_m
  rw [(kn_259).1, ke_259_0]
  exact k
theorem kg_260 {q : Nat} {x0 : Int32} {x1 : Int32} (k : am_w xs L d 260 ((0, 1, 0, 0, 0) :: (5, 1, 3, 0, 0) :: (0, 1, 0, 0, 0) :: (5, 2, 4, 0, 0) :: am_j 260 5) [some (.ref q), some (.int x0), some (.int x1), none, none] [] h (am_K P)) : am_m xs L d 260 [.ref q, .int x0, .int x1] h P := by
  unfold am_m
  rw [(kn_260).1, ke_260_0]
  exact k
theorem kg_261 {x0 : Int64} {x1 : Int32} (k : am_w xs L d 261 ((1, 1, 0, 0, 0) :: (6, 1, 3, 0, 0) :: (3, 1, 0, 0, 0) :: (60, 3, 216, 1, 319) :: (0, 1, 0, 0, 1) :: (10, 1, 0, 0, 0) :: (5, 2, 5, 0, 0) :: am_j 261 10) [some (.long x0), none, some (.int x1), none, none, none, none, none] [] h (am_K P)) : am_m xs L d 261 [.long x0, .int x1] h P := by
  unfold am_m
  rw [(kn_261).1, ke_261_0]
  exact k
theorem kg_262 {q : Nat} {x0 : Int32} (k : am_w xs L d 262 ((4, 1, 0, 0, 0) :: (0, 1, 0, 0, 0) :: (46, 3, 0, 8, 109) :: (4, 1, 0, 0, 0) :: (2, 1, 1, 0, 0) :: (62, 3, 236, 2, 334) :: (5, 1, 2, 0, 0) :: (2, 1, 2, 0, 0) :: (39, 3, 23, 5, 0) :: (4, 1, 0, 0, 0) :: (2, 1, 2, 0, 0) :: (62, 3, 182, 2, 281) :: (41, 3, 32, 0, 0) :: am_j 262 23) [some (.ref q), some (.int x0), none] [] h (am_K P)) : am_m xs L d 262 [.ref q, .int x0] h P := by
  unfold am_m
  rw [(kn_262).1, ke_262_0]
  exact k
theorem kg_263 {q : Nat} {x0 : Int32} (k : am_w xs L d 263 ((0, 1, 0, 0, 1) :: (5, 1, 2, 0, 0) :: (0, 1, 0, 0, 0) :: (5, 1, 3, 0, 0) :: am_j 263 4) [some (.ref q), some (.int x0), none, none] [] h (am_K P)) : am_m xs L d 263 [.ref q, .int x0] h P := by
  unfold am_m
  rw [(kn_263).1, ke_263_0]
  exact k
theorem kg_264 {q : Nat} (k : am_w xs L d 264 ((4, 1, 0, 0, 0) :: (0, 1, 0, 0, 0) :: (46, 3, 0, 8, 109) :: (4, 1, 0, 0, 0) :: (45, 3, 3, 8, 118) :: (43, 3, 18, 0, 0) :: (4, 1, 0, 0, 0) :: (0, 1, 0, 0, 1) :: (62, 3, 182, 2, 281) :: (64, 1, 0, 0, 0) :: am_j 264 18) [some (.ref q), none, none] [] h (am_K P)) : am_m xs L d 264 [.ref q] h P := by
  unfold am_m
  rw [(kn_264).1, ke_264_0]
  exact k
theorem kg_265 {q : Nat} {x0 : Int32} (k : am_w xs L d 265 ((4, 1, 0, 0, 0) :: (0, 1, 0, 0, 0) :: (46, 3, 0, 8, 109) :: (4, 1, 0, 0, 0) :: (2, 1, 1, 0, 0) :: (62, 3, 236, 2, 334) :: (5, 1, 2, 0, 0) :: (2, 1, 2, 0, 0) :: (39, 3, 21, 5, 0) :: (4, 1, 0, 0, 0) :: (2, 1, 2, 0, 0) :: (62, 3, 182, 2, 281) :: (64, 1, 0, 0, 0) :: am_j 265 21) [some (.ref q), some (.int x0), none, none, none] [] h (am_K P)) : am_m xs L d 265 [.ref q, .int x0] h P := by
  unfold am_m
  rw [(kn_265).1, ke_265_0]
  exact k
theorem kg_266 {q : Nat} {x0 : Int32} (k : am_w xs L d 266 ((4, 1, 0, 0, 0) :: (0, 1, 0, 0, 0) :: (46, 3, 0, 8, 109) :: (4, 1, 0, 0, 0) :: (2, 1, 1, 0, 0) :: (62, 3, 267, 2, 345) :: (39, 3, 31, 1, 0) :: (4, 1, 0, 0, 0) :: (4, 1, 0, 0, 0) :: (2, 1, 1, 0, 0) :: (62, 3, 215, 2, 317) :: (39, 3, 26, 0, 0) :: (0, 1, 0, 0, 5) :: (41, 3, 27, 0, 0) :: am_j 266 26) [some (.ref q), some (.int x0)] [] h (am_K P)) : am_m xs L d 266 [.ref q, .int x0] h P := by
  unfold am_m
  rw [(kn_266).1, ke_266_0]
  exact k
theorem kg_267 {q : Nat} {x0 : Int32} (k : am_w xs L d 267 ((4, 1, 0, 0, 0) :: (2, 1, 1, 0, 0) :: (62, 3, 215, 2, 317) :: (39, 3, 28, 0, 0) :: (4, 1, 0, 0, 0) :: (2, 1, 1, 0, 0) :: (4, 1, 0, 0, 0) :: (45, 3, 15, 8, 119) :: (4, 1, 0, 0, 0) :: (45, 3, 16, 8, 120) :: (62, 3, 217, 4, 321) :: (39, 3, 28, 0, 0) :: (0, 1, 0, 0, 1) :: (41, 3, 29, 0, 0) :: am_j 267 28) [some (.ref q), some (.int x0)] [] h (am_K P)) : am_m xs L d 267 [.ref q, .int x0] h P := by
  unfold am_m
  rw [(kn_267).1, ke_267_0]
  exact k
theorem kg_268 {q : Nat} (k : am_w xs L d 268 ((4, 1, 0, 0, 0) :: (62, 3, 269, 1, 347) :: (5, 1, 1, 0, 0) :: (2, 1, 1, 0, 0) :: (5, 1, 2, 0, 0) :: am_j 268 7) [some (.ref q), none, none, none, none] [] h (am_K P)) : am_m xs L d 268 [.ref q] h P := by
  unfold am_m
  rw [(kn_268).1, ke_268_0]
  exact k
theorem kg_269 {q : Nat} (k : am_w xs L d 269 ((0, 1, 0, 0, 0) :: (5, 1, 1, 0, 0) :: (0, 1, 0, 0, 0) :: (5, 1, 2, 0, 0) :: am_j 269 4) [some (.ref q), none, none] [] h (am_K P)) : am_m xs L d 269 [.ref q] h P := by
  unfold am_m
  rw [(kn_269).1, ke_269_0]
  exact k
theorem kg_270 {q : Nat} {x0 : Int32} {x1 : Int32} {x2 : Int32} (k : am_w xs L d 270 ((0, 1, 0, 0, 0) :: (5, 2, 4, 0, 0) :: am_j 270 3) [some (.ref q), some (.int x0), some (.int x1), some (.int x2), none] [] h (am_K P)) : am_m xs L d 270 [.ref q, .int x0, .int x1, .int x2] h P := by
  unfold am_m
  rw [(kn_270).1, ke_270_0]
  exact k
theorem kg_271 {q : Nat} {x0 : Int32} {x1 : Int32} (k : am_w xs L d 271 ((4, 1, 0, 0, 0) :: (45, 3, 3, 8, 118) :: (2, 1, 1, 0, 0) :: (62, 3, 313, 2, 318) :: (60, 3, 272, 1, 350) :: (4, 1, 0, 0, 0) :: (45, 3, 3, 8, 118) :: (2, 1, 2, 0, 0) :: (62, 3, 313, 2, 318) :: (60, 3, 273, 1, 351) :: (40, 3, 29, 1, 0) :: (0, 1, 0, 0, 1) :: (41, 3, 30, 0, 0) :: am_j 271 29) [some (.ref q), some (.int x0), some (.int x1)] [] h (am_K P)) : am_m xs L d 271 [.ref q, .int x0, .int x1] h P := by
  unfold am_m
  rw [(kn_271).1, ke_271_0]
  exact k
theorem kg_272 {x0 : Int64} (k : am_w xs L d 272 ((3, 1, 0, 0, 0) :: (1, 3, 9, 0, 31) :: (26, 1, 0, 0, 0) :: (33, 1, 0, 0, 0) :: (0, 1, 0, 0, 1) :: (10, 1, 0, 0, 0) :: (64, 1, 0, 0, 0) :: []) [some (.long x0), none] [] h (am_K P)) : am_m xs L d 272 [.long x0] h P := by
  unfold am_m
  rw [(kn_272).1, ke_272_0]
  exact k
theorem kg_273 {x0 : Int64} (k : am_w xs L d 273 ((3, 1, 0, 0, 0) :: (0, 1, 0, 0, 5) :: (3, 1, 0, 0, 0) :: (60, 3, 216, 1, 319) :: (0, 1, 0, 0, 1) :: (10, 1, 0, 0, 0) :: (11, 1, 0, 0, 0) :: (29, 1, 0, 0, 0) :: (1, 3, 9, 0, 31) :: (26, 1, 0, 0, 0) :: (33, 1, 0, 0, 0) :: (0, 1, 0, 0, 1) :: (10, 1, 0, 0, 0) :: (64, 1, 0, 0, 0) :: []) [some (.long x0), none] [] h (am_K P)) : am_m xs L d 273 [.long x0] h P := by
  unfold am_m
  rw [(kn_273).1, ke_273_0]
  exact k
theorem kg_274 {q : Nat} (k : am_w xs L d 274 ((4, 1, 0, 0, 0) :: (0, 1, 0, 0, 0) :: (46, 3, 0, 8, 109) :: (4, 1, 0, 0, 0) :: (45, 3, 3, 8, 118) :: (43, 3, 18, 0, 0) :: (4, 1, 0, 0, 0) :: (0, 1, 0, 0, 1) :: (62, 3, 182, 2, 281) :: (64, 1, 0, 0, 0) :: am_j 274 18) [some (.ref q), none] [] h (am_K P)) : am_m xs L d 274 [.ref q] h P := by
  unfold am_m
  rw [(kn_274).1, ke_274_0]
  exact k
theorem kg_275 {q : Nat} {x0 : Int32} (k : am_w xs L d 275 ((4, 1, 0, 0, 0) :: (0, 1, 0, 0, 0) :: (46, 3, 0, 8, 109) :: (4, 1, 0, 0, 0) :: (2, 1, 1, 0, 0) :: (62, 3, 267, 2, 345) :: (39, 3, 31, 1, 0) :: (4, 1, 0, 0, 0) :: (4, 1, 0, 0, 0) :: (2, 1, 1, 0, 0) :: (62, 3, 215, 2, 317) :: (39, 3, 26, 0, 0) :: (0, 1, 0, 0, 5) :: (41, 3, 27, 0, 0) :: am_j 275 26) [some (.ref q), some (.int x0), none] [] h (am_K P)) : am_m xs L d 275 [.ref q, .int x0] h P := by
  unfold am_m
  rw [(kn_275).1, ke_275_0]
  exact k
theorem kg_276 {q : Nat} {x0 : Int32} (k : am_w xs L d 276 ((4, 1, 0, 0, 0) :: (0, 1, 0, 0, 0) :: (46, 3, 0, 8, 109) :: (4, 1, 0, 0, 0) :: (2, 1, 1, 0, 0) :: (62, 3, 267, 2, 345) :: (39, 3, 31, 1, 0) :: (4, 1, 0, 0, 0) :: (4, 1, 0, 0, 0) :: (2, 1, 1, 0, 0) :: (62, 3, 215, 2, 317) :: (39, 3, 26, 0, 0) :: (0, 1, 0, 0, 5) :: (41, 3, 27, 0, 0) :: am_j 276 26) [some (.ref q), some (.int x0), none, none] [] h (am_K P)) : am_m xs L d 276 [.ref q, .int x0] h P := by
  unfold am_m
  rw [(kn_276).1, ke_276_0]
  exact k
theorem kg_277 {q : Nat} (k : am_w xs L d 277 ((4, 1, 0, 0, 0) :: (0, 1, 0, 0, 0) :: (46, 3, 0, 8, 109) :: (4, 1, 0, 0, 0) :: (45, 3, 3, 8, 118) :: (43, 3, 18, 0, 0) :: (4, 1, 0, 0, 0) :: (0, 1, 0, 0, 1) :: (62, 3, 182, 2, 281) :: (64, 1, 0, 0, 0) :: am_j 277 18) [some (.ref q), none, none, none, none, none, none, none] [] h (am_K P)) : am_m xs L d 277 [.ref q] h P := by
  unfold am_m
  rw [(kn_277).1, ke_277_0]
  exact k
theorem kg_278 {q : Nat} {x0 : Int32} {x1 : Int32} {x2 : Int32} (k : am_w xs L d 278 ((4, 1, 0, 0, 0) :: (0, 1, 0, 0, 0) :: (46, 3, 0, 8, 109) :: (4, 1, 0, 0, 0) :: (4, 1, 0, 0, 0) :: (2, 1, 1, 0, 0) :: (62, 3, 222, 2, 326) :: (2, 1, 2, 0, 0) :: (62, 3, 279, 3, 352) :: (5, 2, 4, 0, 0) :: (2, 2, 4, 0, 0) :: (39, 3, 30, 5, 0) :: (4, 1, 0, 0, 0) :: (2, 2, 4, 0, 0) :: (62, 3, 182, 2, 281) :: (32, 1, 0, 0, 0) :: (65, 1, 0, 0, 0) :: am_j 278 30) [some (.ref q), some (.int x0), some (.int x1), some (.int x2), none] [] h (am_K P)) : am_m xs L d 278 [.ref q, .int x0, .int x1, .int x2] h P := by
  unfold am_m
  rw [(kn_278).1, ke_278_0]
  exact k
theorem kg_279 {q : Nat} {x0 : Int32} {x1 : Int32} (k : am_w xs L d 279 ((2, 1, 1, 0, 0) :: (39, 3, 8, 1, 0) :: (0, 1, 0, 0, 1) :: (41, 3, 30, 0, 0) :: am_j 279 8) [some (.ref q), some (.int x0), some (.int x1)] [] h (am_K P)) : am_m xs L d 279 [.ref q, .int x0, .int x1] h P := by
  unfold am_m
  rw [(kn_279).1, ke_279_0]
  exact k
theorem kg_280 {q : Nat} (k : am_w xs L d 280 ((0, 2, 0, 0, 26) :: (4, 1, 0, 0, 0) :: (45, 3, 15, 8, 119) :: (60, 3, 225, 1, 329) :: (10, 1, 0, 0, 0) :: (64, 1, 0, 0, 0) :: []) [some (.ref q)] [] h (am_K P)) : am_m xs L d 280 [.ref q] h P := by
  unfold am_m
  rw [(kn_280).1, ke_280_0]
  exact k
theorem kg_281 {q : Nat} {x0 : Int32} {x1 : Int32} (k : am_w xs L d 281 ((4, 1, 0, 0, 0) :: (1, 1, 0, 0, 0) :: (46, 3, 26, 8, 152) :: (4, 1, 0, 0, 0) :: (1, 1, 0, 0, 0) :: (46, 3, 27, 8, 151) :: (4, 1, 0, 0, 0) :: (1, 1, 0, 0, 0) :: (46, 3, 28, 8, 153) :: (4, 1, 0, 0, 0) :: (2, 1, 2, 0, 0) :: (62, 3, 253, 2, 339) :: (0, 1, 0, 0, 1) :: (5, 1, 3, 0, 0) :: am_j 281 22) [some (.ref q), some (.int x0), some (.int x1), none, none, none] [] h (am_K P)) : am_m xs L d 281 [.ref q, .int x0, .int x1] h P := by
  unfold am_m
  rw [(kn_281).1, ke_281_0]
  exact k
theorem kg_282 {q : Nat} {x0 : Int64} {x1 : Int64} {x2 : Int32} (k : am_w xs L d 282 ((4, 1, 0, 0, 0) :: (0, 1, 0, 0, 0) :: (62, 3, 210, 2, 286) :: (37, 1, 0, 0, 0) :: (2, 2, 5, 0, 0) :: (39, 3, 15, 0, 0) :: (3, 1, 3, 0, 0) :: (41, 3, 16, 0, 0) :: am_j 282 15) [some (.ref q), some (.long x0), none, some (.long x1), none, some (.int x2)] [] h (am_K P)) : am_m xs L d 282 [.ref q, .long x0, .long x1, .int x2] h P := by
  unfold am_m
  rw [(kn_282).1, ke_282_0]
  exact k
theorem kg_283 {x0 : Int64} {x1 : Int64} (k : am_w xs L d 283 ((3, 1, 0, 0, 0) :: (6, 2, 4, 0, 0) :: (3, 1, 2, 0, 0) :: (6, 2, 6, 0, 0) :: am_j 283 6) [some (.long x0), none, some (.long x1), none, none, none, none, none, none, none] [] h (am_K P)) : am_m xs L d 283 [.long x0, .long x1] h P := by
  unfold am_m
  rw [(kn_283).1, ke_283_0]
  exact k
theorem kg_284 {q : Nat} {x0 : Int32} {x1 : Int32} (k : am_w xs L d 284 ((4, 1, 0, 0, 0) :: (0, 1, 0, 0, 0) :: (46, 3, 0, 8, 109) :: (4, 1, 0, 0, 0) :: (4, 1, 0, 0, 0) :: (45, 3, 3, 8, 118) :: (42, 3, 17, 0, 0) :: (0, 1, 0, 0, 1) :: (41, 3, 18, 0, 0) :: am_j 284 17) [some (.ref q), some (.int x0), some (.int x1), none] [] h (am_K P)) : am_m xs L d 284 [.ref q, .int x0, .int x1] h P := by
  unfold am_m
  rw [(kn_284).1, ke_284_0]
  exact k
theorem kg_285 {q : Nat} {x0 : Int32} (k : am_w xs L d 285 ((4, 1, 0, 0, 0) :: (0, 1, 0, 0, 0) :: (46, 3, 0, 8, 109) :: (4, 1, 0, 0, 0) :: (2, 1, 1, 0, 0) :: (0, 1, 0, 0, 0) :: (0, 1, 0, 0, 0) :: (62, 3, 286, 4, 357) :: (5, 1, 2, 0, 0) :: (2, 1, 2, 0, 0) :: (39, 3, 23, 5, 0) :: (4, 1, 0, 0, 0) :: (2, 1, 2, 0, 0) :: (62, 3, 182, 2, 281) :: (64, 1, 0, 0, 0) :: am_j 285 23) [some (.ref q), some (.int x0), none, none] [] h (am_K P)) : am_m xs L d 285 [.ref q, .int x0] h P := by
  unfold am_m
  rw [(kn_285).1, ke_285_0]
  exact k
theorem kg_286 {q : Nat} {x0 : Int32} {x1 : Int32} {x2 : Int32} (k : am_w xs L d 286 ((4, 1, 0, 0, 0) :: (45, 3, 3, 8, 118) :: (43, 3, 11, 0, 0) :: (0, 1, 0, 0, 1) :: (41, 3, 39, 0, 0) :: am_j 286 11) [some (.ref q), some (.int x0), some (.int x1), some (.int x2)] [] h (am_K P)) : am_m xs L d 286 [.ref q, .int x0, .int x1, .int x2] h P := by
  unfold am_m
  rw [(kn_286).1, ke_286_0]
  exact k
theorem kg_287 {q : Nat} {x0 : Int32} {x1 : Int32} (k : am_w xs L d 287 ((4, 1, 0, 0, 0) :: (2, 1, 1, 0, 0) :: (46, 3, 29, 8, 155) :: (4, 1, 0, 0, 0) :: (4, 1, 0, 0, 0) :: (45, 3, 15, 8, 119) :: (46, 3, 30, 8, 154) :: (0, 2, 0, 0, -2) :: (5, 1, 3, 0, 0) :: (0, 1, 0, 0, 0) :: (5, 2, 4, 0, 0) :: am_j 287 19) [some (.ref q), some (.int x0), some (.int x1), none, none] [] h (am_K P)) : am_m xs L d 287 [.ref q, .int x0, .int x1] h P := by
  unfold am_m
  rw [(kn_287).1, ke_287_0]
  exact k
theorem kg_288 {q : Nat} (k : am_w xs L d 288 ((4, 1, 0, 0, 0) :: (1, 3, 11, 0, 75) :: (4, 1, 0, 0, 0) :: (45, 3, 29, 8, 155) :: (32, 1, 0, 0, 0) :: (23, 1, 0, 0, 0) :: (1, 3, 12, 0, 74) :: (21, 1, 0, 0, 0) :: (1, 3, 13, 0, 65537) :: (25, 1, 0, 0, 0) :: (33, 1, 0, 0, 0) :: (46, 3, 29, 8, 155) :: (4, 1, 0, 0, 0) :: (45, 3, 29, 8, 155) :: (0, 2, 0, 0, 26) :: (4, 1, 0, 0, 0) :: (45, 3, 30, 8, 154) :: (60, 3, 225, 1, 329) :: (10, 1, 0, 0, 0) :: (13, 1, 0, 0, 0) :: (5, 1, 1, 0, 0) :: (0, 1, 0, 0, 0) :: (5, 1, 2, 0, 0) :: am_j 288 40) [some (.ref q), none, none] [] h (am_K P)) : am_m xs L d 288 [.ref q] h P := by
  unfold am_m
  rw [(kn_288).1, ke_288_0]
  exact k
theorem kg_289 {q : Nat} {x0 : Int32} {x1 : Int32} (k : am_w xs L d 289 ((4, 1, 0, 0, 0) :: (0, 1, 0, 0, 0) :: (46, 3, 0, 8, 109) :: (4, 1, 0, 0, 0) :: (2, 1, 1, 0, 0) :: (2, 1, 2, 0, 0) :: (0, 1, 0, 0, 0) :: (62, 3, 286, 4, 357) :: (5, 1, 3, 0, 0) :: (2, 1, 3, 0, 0) :: (39, 3, 23, 5, 0) :: (4, 1, 0, 0, 0) :: (2, 1, 3, 0, 0) :: (62, 3, 182, 2, 281) :: (64, 1, 0, 0, 0) :: am_j 289 23) [some (.ref q), some (.int x0), some (.int x1), none] [] h (am_K P)) : am_m xs L d 289 [.ref q, .int x0, .int x1] h P := by
  unfold am_m
  rw [(kn_289).1, ke_289_0]
  exact k
theorem kg_290 {q : Nat} {x0 : Int32} {x1 : Int32} (k : am_w xs L d 290 ((4, 1, 0, 0, 0) :: (0, 1, 0, 0, 0) :: (46, 3, 0, 8, 109) :: (4, 1, 0, 0, 0) :: (2, 1, 1, 0, 0) :: (2, 1, 2, 0, 0) :: (0, 1, 0, 0, 1) :: (62, 3, 286, 4, 357) :: (5, 1, 3, 0, 0) :: (2, 1, 3, 0, 0) :: (39, 3, 25, 5, 0) :: (4, 1, 0, 0, 0) :: (2, 1, 3, 0, 0) :: (62, 3, 182, 2, 281) :: (41, 3, 35, 0, 0) :: am_j 290 25) [some (.ref q), some (.int x0), some (.int x1), none] [] h (am_K P)) : am_m xs L d 290 [.ref q, .int x0, .int x1] h P := by
  unfold am_m
  rw [(kn_290).1, ke_290_0]
  exact k
theorem kg_291 {q : Nat} {x0 : Int32} (k : am_w xs L d 291 ((4, 1, 0, 0, 0) :: (0, 1, 0, 0, 0) :: (46, 3, 0, 8, 109) :: (4, 1, 0, 0, 0) :: (2, 1, 1, 0, 0) :: (0, 1, 0, 0, 1) :: (62, 3, 292, 3, 360) :: (64, 1, 0, 0, 0) :: []) [some (.ref q), some (.int x0)] [] h (am_K P)) : am_m xs L d 291 [.ref q, .int x0] h P := by
  unfold am_m
  rw [(kn_291).1, ke_291_0]
  exact k
theorem kg_292 {q : Nat} {x0 : Int32} {x1 : Int32} (k : am_w xs L d 292 ((4, 1, 0, 0, 0) :: (2, 1, 1, 0, 0) :: (62, 3, 236, 2, 334) :: (5, 1, 3, 0, 0) :: (2, 1, 3, 0, 0) :: (39, 3, 16, 5, 0) :: (4, 1, 0, 0, 0) :: (2, 1, 3, 0, 0) :: (62, 3, 293, 2, 361) :: (64, 1, 0, 0, 0) :: am_j 292 16) [some (.ref q), some (.int x0), some (.int x1), none] [] h (am_K P)) : am_m xs L d 292 [.ref q, .int x0, .int x1] h P := by
  unfold am_m
  rw [(kn_292).1, ke_292_0]
  exact k
theorem kg_293 {q : Nat} {x0 : Int32} (k : am_w xs L d 293 ((4, 1, 0, 0, 0) :: (2, 1, 1, 0, 0) :: (62, 3, 182, 2, 281) :: (37, 1, 0, 0, 0) :: (0, 1, 0, 0, 0) :: (64, 1, 0, 0, 0) :: []) [some (.ref q), some (.int x0)] [] h (am_K P)) : am_m xs L d 293 [.ref q, .int x0] h P := by
  unfold am_m
  rw [(kn_293).1, ke_293_0]
  exact k
theorem kg_294 {q : Nat} (k : am_w xs L d 294 ((4, 1, 0, 0, 0) :: (45, 3, 18, 8, 122) :: (0, 2, 0, 0, 16) :: (40, 3, 47, 1, 0) :: (0, 1, 0, 0, 0) :: (5, 1, 1, 0, 0) :: am_j 294 11) [some (.ref q), none] [] h (am_K P)) : am_m xs L d 294 [.ref q] h P := by
  unfold am_m
  rw [(kn_294).1, ke_294_0]
  exact k
theorem kg_295 {q : Nat} {x0 : Nat} {x1 : Int32} (k : am_w xs L d 295 ((4, 1, 1, 0, 0) :: (0, 1, 0, 0, 3) :: (2, 1, 2, 0, 0) :: (11, 1, 0, 0, 0) :: (4, 1, 0, 0, 0) :: (45, 3, 15, 8, 119) :: (52, 1, 0, 0, 0) :: (4, 1, 1, 0, 0) :: (0, 1, 0, 0, 3) :: (2, 1, 2, 0, 0) :: (11, 1, 0, 0, 0) :: (0, 1, 0, 0, 1) :: (9, 1, 0, 0, 0) :: (4, 1, 0, 0, 0) :: (45, 3, 16, 8, 120) :: (52, 1, 0, 0, 0) :: (4, 1, 1, 0, 0) :: (0, 1, 0, 0, 3) :: (2, 1, 2, 0, 0) :: (11, 1, 0, 0, 0) :: (0, 1, 0, 0, 2) :: (9, 1, 0, 0, 0) :: (4, 1, 0, 0, 0) :: (45, 3, 17, 8, 121) :: (52, 1, 0, 0, 0) :: (67, 1, 0, 0, 0) :: []) [some (.ref q), some (.ref x0), some (.int x1)] [] h (am_K P)) : am_m xs L d 295 [.ref q, .ref x0, .int x1] h P := by
  unfold am_m
  rw [(kn_295).1, ke_295_0]
  exact k
theorem kg_296 {q : Nat} (k : am_w xs L d 296 ((4, 1, 0, 0, 0) :: (0, 1, 0, 0, 0) :: (62, 3, 210, 2, 286) :: (37, 1, 0, 0, 0) :: (0, 1, 0, 0, 1) :: (64, 1, 0, 0, 0) :: []) [some (.ref q)] [] h (am_K P)) : am_m xs L d 296 [.ref q] h P := by
  unfold am_m
  rw [(kn_296).1, ke_296_0]
  exact k
theorem kg_297 {q : Nat} {x0 : Int32} (k : am_w xs L d 297 ((4, 1, 0, 0, 0) :: (0, 1, 0, 0, 0) :: (46, 3, 0, 8, 109) :: (4, 1, 0, 0, 0) :: (2, 1, 1, 0, 0) :: (0, 1, 0, 0, 0) :: (62, 3, 292, 3, 360) :: (64, 1, 0, 0, 0) :: []) [some (.ref q), some (.int x0)] [] h (am_K P)) : am_m xs L d 297 [.ref q, .int x0] h P := by
  unfold am_m
  rw [(kn_297).1, ke_297_0]
  exact k
theorem kg_298 {q : Nat} {x0 : Int32} (k : am_w xs L d 298 ((4, 1, 0, 0, 0) :: (0, 1, 0, 0, 0) :: (46, 3, 0, 8, 109) :: (4, 1, 0, 0, 0) :: (45, 3, 3, 8, 118) :: (42, 3, 27, 0, 0) :: (2, 1, 1, 0, 0) :: (39, 3, 27, 2, 0) :: (2, 1, 1, 0, 0) :: (4, 1, 0, 0, 0) :: (45, 3, 3, 8, 118) :: (45, 3, 4, 7, 136) :: (40, 3, 33, 2, 0) :: am_j 298 27) [some (.ref q), some (.int x0)] [] h (am_K P)) : am_m xs L d 298 [.ref q, .int x0] h P := by
  unfold am_m
  rw [(kn_298).1, ke_298_0]
  exact k
theorem kg_299 {q : Nat} {x0 : Int32} (k : am_w xs L d 299 ((4, 1, 0, 0, 0) :: (0, 1, 0, 0, 0) :: (46, 3, 0, 8, 109) :: (4, 1, 0, 0, 0) :: (45, 3, 3, 8, 118) :: (43, 3, 18, 0, 0) :: (4, 1, 0, 0, 0) :: (0, 1, 0, 0, 1) :: (62, 3, 182, 2, 281) :: (64, 1, 0, 0, 0) :: am_j 299 18) [some (.ref q), some (.int x0), none, none] [] h (am_K P)) : am_m xs L d 299 [.ref q, .int x0] h P := by
  unfold am_m
  rw [(kn_299).1, ke_299_0]
  exact k
theorem kg_300 {q : Nat} (k : am_w xs L d 300 ((4, 1, 0, 0, 0) :: (0, 1, 0, 0, 0) :: (46, 3, 0, 8, 109) :: (4, 1, 0, 0, 0) :: (45, 3, 3, 8, 118) :: (42, 3, 19, 0, 0) :: (4, 1, 0, 0, 0) :: (45, 3, 18, 8, 122) :: (39, 3, 26, 1, 0) :: am_j 300 19) [some (.ref q)] [] h (am_K P)) : am_m xs L d 300 [.ref q] h P := by
  unfold am_m
  rw [(kn_300).1, ke_300_0]
  exact k
theorem kg_301 {q : Nat} {x0 : Nat} {x1 : Int32} (k : am_w xs L d 301 ((4, 1, 0, 0, 0) :: (4, 1, 1, 0, 0) :: (0, 1, 0, 0, 3) :: (2, 1, 2, 0, 0) :: (11, 1, 0, 0, 0) :: (48, 1, 0, 0, 0) :: (46, 3, 15, 8, 119) :: (4, 1, 0, 0, 0) :: (4, 1, 1, 0, 0) :: (0, 1, 0, 0, 3) :: (2, 1, 2, 0, 0) :: (11, 1, 0, 0, 0) :: (0, 1, 0, 0, 1) :: (9, 1, 0, 0, 0) :: (48, 1, 0, 0, 0) :: (46, 3, 16, 8, 120) :: (4, 1, 0, 0, 0) :: (4, 1, 1, 0, 0) :: (0, 1, 0, 0, 3) :: (2, 1, 2, 0, 0) :: (11, 1, 0, 0, 0) :: (0, 1, 0, 0, 2) :: (9, 1, 0, 0, 0) :: (48, 1, 0, 0, 0) :: (46, 3, 17, 8, 121) :: (67, 1, 0, 0, 0) :: []) [some (.ref q), some (.ref x0), some (.int x1)] [] h (am_K P)) : am_m xs L d 301 [.ref q, .ref x0, .int x1] h P := by
  unfold am_m
  rw [(kn_301).1, ke_301_0]
  exact k
theorem kg_302 {q : Nat} (k : am_w xs L d 302 ((4, 1, 0, 0, 0) :: (0, 1, 0, 0, 0) :: (46, 3, 0, 8, 109) :: (4, 1, 0, 0, 0) :: (45, 3, 3, 8, 118) :: (43, 3, 18, 0, 0) :: (4, 1, 0, 0, 0) :: (0, 1, 0, 0, 1) :: (62, 3, 182, 2, 281) :: (64, 1, 0, 0, 0) :: am_j 302 18) [some (.ref q)] [] h (am_K P)) : am_m xs L d 302 [.ref q] h P := by
  unfold am_m
  rw [(kn_302).1, ke_302_0]
  exact k
theorem kg_303 {q : Nat} {x0 : Int32} (k : am_w xs L d 303 ((4, 1, 0, 0, 0) :: (0, 1, 0, 0, 0) :: (46, 3, 0, 8, 109) :: (4, 1, 0, 0, 0) :: (45, 3, 3, 8, 118) :: (42, 3, 24, 0, 0) :: (2, 1, 1, 0, 0) :: (39, 3, 24, 2, 0) :: (2, 1, 1, 0, 0) :: (4, 1, 0, 0, 0) :: (45, 3, 19, 8, 123) :: (40, 3, 30, 2, 0) :: am_j 303 24) [some (.ref q), some (.int x0)] [] h (am_K P)) : am_m xs L d 303 [.ref q, .int x0] h P := by
  unfold am_m
  rw [(kn_303).1, ke_303_0]
  exact k
theorem kg_304 {q : Nat} {x0 : Int32} (k : am_w xs L d 304 ((4, 1, 0, 0, 0) :: (0, 1, 0, 0, 0) :: (46, 3, 0, 8, 109) :: (0, 1, 0, 0, 0) :: (5, 1, 2, 0, 0) :: (0, 1, 0, 0, 0) :: (5, 1, 3, 0, 0) :: am_j 304 9) [some (.ref q), some (.int x0), none, none] [] h (am_K P)) : am_m xs L d 304 [.ref q, .int x0] h P := by
  unfold am_m
  rw [(kn_304).1, ke_304_0]
  exact k
theorem kg_305 {q : Nat} {x0 : Int32} (k : am_w xs L d 305 ((4, 1, 0, 0, 0) :: (0, 1, 0, 0, 0) :: (46, 3, 0, 8, 109) :: (2, 1, 1, 0, 0) :: (0, 2, 0, 0, 11) :: (40, 3, 16, 1, 0) :: (4, 1, 0, 0, 0) :: (45, 3, 6, 8, 110) :: (64, 1, 0, 0, 0) :: am_j 305 16) [some (.ref q), some (.int x0)] [] h (am_K P)) : am_m xs L d 305 [.ref q, .int x0] h P := by
  unfold am_m
  rw [(kn_305).1, ke_305_0]
  exact k
theorem kg_306 {q : Nat} (k : am_w xs L d 306 ((4, 1, 0, 0, 0) :: (0, 1, 0, 0, 0) :: (46, 3, 0, 8, 109) :: (4, 1, 0, 0, 0) :: (45, 3, 1, 8, 116) :: (64, 1, 0, 0, 0) :: []) [some (.ref q)] [] h (am_K P)) : am_m xs L d 306 [.ref q] h P := by
  unfold am_m
  rw [(kn_306).1, ke_306_0]
  exact k
theorem kg_307 {q : Nat} (k : am_w xs L d 307 ((4, 1, 0, 0, 0) :: (61, 3, 0, 0, 366) :: (4, 1, 0, 0, 0) :: (0, 1, 0, 0, 5) :: (57, 2, 0, 0, 0) :: (47, 3, 9, 7, 156) :: (4, 1, 0, 0, 0) :: (0, 2, 0, 0, 20) :: (57, 2, 0, 0, 0) :: (47, 3, 10, 7, 157) :: (4, 1, 0, 0, 0) :: (0, 2, 0, 0, 8) :: (57, 2, 1, 0, 0) :: (47, 3, 11, 7, 158) :: (4, 1, 0, 0, 0) :: (0, 1, 0, 0, 4) :: (57, 2, 1, 0, 0) :: (47, 3, 12, 7, 159) :: (4, 1, 0, 0, 0) :: (0, 2, 0, 0, 6) :: (57, 2, 1, 0, 0) :: (47, 3, 13, 7, 160) :: (4, 1, 0, 0, 0) :: (0, 1, 0, 0, 5) :: (57, 2, 1, 0, 0) :: (47, 3, 14, 7, 161) :: (4, 1, 0, 0, 0) :: (0, 2, 0, 0, 8) :: (57, 2, 0, 0, 0) :: (47, 3, 15, 7, 162) :: (4, 1, 0, 0, 0) :: (0, 1, 0, 0, 4) :: (57, 2, 0, 0, 0) :: (47, 3, 16, 7, 163) :: (4, 1, 0, 0, 0) :: (0, 2, 0, 0, 6) :: (57, 2, 0, 0, 0) :: (47, 3, 17, 7, 164) :: (4, 1, 0, 0, 0) :: (0, 2, 0, 0, 6) :: (57, 2, 0, 0, 0) :: (47, 3, 18, 7, 165) :: (4, 1, 0, 0, 0) :: (0, 2, 0, 0, 6) :: (57, 2, 0, 0, 0) :: (47, 3, 19, 7, 166) :: (4, 1, 0, 0, 0) :: (0, 2, 0, 0, 11) :: (57, 2, 1, 0, 0) :: (47, 3, 20, 7, 167) :: (4, 1, 0, 0, 0) :: (0, 2, 0, 0, 11) :: (57, 2, 0, 0, 0) :: (47, 3, 21, 7, 168) :: (4, 1, 0, 0, 0) :: (0, 2, 0, 0, 11) :: (57, 2, 0, 0, 0) :: (47, 3, 22, 7, 169) :: (67, 1, 0, 0, 0) :: []) [some (.ref q)] [] h (am_K P)) : am_m xs L d 307 [.ref q] h P := by
  unfold am_m
  rw [(kn_307).1, ke_307_0]
  exact k
theorem kg_308 {q : Nat} {x0 : Int64} (k : am_w xs L d 308 ((0, 1, 0, 0, 0) :: (5, 1, 3, 0, 0) :: am_j 308 2) [some (.ref q), some (.long x0), none, none] [] h (am_K P)) : am_m xs L d 308 [.ref q, .long x0] h P := by
  unfold am_m
  rw [(kn_308).1, ke_308_0]
  exact k
theorem kg_309 {q : Nat} {x0 : Int64} (k : am_w xs L d 309 ((0, 1, 0, 0, 0) :: (5, 1, 3, 0, 0) :: am_j 309 2) [some (.ref q), some (.long x0), none, none] [] h (am_K P)) : am_m xs L d 309 [.ref q, .long x0] h P := by
  unfold am_m
  rw [(kn_309).1, ke_309_0]
  exact k
theorem kg_310 {q : Nat} {x0 : Int32} (k : am_w xs L d 310 ((0, 1, 0, 0, 0) :: (5, 1, 2, 0, 0) :: am_j 310 2) [some (.ref q), some (.int x0), none] [] h (am_K P)) : am_m xs L d 310 [.ref q, .int x0] h P := by
  unfold am_m
  rw [(kn_310).1, ke_310_0]
  exact k
theorem kg_311 {q : Nat} {x0 : Int32} (k : am_w xs L d 311 ((0, 1, 0, 0, 0) :: (5, 1, 2, 0, 0) :: (0, 1, 0, 0, 0) :: (5, 1, 3, 0, 0) :: am_j 311 4) [some (.ref q), some (.int x0), none, none] [] h (am_K P)) : am_m xs L d 311 [.ref q, .int x0] h P := by
  unfold am_m
  rw [(kn_311).1, ke_311_0]
  exact k
theorem kg_312 {q : Nat} (k : am_w xs L d 312 ((4, 1, 0, 0, 0) :: (45, 3, 3, 7, 171) :: (4, 1, 0, 0, 0) :: (45, 3, 4, 7, 172) :: (9, 1, 0, 0, 0) :: (64, 1, 0, 0, 0) :: []) [some (.ref q)] [] h (am_K P)) : am_m xs L d 312 [.ref q] h P := by
  unfold am_m
  rw [(kn_312).1, ke_312_0]
  exact k
theorem kg_313 {q : Nat} {x0 : Int32} (k : am_w xs L d 313 ((2, 1, 1, 0, 0) :: (4, 1, 0, 0, 0) :: (45, 3, 3, 7, 171) :: (40, 3, 17, 3, 0) :: (4, 1, 0, 0, 0) :: (45, 3, 11, 7, 158) :: (2, 1, 1, 0, 0) :: (49, 1, 0, 0, 0) :: (41, 3, 28, 0, 0) :: am_j 313 17) [some (.ref q), some (.int x0)] [] h (am_K P)) : am_m xs L d 313 [.ref q, .int x0] h P := by
  unfold am_m
  rw [(kn_313).1, ke_313_0]
  exact k
theorem kg_314 {q : Nat} {x0 : Int32} (k : am_w xs L d 314 ((2, 1, 1, 0, 0) :: (4, 1, 0, 0, 0) :: (45, 3, 3, 7, 171) :: (40, 3, 17, 3, 0) :: (4, 1, 0, 0, 0) :: (45, 3, 15, 7, 162) :: (2, 1, 1, 0, 0) :: (48, 1, 0, 0, 0) :: (41, 3, 28, 0, 0) :: am_j 314 17) [some (.ref q), some (.int x0)] [] h (am_K P)) : am_m xs L d 314 [.ref q, .int x0] h P := by
  unfold am_m
  rw [(kn_314).1, ke_314_0]
  exact k
theorem kg_315 {x0 : Int32} (k : am_w xs L d 315 ((2, 1, 0, 0, 0) :: (2, 1, 0, 0, 0) :: (0, 1, 0, 0, 1) :: (17, 1, 0, 0, 0) :: (0, 3, 14, 0, 1431655765) :: (18, 1, 0, 0, 0) :: (10, 1, 0, 0, 0) :: (5, 1, 0, 0, 0) :: (2, 1, 0, 0, 0) :: (0, 3, 15, 0, 858993459) :: (18, 1, 0, 0, 0) :: (2, 1, 0, 0, 0) :: (0, 1, 0, 0, 2) :: (17, 1, 0, 0, 0) :: (0, 3, 15, 0, 858993459) :: (18, 1, 0, 0, 0) :: (9, 1, 0, 0, 0) :: (5, 1, 0, 0, 0) :: (2, 1, 0, 0, 0) :: (2, 1, 0, 0, 0) :: (0, 1, 0, 0, 4) :: (17, 1, 0, 0, 0) :: (9, 1, 0, 0, 0) :: (0, 3, 16, 0, 252645135) :: (18, 1, 0, 0, 0) :: (5, 1, 0, 0, 0) :: (2, 1, 0, 0, 0) :: (2, 1, 0, 0, 0) :: (0, 2, 0, 0, 8) :: (17, 1, 0, 0, 0) :: (9, 1, 0, 0, 0) :: (5, 1, 0, 0, 0) :: (2, 1, 0, 0, 0) :: (2, 1, 0, 0, 0) :: (0, 2, 0, 0, 16) :: (17, 1, 0, 0, 0) :: (9, 1, 0, 0, 0) :: (5, 1, 0, 0, 0) :: (2, 1, 0, 0, 0) :: (0, 2, 0, 0, 63) :: (18, 1, 0, 0, 0) :: (64, 1, 0, 0, 0) :: []) [some (.int x0)] [] h (am_K P)) : am_m xs L d 315 [.int x0] h P := by
  unfold am_m
  rw [(kn_315).1, ke_315_0]
  exact k
theorem kg_316 {x0 : Nat} {x1 : Int32} (k : am_w xs L d 316 ((0, 1, 0, 0, 0) :: (5, 1, 2, 0, 0) :: (4, 1, 0, 0, 0) :: (56, 1, 0, 0, 0) :: (5, 1, 3, 0, 0) :: am_j 316 5) [some (.ref x0), some (.int x1), none, none] [] h (am_K P)) : am_m xs L d 316 [.ref x0, .int x1] h P := by
  unfold am_m
  rw [(kn_316).1, ke_316_0]
  exact k
end KG
