-- THE CLAIM OUT OF THE SIMULATION AND THE AM'S RUN
def zs_m : List Nat := [130, 132, 134, 136, 137, 139, 141, 143, 145, 147, 149, 151, 213]
def zs_u : List Nat := [36, 44, 46, 48, 50, 52, 54, 56, 58, 60, 61, 63, 65]
def zs_p : List Nat := [132, 152, 162, 173, 182, 193, 202, 212, 224, 232, 239, 249, 143]
abbrev zs_t (i : Nat) : Term := .string "GapLetterModel" (zs_m.getD i 0)
abbrev zs_v (i : Nat) : Term := .field (zs_t i) "java/lang/String" "value" "[B"
abbrev zs_F : List Cond := flatC (Jvm.Cond.and given_1 narrow_1)
def zs_c (i : Nat) : Bool :=
  decide (zs_F[zs_p.getD i 0]? = some (.exactly (zs_t i) "java/lang/String")) && decide (zs_F[zs_p.getD i 0 + 1]? = some (.eq (.field (zs_t i) "java/lang/String" "coder" "B") (.int 0))) && decide (zs_F[zs_p.getD i 0 + 2]? = some (.arrayOf (zs_v i) .byte)) && decide (zs_F[zs_p.getD i 0 + 3]? = some (.eq (.length (zs_v i)) (.int (Int32.ofNat (am_str.getD i []).length)))) && (List.range (am_str.getD i []).length).all (fun j => decide (zs_F[zs_p.getD i 0 + 4 + j]? = some (.eq (.elem (zs_v i) (.int (Int32.ofNat j))) (.int ((am_str.getD i []).getD j 0))))) && decide (zs_F[zs_p.getD i 0 + 4 + (am_str.getD i []).length]? = some (.eq (.string "GapLetter$Teller" (zs_u.getD i 0)) (zs_t i)))
set_option maxRecDepth 20000 in
theorem zs_all : (List.range 13).all zs_c = true := by decide +kernel
theorem zs_ok {i : Nat} (hi : i < 13) : ((.exactly (zs_t i) "java/lang/String" : Cond) ∈ zs_F ∧ (.eq (.field (zs_t i) "java/lang/String" "coder" "B") (.int 0) : Cond) ∈ zs_F ∧ (.arrayOf (zs_v i) .byte : Cond) ∈ zs_F ∧ (.eq (.length (zs_v i)) (.int (Int32.ofNat (am_str.getD i []).length)) : Cond) ∈ zs_F) ∧ (∀ j : Nat, j < (am_str.getD i []).length → (.eq (.elem (zs_v i) (.int (Int32.ofNat j))) (.int ((am_str.getD i []).getD j 0)) : Cond) ∈ zs_F) ∧ (.eq (.string "GapLetter$Teller" (zs_u.getD i 0)) (zs_t i) : Cond) ∈ zs_F := by
  have h := List.all_eq_true.mp zs_all i (List.mem_range.mpr hi)
  unfold zs_c at h
  simp only [Bool.and_eq_true, decide_eq_true_eq, List.all_eq_true, List.mem_range] at h
  obtain ⟨⟨⟨⟨⟨h1, h2⟩, h3⟩, h4⟩, h5⟩, h6⟩ := h
  exact ⟨⟨List.mem_of_getElem? h1, List.mem_of_getElem? h2, List.mem_of_getElem? h3, List.mem_of_getElem? h4⟩, fun j hj => List.mem_of_getElem? (h5 j hj), List.mem_of_getElem? h6⟩
theorem zs_ST {args : Array Value} {s : State} {A : Nat → Prop} (hF : ∀ w ∈ zs_F, w.before args s = true) (hA : ∀ a : Nat, a < s.heap.size → ¬ A a) : ∃ adK adV : Nat → Nat, ∀ i : Nat, i < 13 → (zs_t i).eval args s none [] s = some (.ref (adK i)) ∧ va_O "java/lang/String" (adK i) A s s.heap ∧ va_OF "java/lang/String" "coder" "B" (.int 0) (adK i) A s s.heap ∧ va_OF "java/lang/String" "value" "[B" (.ref (adV i)) (adK i) A s s.heap ∧ va_T .byte (adV i) (am_str.getD i []).length (fun j => .int ((am_str.getD i []).getD j 0)) A s s.heap := by
  have h0 : ∀ i : Nat, ∃ q : Nat × Nat, i < 13 → (zs_t i).eval args s none [] s = some (.ref q.1) ∧ va_O "java/lang/String" q.1 A s s.heap ∧ va_OF "java/lang/String" "coder" "B" (.int 0) q.1 A s s.heap ∧ va_OF "java/lang/String" "value" "[B" (.ref q.2) q.1 A s s.heap ∧ va_T .byte q.2 (am_str.getD i []).length (fun j => .int ((am_str.getD i []).getD j 0)) A s s.heap := by
    intro i
    by_cases hi : i < 13
    · obtain ⟨⟨w1, w2, w3, w4⟩, w5, -⟩ := zs_ok hi
      obtain ⟨a, c, cA, kA, q1, q2, q3, q4, q5, q6, -⟩ := Cond.exactly_spec (args := args) (first := s) (o := none) (s := s) (idx := []) (t := zs_t i) (cls := "java/lang/String") (hF _ w1)
      obtain ⟨t, ht, hT⟩ := va_Tof (f := fun j => .int ((am_str.getD i []).getD j 0)) (A := A) (js_len_lt i hi) (hF _ w3) (va_eqt (hF _ w4)) (fun j hj => va_eqt (hF _ (w5 j hj))) hA
      exact ⟨(a, t), fun _ => ⟨q1, ⟨cA, q3, q5, by rw [q6]; exact q2, hA a (Array.getElem?_eq_some_iff.mp q3).1⟩, vk_OFof q1 (va_eqt (hF _ w2)) hA, vk_OFof q1 ht hA, hT⟩⟩
    · exact ⟨(0, 0), fun h => absurd h hi⟩
  obtain ⟨ad, had⟩ := Classical.axiomOfChoice h0
  exact ⟨fun i => (ad i).1, fun i => (ad i).2, fun i hi => had i hi⟩
set_option maxRecDepth 20000 in
theorem zs_psa : am_ps.all (fun e => decide (lw_tbl[e.2.2.2]? = some (.stringRef (am_cn e.1) e.2.1 (am_txs.getD e.2.2.1 ""))) && ((decide (am_cn e.1 = "GapLetterModel") && decide (e.2.1 = zs_m.getD e.2.2.1 0)) || (decide (am_cn e.1 = "GapLetter$Teller") && decide (e.2.1 = zs_u.getD e.2.2.1 0)))) = true := by decide +kernel
theorem zs_vk {args : Array Value} {s : State} (hF : ∀ w ∈ zs_F, w.before args s = true) (hts : ∀ w ∈ lw_tbl, w.before args s = true) {adK : Nat → Nat} (h : ∀ i : Nat, i < 13 → (zs_t i).eval args s none [] s = some (.ref (adK i))) : ∀ e ∈ am_ps, vk_R (am_cn e.1) e.2.1 (am_txs.getD e.2.2.1 "") (adK e.2.2.1) s := by
  intro e he
  have h1 := List.all_eq_true.mp zs_psa e he
  have hlt := am_ps_lt e he
  simp only [Bool.and_eq_true, Bool.or_eq_true, decide_eq_true_eq] at h1
  obtain ⟨h2, h3⟩ := h1
  refine vk_R.of (hts _ (List.mem_of_getElem? h2)) ?_
  rcases h3 with ⟨e1, e2⟩ | ⟨e1, e2⟩
  · rw [e1, e2]; exact h _ hlt
  · rw [e1, e2]
    obtain ⟨y, g1, g2⟩ := Cond.eq_one (hF _ (zs_ok hlt).2.2)
    rw [g1, ← g2]; exact h _ hlt
theorem zs_i9 : am_tb 1181 (.instantiable am_nse 6) = true := by decide +kernel
theorem zs_K {args : Array Value} {s : State} (hts : ∀ w ∈ am_gw, w.before args s = true) (hao : (Cond.arrayOver (.object "GapLetter$Now")).before args s = true) : ∃ (D : va_G) (cA : Nat → ClassId), va_K D am_cl [(cA 0, .int), (cA 1, .long), (cA 2, .byte), (cA 3, .object "GapLetter$Now")] s := by
  have h0 : ∀ k : Nat, ∃ z : ClassId × (Nat → Nat), ∀ q : vw_C, am_cl[k]? = some q → u_Kn s q.1 q.2.1 q.2.2 z.1 z.2 := by
    intro k
    by_cases h9 : k < 9
    · cases hk : am_cl[k]? with
      | none => exact ⟨(0, fun _ => 0), fun q h => by cases h⟩
      | some q =>
        obtain ⟨c, i, h⟩ := u_known (n := q.2.2) hts (am_uws hk) (hts _ (am_ins hk h9).1)
        exact ⟨(c, i), fun q' hq => by cases hq; exact h⟩
    · by_cases h10 : k = 9
      · subst h10
        obtain ⟨c, i, h⟩ := u_known (C := am_nse) (T := am_TE) (N := 0) (n := 6) hts (fun w hw => by cases hw) (hts _ (am_gw_tb zs_i9))
        exact ⟨(c, i), fun q' hq => by cases hq; exact h⟩
      · refine ⟨(0, fun _ => 0), fun q h => ?_⟩
        rw [List.getElem?_eq_none (show am_cl.length ≤ k by show 10 ≤ k; omega)] at h
        cases h
  obtain ⟨f, hf⟩ := Classical.axiomOfChoice h0
  obtain ⟨c0, k0, p0, a0, b0, d0⟩ := Cond.arrayClass_spec (hts _ (am_gw_tb am_ac0))
  obtain ⟨c1, k1, p1, a1, b1, d1⟩ := Cond.arrayClass_spec (hts _ (am_gw_tb am_ac1))
  obtain ⟨c2, k2, p2, a2, b2, d2⟩ := Cond.arrayClass_spec (hts _ (am_gw_tb am_ac2))
  obtain ⟨p3, c3, k3, e3, -, b3, d3, a3⟩ := Cond.arrayOver_spec hao
  refine ⟨(fun k => (f k).1, fun k => (f k).2), fun k => if k = 0 then c0 else if k = 1 then c1 else if k = 2 then c2 else c3, fun k q hq => hf k q hq, fun k q hq => ?_⟩
  match k, hq with
  | 0, hq => cases hq; exact ⟨fun n z => ⟨(fun k h => by cases h), k0, b0, p0, d0⟩, a0⟩
  | 1, hq => cases hq; exact ⟨fun n z => ⟨(fun k h => by cases h), k1, b1, p1, d1⟩, a1⟩
  | 2, hq => cases hq; exact ⟨fun n z => ⟨(fun k h => by cases h), k2, b2, p2, d2⟩, a2⟩
  | 3, hq => cases hq; exact ⟨fun n z => ⟨(fun k h => by cases h), k3, b3, p3, d3⟩, k3, p3, b3, d3, e3, a3⟩
  | k + 4, hq => simp at hq
theorem zs_ao : lw_tbl[394]? = some (.arrayOver (.object "GapLetter$Now")) := by decide +kernel
theorem zs_s1 : lw_tbl[298]? = some (.laysStatic "java/lang/String" "COMPACT_STRINGS" "Z") ∧ lw_tbl[314]? = some (.laysStatic "jdk/internal/util/Preconditions" "SIOOBE_FORMATTER" "Ljava/util/function/BiFunction;") ∧ lw_tbl[1207]? = some (.laysStatic Bundle.tN "UNASSIGNED_STACK" Bundle.steD) ∧ lw_tbl[1209]? = some (.laysStatic Bundle.tN "SUPPRESSED_SENTINEL" Bundle.listD) ∧ lw_tbl[129]? = some (.initialized Bundle.tN) := by decide +kernel
theorem zs_s2 : zs_F[4]? = some (.eq (.static "java/lang/String" "COMPACT_STRINGS" "Z") (.int 1)) ∧ zs_F[5]? = some (.isRef (.static "jdk/internal/util/Preconditions" "SIOOBE_FORMATTER" "Ljava/util/function/BiFunction;")) ∧ zs_F[9]? = some (.isRef (.static Bundle.tN "UNASSIGNED_STACK" Bundle.steD)) ∧ zs_F[10]? = some (.isRef (.static Bundle.tN "SUPPRESSED_SENTINEL" Bundle.listD)) := by decide +kernel
theorem zs_y0 : am_ml 0 = 7 ∧ am_cn (am_ow 0) = "GapLetterLaw" ∧ (am_nm 0).name ≠ "<init>" := by decide +kernel
