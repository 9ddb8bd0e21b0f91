-- THE TABLES, AS THE WALK USES THEM
def am_gw : List Cond := lw_tbl.filter goodWord
theorem am_gw_of {w : Cond} (h : w ∈ lw_tbl ∧ goodWord w = true) : w ∈ am_gw := List.mem_filter.mpr h
theorem am_gw_tb {p : Nat} {w : Cond} (h : am_tb p w = true) : w ∈ am_gw := am_gw_of (am_tb_mem h)
set_option maxRecDepth 20000 in
theorem am_u0 : (List.range 8).all (fun k => am_tb (([426, 428, 430, 432, 434, 436, 438, 440] : List Nat).getD k 0) (u_lay "GapLetter$Game" am_T0 k)) = true := by decide +kernel
set_option maxRecDepth 20000 in
theorem am_u1 : (List.range 3).all (fun k => am_tb (([380, 382, 384] : List Nat).getD k 0) (u_lay "GapLetter$Now" am_T1 k)) = true := by decide +kernel
set_option maxRecDepth 20000 in
theorem am_u2 : (List.range 5).all (fun k => am_tb (([401, 403, 405, 407, 409] : List Nat).getD k 0) (u_lay "GapLetter$Past" am_T2 k)) = true := by decide +kernel
set_option maxRecDepth 20000 in
theorem am_u3 : (List.range 5).all (fun k => am_tb (([357, 359, 361, 363, 365] : List Nat).getD k 0) (u_lay "GapLetter$Teller" am_T3 k)) = true := by decide +kernel
set_option maxRecDepth 20000 in
theorem am_u4 : (List.range 7).all (fun k => am_tb (([164, 166, 168, 170, 172, 174, 176] : List Nat).getD k 0) (u_lay "GapLetter$Tokens" am_T4 k)) = true := by decide +kernel
set_option maxRecDepth 20000 in
theorem am_u5 : (List.range 20).all (fun k => am_tb (([242, 244, 246, 248, 250, 252, 254, 256, 258, 260, 262, 264, 266, 268, 270, 272, 274, 276, 278, 280] : List Nat).getD k 0) (u_lay "GapLetter$Tongue" am_T5 k)) = true := by decide +kernel
set_option maxRecDepth 20000 in
theorem am_u6 : (List.range 11).all (fun k => am_tb (([456, 458, 460, 462, 464, 466, 468, 470, 472, 474, 476] : List Nat).getD k 0) (u_lay "GapLetter" am_T6 k)) = true := by decide +kernel
set_option maxRecDepth 20000 in
theorem am_u7 : (List.range 23).all (fun k => am_tb (([1405, 1407, 1409, 1411, 1413, 1415, 1417, 1419, 1421, 1423, 1425, 1427, 1429, 1431, 1433, 1435, 1437, 1439, 1441, 1443, 1445, 1447, 1449] : List Nat).getD k 0) (u_lay "GapLetterModel$Tongue" am_T7 k)) = true := by decide +kernel
set_option maxRecDepth 20000 in
theorem am_u8 : (List.range 31).all (fun k => am_tb (([1278, 1280, 1282, 1284, 1286, 1288, 1290, 1292, 1294, 1296, 1298, 1300, 1302, 1304, 1306, 1308, 1310, 1312, 1314, 1316, 1318, 1320, 1322, 1324, 1326, 1328, 1330, 1332, 1334, 1336, 1338] : List Nat).getD k 0) (u_lay "GapLetterModel" am_T8 k)) = true := by decide +kernel
theorem am_uws {b : Nat} {q : vw_C} (h : am_cl[b]? = some q) : ∀ w ∈ u_ws q.1 q.2.1 q.2.2, w ∈ am_gw := by
  have key : ∀ {C : String} {T : u_T} {N : Nat} {ps : List Nat}, (List.range N).all (fun k => am_tb (ps.getD k 0) (u_lay C T k)) = true → ∀ w ∈ u_ws C T N, w ∈ am_gw := by
    intro C T N ps hh w hw
    obtain ⟨k, hk, e⟩ := List.mem_map.mp hw
    rw [← e]
    exact am_gw_tb (List.all_eq_true.mp hh k hk)
  match b, h with
  | 0, h => cases h; exact key am_u0
  | 1, h => cases h; exact key am_u1
  | 2, h => cases h; exact key am_u2
  | 3, h => cases h; exact key am_u3
  | 4, h => cases h; exact key am_u4
  | 5, h => cases h; exact key am_u5
  | 6, h => cases h; exact key am_u6
  | 7, h => cases h; exact key am_u7
  | 8, h => cases h; exact key am_u8
  | 9, h => cases h; intro w hw; cases hw
  | b + 10, h => simp [am_cl] at h
theorem am_cls {b : Nat} {q : vw_C} (h : am_cl[b]? = some q) : (∀ k, k < q.2.2 → parseFieldDescriptor (q.2.1 k).2.2.1 = some (am_fty b k)) ∧ ∀ a, a < q.2.2 → ∀ b, b < q.2.2 → a ≠ b → (q.2.1 a).2.1 ≠ (q.2.1 b).2.1 := by
  match b, h with
  | 0, h => cases h; exact ⟨am_p0, am_n0⟩
  | 1, h => cases h; exact ⟨am_p1, am_n1⟩
  | 2, h => cases h; exact ⟨am_p2, am_n2⟩
  | 3, h => cases h; exact ⟨am_p3, am_n3⟩
  | 4, h => cases h; exact ⟨am_p4, am_n4⟩
  | 5, h => cases h; exact ⟨am_p5, am_n5⟩
  | 6, h => cases h; exact ⟨am_p6, am_n6⟩
  | 7, h => cases h; exact ⟨am_p7, am_n7⟩
  | 8, h => cases h; exact ⟨am_p8, am_n8⟩
  | 9, h => cases h; exact ⟨fun k hk => absurd hk (Nat.not_lt_zero k), fun a ha => absurd ha (Nat.not_lt_zero a)⟩
  | b + 10, h => simp [am_cl] at h
theorem am_dfs {b : Nat} {q : vw_C} (h : am_cl[b]? = some q) (hb : b < 9) : am_n b = q.2.2 ∧ (am_def b).length = q.2.2 ∧ ∀ j, j < q.2.2 → (am_def b)[j]? = some (defaultValue (am_fty b j)) := by
  match b, h with
  | 0, h => cases h; exact ⟨rfl, rfl, by decide +kernel⟩
  | 1, h => cases h; exact ⟨rfl, rfl, by decide +kernel⟩
  | 2, h => cases h; exact ⟨rfl, rfl, by decide +kernel⟩
  | 3, h => cases h; exact ⟨rfl, rfl, by decide +kernel⟩
  | 4, h => cases h; exact ⟨rfl, rfl, by decide +kernel⟩
  | 5, h => cases h; exact ⟨rfl, rfl, by decide +kernel⟩
  | 6, h => cases h; exact ⟨rfl, rfl, by decide +kernel⟩
  | 7, h => cases h; exact ⟨rfl, rfl, by decide +kernel⟩
  | 8, h => cases h; exact ⟨rfl, rfl, by decide +kernel⟩
  | b + 9, h => omega
set_option maxRecDepth 20000 in
theorem am_ins_a : (List.range 9).all (fun b => match am_cl[b]? with | some (C, _, N) => am_tb (([413, 369, 388, 142, 148, 181, 134, 1358, 1242] : List Nat).getD b 0) (.instantiable C N) && am_tb (([119, 117, 118, 109, 110, 111, 108, 123, 120] : List Nat).getD b 0) (.initialized C) | none => false) = true := by decide +kernel
theorem am_ins {b : Nat} {q : vw_C} (h : am_cl[b]? = some q) (hb : b < 9) : (.instantiable q.1 q.2.2 : Cond) ∈ am_gw ∧ (.initialized q.1 : Cond) ∈ am_gw := by
  have h1 := List.all_eq_true.mp am_ins_a b (List.mem_range.mpr hb)
  rw [h] at h1
  simp only [Bool.and_eq_true] at h1
  exact ⟨am_gw_tb h1.1, am_gw_tb h1.2⟩
set_option maxRecDepth 20000 in
theorem am_oi : am_tb 140 (.code objectInit ⟨#[0xb1]⟩ 1 none) = true := by decide +kernel
set_option maxRecDepth 20000 in
theorem am_ac0 : am_tb 284 (.arrayClass .int) = true := by decide +kernel
set_option maxRecDepth 20000 in
theorem am_ac1 : am_tb 283 (.arrayClass .long) = true := by decide +kernel
set_option maxRecDepth 20000 in
theorem am_ac2 : am_tb 179 (.arrayClass .byte) = true := by decide +kernel
theorem am_okf_spec {y a b ix : Nat} {cc : Int} (h : am_okf y a b cc ix = true) : ∃ (C : String) (T : u_T) (N : Nat), am_cl[b]? = some (C, T, N) ∧ a < N ∧ (T a).1 = C ∧ ((.fieldLink (am_cn (am_ow y)) ix C (T a).2.1 (T a).2.2.1 : Cond) ∈ am_gw ∨ ∃ host, (.fieldLinkNest (am_cn (am_ow y)) ix C (T a).2.1 (T a).2.2.1 host : Cond) ∈ lw_tbl) := by
  unfold am_okf at h
  cases he : am_pf[cc.toNat]? with
  | none => rw [he] at h; cases h
  | some e =>
    obtain ⟨o, ix', ci, k, kd, p⟩ := e
    rw [he] at h
    simp only [Bool.and_eq_true, beq_iff_eq] at h
    obtain ⟨⟨⟨rfl, rfl⟩, rfl⟩, rfl⟩ := h
    have h1 := List.all_eq_true.mp am_pf_ok _ (List.mem_of_getElem? he)
    simp only [am_gf] at h1
    cases hc : am_cl[ci]? with
    | none => rw [hc] at h1; cases h1
    | some q =>
      obtain ⟨C, T, N⟩ := q
      rw [hc] at h1
      simp only [Bool.and_eq_true, decide_eq_true_eq] at h1
      obtain ⟨⟨h2, h3⟩, h4⟩ := h1
      refine ⟨C, T, N, rfl, h2, h3, ?_⟩
      split at h4
      · exact Or.inl (am_gw_tb h4)
      · exact Or.inr ⟨_, List.mem_of_getElem? (of_decide_eq_true h4)⟩
theorem am_okc_spec {y a ix kd : Nat} {cc : Int} (h : am_okc y a cc ix kd = true) : ∃ q : vw_C, am_cl[a]? = some q ∧ (.classLink (am_cn (am_ow y)) ix q.1 : Cond) ∈ am_gw := by
  unfold am_okc at h
  cases he : am_pc[cc.toNat]? with
  | none => rw [he] at h; cases h
  | some e =>
    obtain ⟨o, ix', ci, k, p⟩ := e
    rw [he] at h
    simp only [Bool.and_eq_true, beq_iff_eq] at h
    obtain ⟨⟨⟨rfl, rfl⟩, rfl⟩, rfl⟩ := h
    have h1 := List.all_eq_true.mp am_pc_ok _ (List.mem_of_getElem? he)
    simp only [am_gc] at h1
    cases hc : am_cl[ci]? with
    | none => rw [hc] at h1; cases h1
    | some q =>
      obtain ⟨C, T, N⟩ := q
      rw [hc] at h1
      exact ⟨_, rfl, am_gw_tb h1⟩
theorem am_okk_spec {y a ix kd : Nat} {cc : Int} (h : am_okk y a cc ix kd = true) : (if kd = 0 then (.constant (am_cn (am_ow y)) ix (Int32.ofInt cc) : Cond) else .constantLong (am_cn (am_ow y)) ix (Int64.ofInt cc)) ∈ am_gw := by
  unfold am_okk at h
  cases he : am_pk[a - 1]? with
  | none => rw [he] at h; cases h
  | some e =>
    obtain ⟨o, ix', v, p, k⟩ := e
    rw [he] at h
    simp only [Bool.and_eq_true, beq_iff_eq] at h
    obtain ⟨⟨⟨rfl, rfl⟩, rfl⟩, rfl⟩ := h
    have h1 := List.all_eq_true.mp am_pk_ok _ (List.mem_of_getElem? he)
    simp only [am_gk] at h1
    split at h1
    · rw [if_pos (by assumption)]; exact am_gw_tb h1
    · rw [if_neg (by assumption)]; exact am_gw_tb h1
set_option maxRecDepth 20000 in
theorem am_pf_own : am_pf.all (fun e => e.2.2.2.2.1 == 0 || decide ((am_cl[e.2.2.1]?).map (fun q => q.1) ≠ some (am_cn e.1))) = true := by decide +kernel
theorem am_okf_own {y a b ix : Nat} {cc : Int} (h : am_okf y a b cc ix = true) {C : String} {T : u_T} {N : Nat} (hc : am_cl[b]? = some (C, T, N)) (ho : C = am_cn (am_ow y)) : (.fieldLink (am_cn (am_ow y)) ix C (T a).2.1 (T a).2.2.1 : Cond) ∈ am_gw := by
  unfold am_okf at h
  cases he : am_pf[cc.toNat]? with
  | none => rw [he] at h; cases h
  | some e =>
    obtain ⟨o, ix', ci, k, kd, p⟩ := e
    rw [he] at h
    simp only [Bool.and_eq_true, beq_iff_eq] at h
    obtain ⟨⟨⟨rfl, rfl⟩, rfl⟩, rfl⟩ := h
    have h1 := List.all_eq_true.mp am_pf_ok _ (List.mem_of_getElem? he)
    have h2 := List.all_eq_true.mp am_pf_own _ (List.mem_of_getElem? he)
    simp only [am_gf, hc, Bool.and_eq_true, decide_eq_true_eq] at h1
    simp only [hc, Bool.or_eq_true, beq_iff_eq, decide_eq_true_eq] at h2
    rcases h2 with h2 | h2
    · rw [if_pos h2] at h1
      exact am_gw_tb h1.2
    · exact absurd (congrArg some ho) h2
set_option maxRecDepth 20000 in
theorem am_ps_lt : ∀ e ∈ am_ps, e.2.2.1 < 13 := by decide +kernel
set_option maxRecDepth 20000 in
theorem am_pc_lt : ∀ e ∈ am_pc, e.2.2.1 < 9 := by decide +kernel
theorem am_okc_lt {y a ix kd : Nat} {cc : Int} (h : am_okc y a cc ix kd = true) : a < 9 := by
  unfold am_okc at h
  cases he : am_pc[cc.toNat]? with
  | none => rw [he] at h; cases h
  | some e =>
    obtain ⟨o, ix', ci, k, p⟩ := e
    rw [he] at h
    simp only [Bool.and_eq_true, beq_iff_eq] at h
    obtain ⟨⟨⟨rfl, rfl⟩, rfl⟩, rfl⟩ := h
    exact am_pc_lt _ (List.mem_of_getElem? he)
theorem am_okm_get {y a ix k1 k2 : Nat} {cc : Int} (h : am_okm y a cc ix k1 k2 = true) : ∃ (kd : Nat) (ps : List Nat), (kd = k1 ∨ kd = k2) ∧ am_gm (am_ow y, ix, a, kd, ps) = true := by
  unfold am_okm at h
  cases he : am_pm[cc.toNat]? with
  | none => rw [he] at h; cases h
  | some e =>
    obtain ⟨o, ix', y', kd, ps⟩ := e
    rw [he] at h
    simp only [Bool.and_eq_true, Bool.or_eq_true, beq_iff_eq] at h
    obtain ⟨⟨⟨rfl, rfl⟩, rfl⟩, hk⟩ := h
    exact ⟨kd, ps, hk, List.all_eq_true.mp am_pm_ok _ (List.mem_of_getElem? he)⟩
theorem am_oki_spec {y ix : Nat} {cc : Int} (h : am_okm y 0 cc ix 9 9 = true) : (.methodLink (am_cn (am_ow y)) ix objectInit : Cond) ∈ am_gw ∧ (.instanceMethod objectInit : Cond) ∈ am_gw := by
  obtain ⟨kd, ps, hk, hg⟩ := am_okm_get h
  have hk : kd = 9 := hk.elim id id
  subst hk
  simp only [am_gm, if_true, Bool.and_eq_true] at hg
  exact ⟨am_gw_tb hg.1, am_gw_tb hg.2⟩
theorem am_okmx_spec {y ix : Nat} {cc : Int} (h : am_okm y 0 cc ix 11 11 = true) : (.methodLink (am_cn (am_ow y)) ix Lib.Math.max.name : Cond) ∈ am_gw := by
  obtain ⟨kd, ps, hk, hg⟩ := am_okm_get h
  have hk : kd = 11 := hk.elim id id
  subst hk
  simp only [am_gm] at hg
  exact am_gw_tb hg
theorem am_okmn_spec {y ix : Nat} {cc : Int} (h : am_okm y 1 cc ix 11 11 = true) : (.methodLink (am_cn (am_ow y)) ix Lib.Math.min.name : Cond) ∈ am_gw := by
  obtain ⟨kd, ps, hk, hg⟩ := am_okm_get h
  have hk : kd = 11 := hk.elim id id
  subst hk
  simp only [am_gm] at hg
  exact am_gw_tb hg
set_option maxRecDepth 20000 in
theorem am_mx1 : am_tb 885 (.static Lib.Math.max.name) = true := by decide +kernel
set_option maxRecDepth 20000 in
theorem am_mx2 : am_tb 122 (.initialized "java/lang/Math") = true := by decide +kernel
set_option maxRecDepth 20000 in
theorem am_mx3 : am_tb 886 (.code Lib.Math.max.name Lib.Math.max.code 2 (some .int)) = true := by decide +kernel
set_option maxRecDepth 20000 in
theorem am_mn1 : am_tb 511 (.static Lib.Math.min.name) = true := by decide +kernel
set_option maxRecDepth 20000 in
theorem am_mn3 : am_tb 512 (.code Lib.Math.min.name Lib.Math.min.code 2 (some .int)) = true := by decide +kernel
theorem am_nofl {b : Nat} {q : vw_C} (h : am_cl[b]? = some q) (hb : b < 9) : ∀ j, j < q.2.2 → am_fty b j ≠ .float := by
  match b, h with
  | 0, h => cases h; decide +kernel
  | 1, h => cases h; decide +kernel
  | 2, h => cases h; decide +kernel
  | 3, h => cases h; decide +kernel
  | 4, h => cases h; decide +kernel
  | 5, h => cases h; decide +kernel
  | 6, h => cases h; decide +kernel
  | 7, h => cases h; decide +kernel
  | 8, h => cases h; decide +kernel
  | b + 9, h => omega
