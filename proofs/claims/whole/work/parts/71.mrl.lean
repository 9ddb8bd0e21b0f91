-- THE MODEL READS LINES
def bindR (x : rS) (k : Nat → pR) : pR := match x with
  | .inl e => .inl e
  | .inr j => k j
def pGate (f : Nat → Int32) (n : Nat) (τ : lt_T) (c cap i : Nat) : rS := if τ.1 0 = 0 then .inl (6, tj (pb f) n i) else if cap ≤ τ.1 c then .inl (5, tj (pb f) n i) else .inr (tkX (pb f) n i)
def frR (r : Nat) (h h' : am_H) : Prop := h'.1 = h.1 ∧ h'.2.1 = h.2.1 ∧ ∀ k, k ≠ 58 → k < r ∨ r + 14 < k → h'.2.2 k = h.2.2 k
def mPo (f : Nat → Int32) (n : Nat) (tv : Value) (r : Nat) (lg : Nat → Int64) (s0 : Nat → Int32) (τ : lt_T) (h h' : am_H) : pR → Prop
  | .inl e => mRS f n tv r lg s0 h' (.inl e) ∧ mu h' r τ ∧ frR r h h'
  | .inr (j, τ2) => mRS f n tv r lg s0 h' (.inr j) ∧ mu h' r τ2 ∧ frR r h h'
section MRL
variable {xs : Nat → Int32} {L d y r : Nat} {is : List am_I} {l : am_L} {st : List Value} {Q : am_I → List Value → am_H → Prop} {ln a b : Nat} {cc c1 c2 : Int} {h : am_H} {τ : lt_T} {fS fN fH fO fA : Nat → Int64} {fC fP fM fQ fL fD fZ fB fI : Nat → Int32} {nn : Int32} {f s0 : Nat → Int32} {n i : Nat} {tv : Value} {lg : Nat → Int64} {x : rS}
theorem rlb_gate (q : lt_q τ) {c cap : Nat} (h1 : 1 ≤ c ∧ c ≤ 7) (h2 : τ.1 c ≤ cap) (h3 : 0 < cap) : rlb f n τ (τ.1 c) cap (.inr i) = pGate f n τ c cap i := by
  show (if _ then _ else _) = _
  unfold pGate
  by_cases y0 : τ.1 0 = 0
  · have := q.2.2.2.2.2.2 y0 c h1.1 h1.2
    rw [if_neg (by omega), if_pos y0, if_pos y0]
  · rw [if_neg y0, if_neg y0]
    by_cases e : τ.1 c = cap
    · rw [if_pos e, if_pos (by omega)]
    · rw [if_neg e, if_neg (by omega)]
theorem gate_r {c cap j : Nat} (e : pGate f n τ c cap i = .inr j) : τ.1 0 ≠ 0 ∧ τ.1 c < cap ∧ j = tkX (pb f) n i := by
  unfold pGate at e
  split at e
  · cases e
  · rename_i y0
    split at e
    · cases e
    · cases e
      exact ⟨y0, by omega, rfl⟩
theorem frR_f {h' : am_H} (fr : frm 58 58 h h') : frR r h h' := ⟨fr.1, fr.2.1, fun k h58 _ => fr.2.2 k (by omega)⟩
theorem frR_tr {h1 h2 h3 : am_H} (x : frR r h1 h2) (y : frR r h2 h3) : frR r h1 h3 := ⟨y.1.trans x.1, y.2.1.trans x.2.1, fun k a b => (y.2.2 k a b).trans (x.2.2 k a b)⟩
theorem frR_m {h1 h2 h3 : am_H} (x : frR r h1 h2) (y : frm r (r + 14) h2 h3) : frR r h1 h3 := ⟨y.1.trans x.1, y.2.1.trans x.2.1, fun k a b => (y.2.2 k b).trans (x.2.2 k a b)⟩
theorem frR_st {h1 : am_H} {k : Nat} {c : am_C} (x : frR r h h1) (hk : r ≤ k ∧ k ≤ r + 14) : frR r h (am_set h1 k c) := frR_m x (frm_set hk)
/-- the read tongue changes, not the reader -/
theorem mRS_u {h' : am_H} (R : mRS f n tv r lg s0 h x) (hr : 66 ≤ r) (fr : frm r (r + 14) h h') : mRS f n tv r lg s0 h' x := by
  obtain ⟨s, wd, hq, hT, e⟩ := R
  exact ⟨s, wd, (fr.2.2 58 (by omega)).trans hq, (fr.2.2 59 (by omega)).trans hT, e⟩
theorem m_readOld (R : mRS f n tv r lg s0 h (.inr i)) (U : mu h r τ) (hr : 66 ≤ r) (q : lt_q τ) (hk : tkK (pb f) n i = 1) : am_mv xs L (d + 3) 209 [.ref 58] h (fun h' => mPo f n tv r lg s0 τ h h' (bindR (pGate f n τ 7 5 i) (pOld f n τ))) := by
  obtain ⟨s, wd, hq⟩ := mRS_r R
  obtain ⟨fs, xo⟩ := mu_o U
  have A := q.1
  obtain ⟨a0, a1, a2, a3, a4, a5, a6, a7⟩ := id A
  refine kg_209 ?_
  repeat (first | refine wp_aload rfl rfl ?_ | refine wp_iload rfl ?_ | refine wp_ic ?_ | refine wp_g15 (by assumption) ?_ | refine wp_g16 (by assumption) ?_ | refine wp_g17 (by assumption) ?_ | refine wp_g3 (by assumption) ?_ | refine wp_get (by assumption) rfl ?_ | refine wp_icm ?_ | refine wp_istore (by simp only [am_st1_0, am_st1_1, am_st1_s, am_clr_n, am_clr_i, am_clr_r, am_clr_f, am_clr_u, am_clr_j, Nat.reduceAdd]; rfl) ?_ | refine wp_iadd ?_ | refine wp_iinc rfl (by simp only [am_st1_0, am_st1_1, am_st1_s, am_clr_n, am_clr_i, am_clr_r, am_clr_f, am_clr_u, am_clr_j, Nat.reduceAdd]; rfl) ?_ | refine wp_lload rfl ?_ | refine wp_goto ?_ | refine wp_ishl ?_ | refine wp_iand ?_ | refine wp_isub ?_ | refine wp_ior ?_ | refine wp_dup_ref ?_ | refine wp_dup_int ?_ | refine wp_lc ?_ | refine wp_imul ?_ | refine wp_lstore (by simp only [am_st2_e, am_st1_0, am_st1_1, am_st1_s, am_clr_n, am_clr_i, am_clr_r, am_clr_f, am_clr_u, am_clr_j, Nat.reduceAdd, List.set_cons_zero, List.set_cons_succ]; rfl) ?_ | refine wp_lcmp ?_ | refine wp_ixor ?_ | refine wp_astore (by simp only [am_st1_0, am_st1_1, am_st1_s, am_clr_n, am_clr_i, am_clr_r, am_clr_f, am_clr_u, am_clr_j, Nat.reduceAdd]; rfl) ?_ | refine wp_i2l ?_ | refine wp_l2i ?_ | refine wp_land ?_ | refine wp_iushr ?_ | refine wp_ishr ?_ | refine wp_ladd ?_ | refine wp_lmul ?_ | refine wp_lshr ?_ | refine wp_lushr ?_ | refine wp_lshl ?_ | refine wp_lsub ?_ | refine wp_lor ?_ | refine wp_i2b ?_ | refine wp_iincm rfl (by simp only [am_st1_0, am_st1_1, am_st1_s, am_clr_n, am_clr_i, am_clr_r, am_clr_f, am_clr_u, am_clr_j, Nat.reduceAdd]; rfl) ?_ | refine wp_dup2 ?_ | refine wp_ldcs ?_)
  refine kv_198 hq (m_lineBegins R U hr A.1 (fun j e => by cases e; exact hk) (many := τ.1 7) (most := 5) (by omega) (by decide)) (Nat.le_of_ble_eq_true rfl) (fun h9 hz9 => ?_)
  obtain ⟨R1, fr1⟩ := hz9
  rw [rlb_gate q (by decide) a7 (by decide)] at R1
  generalize hx1 : pGate f n τ 7 5 i = x1 at R1 ⊢
  obtain ⟨s1, wd1, hq1⟩ := mRS_r R1
  repeat (first | refine wp_aload rfl rfl ?_ | refine wp_iload rfl ?_ | refine wp_ic ?_ | refine wp_g15 (by assumption) ?_ | refine wp_g16 (by assumption) ?_ | refine wp_g17 (by assumption) ?_ | refine wp_g3 (by assumption) ?_ | refine wp_get (by assumption) rfl ?_ | refine wp_icm ?_ | refine wp_istore (by simp only [am_st1_0, am_st1_1, am_st1_s, am_clr_n, am_clr_i, am_clr_r, am_clr_f, am_clr_u, am_clr_j, Nat.reduceAdd]; rfl) ?_ | refine wp_iadd ?_ | refine wp_iinc rfl (by simp only [am_st1_0, am_st1_1, am_st1_s, am_clr_n, am_clr_i, am_clr_r, am_clr_f, am_clr_u, am_clr_j, Nat.reduceAdd]; rfl) ?_ | refine wp_lload rfl ?_ | refine wp_goto ?_ | refine wp_ishl ?_ | refine wp_iand ?_ | refine wp_isub ?_ | refine wp_ior ?_ | refine wp_dup_ref ?_ | refine wp_dup_int ?_ | refine wp_lc ?_ | refine wp_imul ?_ | refine wp_lstore (by simp only [am_st2_e, am_st1_0, am_st1_1, am_st1_s, am_clr_n, am_clr_i, am_clr_r, am_clr_f, am_clr_u, am_clr_j, Nat.reduceAdd, List.set_cons_zero, List.set_cons_succ]; rfl) ?_ | refine wp_lcmp ?_ | refine wp_ixor ?_ | refine wp_astore (by simp only [am_st1_0, am_st1_1, am_st1_s, am_clr_n, am_clr_i, am_clr_r, am_clr_f, am_clr_u, am_clr_j, Nat.reduceAdd]; rfl) ?_ | refine wp_i2l ?_ | refine wp_l2i ?_ | refine wp_land ?_ | refine wp_iushr ?_ | refine wp_ishr ?_ | refine wp_ladd ?_ | refine wp_lmul ?_ | refine wp_lshr ?_ | refine wp_lushr ?_ | refine wp_lshl ?_ | refine wp_lsub ?_ | refine wp_lor ?_ | refine wp_i2b ?_ | refine wp_iincm rfl (by simp only [am_st1_0, am_st1_1, am_st1_s, am_clr_n, am_clr_i, am_clr_r, am_clr_f, am_clr_u, am_clr_j, Nat.reduceAdd]; rfl) ?_ | refine wp_dup2 ?_ | refine wp_ldcs ?_)
  refine kv_206 hq1 (m_readWord R1) (Nat.le_of_ble_eq_true rfl) (fun z8 h8 hz8 => ?_)
  obtain ⟨hv, R2, fr2⟩ := hz8
  have fr := frm_tr fr1 fr2
  have U2 := mu_frm (h' := h8) U (fun k k1 k2 => fr.2.2 k (by omega))
  obtain ⟨s2, wd2, hq2, -, -, -, ex2⟩ := id R2
  repeat (first | refine wp_aload rfl rfl ?_ | refine wp_iload rfl ?_ | refine wp_ic ?_ | refine wp_g15 (by assumption) ?_ | refine wp_g16 (by assumption) ?_ | refine wp_g17 (by assumption) ?_ | refine wp_g3 (by assumption) ?_ | refine wp_get (by assumption) rfl ?_ | refine wp_icm ?_ | refine wp_istore (by simp only [am_st1_0, am_st1_1, am_st1_s, am_clr_n, am_clr_i, am_clr_r, am_clr_f, am_clr_u, am_clr_j, Nat.reduceAdd]; rfl) ?_ | refine wp_iadd ?_ | refine wp_iinc rfl (by simp only [am_st1_0, am_st1_1, am_st1_s, am_clr_n, am_clr_i, am_clr_r, am_clr_f, am_clr_u, am_clr_j, Nat.reduceAdd]; rfl) ?_ | refine wp_lload rfl ?_ | refine wp_goto ?_ | refine wp_ishl ?_ | refine wp_iand ?_ | refine wp_isub ?_ | refine wp_ior ?_ | refine wp_dup_ref ?_ | refine wp_dup_int ?_ | refine wp_lc ?_ | refine wp_imul ?_ | refine wp_lstore (by simp only [am_st2_e, am_st1_0, am_st1_1, am_st1_s, am_clr_n, am_clr_i, am_clr_r, am_clr_f, am_clr_u, am_clr_j, Nat.reduceAdd, List.set_cons_zero, List.set_cons_succ]; rfl) ?_ | refine wp_lcmp ?_ | refine wp_ixor ?_ | refine wp_astore (by simp only [am_st1_0, am_st1_1, am_st1_s, am_clr_n, am_clr_i, am_clr_r, am_clr_f, am_clr_u, am_clr_j, Nat.reduceAdd]; rfl) ?_ | refine wp_i2l ?_ | refine wp_l2i ?_ | refine wp_land ?_ | refine wp_iushr ?_ | refine wp_ishr ?_ | refine wp_ladd ?_ | refine wp_lmul ?_ | refine wp_lshr ?_ | refine wp_lushr ?_ | refine wp_lshl ?_ | refine wp_lsub ?_ | refine wp_lor ?_ | refine wp_i2b ?_ | refine wp_iincm rfl (by simp only [am_st1_0, am_st1_1, am_st1_s, am_clr_n, am_clr_i, am_clr_r, am_clr_f, am_clr_u, am_clr_j, Nat.reduceAdd]; rfl) ?_ | refine wp_dup2 ?_ | refine wp_ldcs ?_)
  cases x1 with
  | inl e =>
    rw [show s2 9 = 6 from ex2.1]
    refine wp_icne (fun z => absurd rfl z) (fun _ => ?_)
    exact wp_vret (am_Kv ⟨R2, U2, frR_f fr⟩)
  | inr j =>
    obtain ⟨-, hc, -⟩ := gate_r hx1
    by_cases kj : tkK (pb f) n j = 1
    · have e2 : rwd f n (.inr j) = .inr (tkX (pb f) n j) := if_pos kj
      have ep : pOld f n τ j = .inr (tkX (pb f) n j, tOl τ (tkW (pb f) n j)) := if_pos kj
      rw [e2] at R2 ex2
      have hv := hv j rfl kj
      subst hv
      show am_w _ _ _ _ _ _ _ _ (am_K fun v h' => v = none ∧ mPo f n tv r lg s0 τ h h' (pOld f n τ j))
      rw [ep, ex2.1.2.1]
      refine wp_icne (fun _ => ?_) (fun z => absurd (Classical.not_not.mp z) (mkK_n6 tk_5))
      obtain ⟨fC, fP, fS, fN, fH, fO, fM, fQ, fL, fD, fZ, fA, fB, fI, C, ⟨f1, f2, f3, f4, f5, f6, f7⟩, nm⟩ := U2
      have j0 := C.1
      have j6 := C.2.2.2.2.2.2.1
      rw [ke_209_27]
      repeat (first | refine wp_aload rfl rfl ?_ | refine wp_iload rfl ?_ | refine wp_ic ?_ | refine wp_g15 (by assumption) ?_ | refine wp_g16 (by assumption) ?_ | refine wp_g17 (by assumption) ?_ | refine wp_g3 (by assumption) ?_ | refine wp_get (by assumption) rfl ?_ | refine wp_icm ?_ | refine wp_istore (by simp only [am_st1_0, am_st1_1, am_st1_s, am_clr_n, am_clr_i, am_clr_r, am_clr_f, am_clr_u, am_clr_j, Nat.reduceAdd]; rfl) ?_ | refine wp_iadd ?_ | refine wp_iinc rfl (by simp only [am_st1_0, am_st1_1, am_st1_s, am_clr_n, am_clr_i, am_clr_r, am_clr_f, am_clr_u, am_clr_j, Nat.reduceAdd]; rfl) ?_ | refine wp_lload rfl ?_ | refine wp_goto ?_ | refine wp_ishl ?_ | refine wp_iand ?_ | refine wp_isub ?_ | refine wp_ior ?_ | refine wp_dup_ref ?_ | refine wp_dup_int ?_ | refine wp_lc ?_ | refine wp_imul ?_ | refine wp_lstore (by simp only [am_st2_e, am_st1_0, am_st1_1, am_st1_s, am_clr_n, am_clr_i, am_clr_r, am_clr_f, am_clr_u, am_clr_j, Nat.reduceAdd, List.set_cons_zero, List.set_cons_succ]; rfl) ?_ | refine wp_lcmp ?_ | refine wp_ixor ?_ | refine wp_astore (by simp only [am_st1_0, am_st1_1, am_st1_s, am_clr_n, am_clr_i, am_clr_r, am_clr_f, am_clr_u, am_clr_j, Nat.reduceAdd]; rfl) ?_ | refine wp_i2l ?_ | refine wp_l2i ?_ | refine wp_land ?_ | refine wp_iushr ?_ | refine wp_ishr ?_ | refine wp_ladd ?_ | refine wp_lmul ?_ | refine wp_lshr ?_ | refine wp_lushr ?_ | refine wp_lshl ?_ | refine wp_lsub ?_ | refine wp_lor ?_ | refine wp_i2b ?_ | refine wp_iincm rfl (by simp only [am_st1_0, am_st1_1, am_st1_s, am_clr_n, am_clr_i, am_clr_r, am_clr_f, am_clr_u, am_clr_j, Nat.reduceAdd]; rfl) ?_ | refine wp_dup2 ?_ | refine wp_ldcs ?_)
      refine wp_lastN j6 (by omega) (by decide) ?_
      have C1 := mm6 C (vp_updL fO (τ.1 7) (nw_l (tkW (pb f) n j)))
      have i0 := C1.1
      have hq3 := (am_gn h8 (k := r + 6) (j := 58) (.inl (1, 5, .inr (.inl (vp_updL fO (τ.1 7) (nw_l (tkW (pb f) n j)))))) (by omega)).trans hq2
      repeat (first | refine wp_aload rfl rfl ?_ | refine wp_iload rfl ?_ | refine wp_ic ?_ | refine wp_g15 (by assumption) ?_ | refine wp_g16 (by assumption) ?_ | refine wp_g17 (by assumption) ?_ | refine wp_g3 (by assumption) ?_ | refine wp_get (by assumption) rfl ?_ | refine wp_icm ?_ | refine wp_istore (by simp only [am_st1_0, am_st1_1, am_st1_s, am_clr_n, am_clr_i, am_clr_r, am_clr_f, am_clr_u, am_clr_j, Nat.reduceAdd]; rfl) ?_ | refine wp_iadd ?_ | refine wp_iinc rfl (by simp only [am_st1_0, am_st1_1, am_st1_s, am_clr_n, am_clr_i, am_clr_r, am_clr_f, am_clr_u, am_clr_j, Nat.reduceAdd]; rfl) ?_ | refine wp_lload rfl ?_ | refine wp_goto ?_ | refine wp_ishl ?_ | refine wp_iand ?_ | refine wp_isub ?_ | refine wp_ior ?_ | refine wp_dup_ref ?_ | refine wp_dup_int ?_ | refine wp_lc ?_ | refine wp_imul ?_ | refine wp_lstore (by simp only [am_st2_e, am_st1_0, am_st1_1, am_st1_s, am_clr_n, am_clr_i, am_clr_r, am_clr_f, am_clr_u, am_clr_j, Nat.reduceAdd, List.set_cons_zero, List.set_cons_succ]; rfl) ?_ | refine wp_lcmp ?_ | refine wp_ixor ?_ | refine wp_astore (by simp only [am_st1_0, am_st1_1, am_st1_s, am_clr_n, am_clr_i, am_clr_r, am_clr_f, am_clr_u, am_clr_j, Nat.reduceAdd]; rfl) ?_ | refine wp_i2l ?_ | refine wp_l2i ?_ | refine wp_land ?_ | refine wp_iushr ?_ | refine wp_ishr ?_ | refine wp_ladd ?_ | refine wp_lmul ?_ | refine wp_lshr ?_ | refine wp_lushr ?_ | refine wp_lshl ?_ | refine wp_lsub ?_ | refine wp_lor ?_ | refine wp_i2b ?_ | refine wp_iincm rfl (by simp only [am_st1_0, am_st1_1, am_st1_s, am_clr_n, am_clr_i, am_clr_r, am_clr_f, am_clr_u, am_clr_j, Nat.reduceAdd]; rfl) ?_ | refine wp_dup2 ?_ | refine wp_ldcs ?_)
      rw [nI_1]
      refine wp_put i0 (Nat.le_of_ble_eq_true rfl) rfl (fs2 := muO r (tOl τ (tkW (pb f) n j)) (nI (τ.1 1 + τ.1 2))) rfl ?_
      have C2 := mm0 C1 (tOl τ (tkW (pb f) n j)) (nI (τ.1 1 + τ.1 2))
      refine wp_vret (am_Kv ⟨mRS_u R2 hr (frm_st (frm_set (by omega)) (by omega)), ⟨_, _, _, _, _, _, _, _, _, _, _, _, _, _, C2, ⟨f1, f2, f3, f4, f5, f6, ?_⟩, nm⟩, frR_st (frR_st (frR_f fr) (by omega)) (by omega)⟩)
      refine all_add (n := τ.1 7) (P := fun k => vp_updL fO (τ.1 7) (nw_l (tkW (pb f) n j)) k = nw_l (lw τ 5 (τ.1 7) (tkW (pb f) n j) 5 k)) (fun k hk => ?_) ?_
      · rw [pk_uLn (by omega), lw_n (by omega)]; exact f7 k hk
      · rw [pk_uLs, lw_s]
    · have e2 : rwd f n (.inr j) = .inl (1, tj (pb f) n j) := if_neg kj
      have ep : pOld f n τ j = .inl (1, tj (pb f) n j) := if_neg kj
      rw [e2] at R2 ex2
      show am_w _ _ _ _ _ _ _ _ (am_K fun v h' => v = none ∧ mPo f n tv r lg s0 τ h h' (pOld f n τ j))
      rw [ep, show s2 9 = 6 from ex2.1]
      refine wp_icne (fun z => absurd rfl z) (fun _ => ?_)
      exact wp_vret (am_Kv ⟨R2, U2, frR_f fr⟩)
theorem m_readSound (R : mRS f n tv r lg s0 h (.inr i)) (U : mu h r τ) (hr : 66 ≤ r) (q : lt_q τ) (hk : tkK (pb f) n i = 1) {b : Nat} : am_mv xs L (d + 3) 208 [.ref 58, .int (nI b)] h (fun h' => mPo f n tv r lg s0 τ h h' (bindR (pGate f n τ 6 6 i) (pHea f n τ b))) := by
  obtain ⟨s, wd, hq⟩ := mRS_r R
  obtain ⟨fs, xo⟩ := mu_o U
  have A := q.1
  obtain ⟨a0, a1, a2, a3, a4, a5, a6, a7⟩ := id A
  refine kg_208 ?_
  repeat (first | refine wp_aload rfl rfl ?_ | refine wp_iload rfl ?_ | refine wp_ic ?_ | refine wp_g15 (by assumption) ?_ | refine wp_g16 (by assumption) ?_ | refine wp_g17 (by assumption) ?_ | refine wp_g3 (by assumption) ?_ | refine wp_get (by assumption) rfl ?_ | refine wp_icm ?_ | refine wp_istore (by simp only [am_st1_0, am_st1_1, am_st1_s, am_clr_n, am_clr_i, am_clr_r, am_clr_f, am_clr_u, am_clr_j, Nat.reduceAdd]; rfl) ?_ | refine wp_iadd ?_ | refine wp_iinc rfl (by simp only [am_st1_0, am_st1_1, am_st1_s, am_clr_n, am_clr_i, am_clr_r, am_clr_f, am_clr_u, am_clr_j, Nat.reduceAdd]; rfl) ?_ | refine wp_lload rfl ?_ | refine wp_goto ?_ | refine wp_ishl ?_ | refine wp_iand ?_ | refine wp_isub ?_ | refine wp_ior ?_ | refine wp_dup_ref ?_ | refine wp_dup_int ?_ | refine wp_lc ?_ | refine wp_imul ?_ | refine wp_lstore (by simp only [am_st2_e, am_st1_0, am_st1_1, am_st1_s, am_clr_n, am_clr_i, am_clr_r, am_clr_f, am_clr_u, am_clr_j, Nat.reduceAdd, List.set_cons_zero, List.set_cons_succ]; rfl) ?_ | refine wp_lcmp ?_ | refine wp_ixor ?_ | refine wp_astore (by simp only [am_st1_0, am_st1_1, am_st1_s, am_clr_n, am_clr_i, am_clr_r, am_clr_f, am_clr_u, am_clr_j, Nat.reduceAdd]; rfl) ?_ | refine wp_i2l ?_ | refine wp_l2i ?_ | refine wp_land ?_ | refine wp_iushr ?_ | refine wp_ishr ?_ | refine wp_ladd ?_ | refine wp_lmul ?_ | refine wp_lshr ?_ | refine wp_lushr ?_ | refine wp_lshl ?_ | refine wp_lsub ?_ | refine wp_lor ?_ | refine wp_i2b ?_ | refine wp_iincm rfl (by simp only [am_st1_0, am_st1_1, am_st1_s, am_clr_n, am_clr_i, am_clr_r, am_clr_f, am_clr_u, am_clr_j, Nat.reduceAdd]; rfl) ?_ | refine wp_dup2 ?_ | refine wp_ldcs ?_)
  refine kv_198 hq (m_lineBegins R U hr A.1 (fun j e => by cases e; exact hk) (many := τ.1 6) (most := 6) (by omega) (by decide)) (Nat.le_of_ble_eq_true rfl) (fun h9 hz9 => ?_)
  obtain ⟨R1, fr1⟩ := hz9
  rw [rlb_gate q (by decide) a6 (by decide)] at R1
  generalize hx1 : pGate f n τ 6 6 i = x1 at R1 ⊢
  obtain ⟨s1, wd1, hq1⟩ := mRS_r R1
  repeat (first | refine wp_aload rfl rfl ?_ | refine wp_iload rfl ?_ | refine wp_ic ?_ | refine wp_g15 (by assumption) ?_ | refine wp_g16 (by assumption) ?_ | refine wp_g17 (by assumption) ?_ | refine wp_g3 (by assumption) ?_ | refine wp_get (by assumption) rfl ?_ | refine wp_icm ?_ | refine wp_istore (by simp only [am_st1_0, am_st1_1, am_st1_s, am_clr_n, am_clr_i, am_clr_r, am_clr_f, am_clr_u, am_clr_j, Nat.reduceAdd]; rfl) ?_ | refine wp_iadd ?_ | refine wp_iinc rfl (by simp only [am_st1_0, am_st1_1, am_st1_s, am_clr_n, am_clr_i, am_clr_r, am_clr_f, am_clr_u, am_clr_j, Nat.reduceAdd]; rfl) ?_ | refine wp_lload rfl ?_ | refine wp_goto ?_ | refine wp_ishl ?_ | refine wp_iand ?_ | refine wp_isub ?_ | refine wp_ior ?_ | refine wp_dup_ref ?_ | refine wp_dup_int ?_ | refine wp_lc ?_ | refine wp_imul ?_ | refine wp_lstore (by simp only [am_st2_e, am_st1_0, am_st1_1, am_st1_s, am_clr_n, am_clr_i, am_clr_r, am_clr_f, am_clr_u, am_clr_j, Nat.reduceAdd, List.set_cons_zero, List.set_cons_succ]; rfl) ?_ | refine wp_lcmp ?_ | refine wp_ixor ?_ | refine wp_astore (by simp only [am_st1_0, am_st1_1, am_st1_s, am_clr_n, am_clr_i, am_clr_r, am_clr_f, am_clr_u, am_clr_j, Nat.reduceAdd]; rfl) ?_ | refine wp_i2l ?_ | refine wp_l2i ?_ | refine wp_land ?_ | refine wp_iushr ?_ | refine wp_ishr ?_ | refine wp_ladd ?_ | refine wp_lmul ?_ | refine wp_lshr ?_ | refine wp_lushr ?_ | refine wp_lshl ?_ | refine wp_lsub ?_ | refine wp_lor ?_ | refine wp_i2b ?_ | refine wp_iincm rfl (by simp only [am_st1_0, am_st1_1, am_st1_s, am_clr_n, am_clr_i, am_clr_r, am_clr_f, am_clr_u, am_clr_j, Nat.reduceAdd]; rfl) ?_ | refine wp_dup2 ?_ | refine wp_ldcs ?_)
  refine kv_206 hq1 (m_readWord R1) (Nat.le_of_ble_eq_true rfl) (fun z8 h8 hz8 => ?_)
  obtain ⟨hv, R2, fr2⟩ := hz8
  have fr := frm_tr fr1 fr2
  have U2 := mu_frm (h' := h8) U (fun k k1 k2 => fr.2.2 k (by omega))
  obtain ⟨s2, wd2, hq2, -, -, -, ex2⟩ := id R2
  repeat (first | refine wp_aload rfl rfl ?_ | refine wp_iload rfl ?_ | refine wp_ic ?_ | refine wp_g15 (by assumption) ?_ | refine wp_g16 (by assumption) ?_ | refine wp_g17 (by assumption) ?_ | refine wp_g3 (by assumption) ?_ | refine wp_get (by assumption) rfl ?_ | refine wp_icm ?_ | refine wp_istore (by simp only [am_st1_0, am_st1_1, am_st1_s, am_clr_n, am_clr_i, am_clr_r, am_clr_f, am_clr_u, am_clr_j, Nat.reduceAdd]; rfl) ?_ | refine wp_iadd ?_ | refine wp_iinc rfl (by simp only [am_st1_0, am_st1_1, am_st1_s, am_clr_n, am_clr_i, am_clr_r, am_clr_f, am_clr_u, am_clr_j, Nat.reduceAdd]; rfl) ?_ | refine wp_lload rfl ?_ | refine wp_goto ?_ | refine wp_ishl ?_ | refine wp_iand ?_ | refine wp_isub ?_ | refine wp_ior ?_ | refine wp_dup_ref ?_ | refine wp_dup_int ?_ | refine wp_lc ?_ | refine wp_imul ?_ | refine wp_lstore (by simp only [am_st2_e, am_st1_0, am_st1_1, am_st1_s, am_clr_n, am_clr_i, am_clr_r, am_clr_f, am_clr_u, am_clr_j, Nat.reduceAdd, List.set_cons_zero, List.set_cons_succ]; rfl) ?_ | refine wp_lcmp ?_ | refine wp_ixor ?_ | refine wp_astore (by simp only [am_st1_0, am_st1_1, am_st1_s, am_clr_n, am_clr_i, am_clr_r, am_clr_f, am_clr_u, am_clr_j, Nat.reduceAdd]; rfl) ?_ | refine wp_i2l ?_ | refine wp_l2i ?_ | refine wp_land ?_ | refine wp_iushr ?_ | refine wp_ishr ?_ | refine wp_ladd ?_ | refine wp_lmul ?_ | refine wp_lshr ?_ | refine wp_lushr ?_ | refine wp_lshl ?_ | refine wp_lsub ?_ | refine wp_lor ?_ | refine wp_i2b ?_ | refine wp_iincm rfl (by simp only [am_st1_0, am_st1_1, am_st1_s, am_clr_n, am_clr_i, am_clr_r, am_clr_f, am_clr_u, am_clr_j, Nat.reduceAdd]; rfl) ?_ | refine wp_dup2 ?_ | refine wp_ldcs ?_)
  cases x1 with
  | inl e =>
    rw [show s2 9 = 6 from ex2.1]
    refine wp_icne (fun z => absurd rfl z) (fun _ => ?_)
    exact wp_vret (am_Kv ⟨R2, U2, frR_f fr⟩)
  | inr j =>
    obtain ⟨-, hc, -⟩ := gate_r hx1
    by_cases kj : tkK (pb f) n j = 1
    · have e2 : rwd f n (.inr j) = .inr (tkX (pb f) n j) := if_pos kj
      have ep : pHea f n τ b j = .inr (tkX (pb f) n j, tHe τ (tkW (pb f) n j) b) := if_pos kj
      rw [e2] at R2 ex2
      have hv := hv j rfl kj
      subst hv
      show am_w _ _ _ _ _ _ _ _ (am_K fun v h' => v = none ∧ mPo f n tv r lg s0 τ h h' (pHea f n τ b j))
      rw [ep, ex2.1.2.1]
      refine wp_icne (fun _ => ?_) (fun z => absurd (Classical.not_not.mp z) (mkK_n6 tk_5))
      obtain ⟨fC, fP, fS, fN, fH, fO, fM, fQ, fL, fD, fZ, fA, fB, fI, C, ⟨f1, f2, f3, f4, f5, f6, f7⟩, nm⟩ := U2
      have j0 := C.1
      have j5 := C.2.2.2.2.2.1
      rw [ke_208_28]
      repeat (first | refine wp_aload rfl rfl ?_ | refine wp_iload rfl ?_ | refine wp_ic ?_ | refine wp_g15 (by assumption) ?_ | refine wp_g16 (by assumption) ?_ | refine wp_g17 (by assumption) ?_ | refine wp_g3 (by assumption) ?_ | refine wp_get (by assumption) rfl ?_ | refine wp_icm ?_ | refine wp_istore (by simp only [am_st1_0, am_st1_1, am_st1_s, am_clr_n, am_clr_i, am_clr_r, am_clr_f, am_clr_u, am_clr_j, Nat.reduceAdd]; rfl) ?_ | refine wp_iadd ?_ | refine wp_iinc rfl (by simp only [am_st1_0, am_st1_1, am_st1_s, am_clr_n, am_clr_i, am_clr_r, am_clr_f, am_clr_u, am_clr_j, Nat.reduceAdd]; rfl) ?_ | refine wp_lload rfl ?_ | refine wp_goto ?_ | refine wp_ishl ?_ | refine wp_iand ?_ | refine wp_isub ?_ | refine wp_ior ?_ | refine wp_dup_ref ?_ | refine wp_dup_int ?_ | refine wp_lc ?_ | refine wp_imul ?_ | refine wp_lstore (by simp only [am_st2_e, am_st1_0, am_st1_1, am_st1_s, am_clr_n, am_clr_i, am_clr_r, am_clr_f, am_clr_u, am_clr_j, Nat.reduceAdd, List.set_cons_zero, List.set_cons_succ]; rfl) ?_ | refine wp_lcmp ?_ | refine wp_ixor ?_ | refine wp_astore (by simp only [am_st1_0, am_st1_1, am_st1_s, am_clr_n, am_clr_i, am_clr_r, am_clr_f, am_clr_u, am_clr_j, Nat.reduceAdd]; rfl) ?_ | refine wp_i2l ?_ | refine wp_l2i ?_ | refine wp_land ?_ | refine wp_iushr ?_ | refine wp_ishr ?_ | refine wp_ladd ?_ | refine wp_lmul ?_ | refine wp_lshr ?_ | refine wp_lushr ?_ | refine wp_lshl ?_ | refine wp_lsub ?_ | refine wp_lor ?_ | refine wp_i2b ?_ | refine wp_iincm rfl (by simp only [am_st1_0, am_st1_1, am_st1_s, am_clr_n, am_clr_i, am_clr_r, am_clr_f, am_clr_u, am_clr_j, Nat.reduceAdd]; rfl) ?_ | refine wp_dup2 ?_ | refine wp_ldcs ?_)
      refine wp_lastN j5 (by omega) (by decide) ?_
      have C1 := mm5 C (vp_updL fH (τ.1 6) (nw_l (tkW (pb f) n j)))
      have i0 := C1.1
      have i11 := C1.2.2.2.2.2.2.2.2.2.2.2.1
      have hq3 := (am_gn h8 (k := r + 5) (j := 58) (.inl (1, 6, .inr (.inl (vp_updL fH (τ.1 6) (nw_l (tkW (pb f) n j)))))) (by omega)).trans hq2
      repeat (first | refine wp_aload rfl rfl ?_ | refine wp_iload rfl ?_ | refine wp_ic ?_ | refine wp_g15 (by assumption) ?_ | refine wp_g16 (by assumption) ?_ | refine wp_g17 (by assumption) ?_ | refine wp_g3 (by assumption) ?_ | refine wp_get (by assumption) rfl ?_ | refine wp_icm ?_ | refine wp_istore (by simp only [am_st1_0, am_st1_1, am_st1_s, am_clr_n, am_clr_i, am_clr_r, am_clr_f, am_clr_u, am_clr_j, Nat.reduceAdd]; rfl) ?_ | refine wp_iadd ?_ | refine wp_iinc rfl (by simp only [am_st1_0, am_st1_1, am_st1_s, am_clr_n, am_clr_i, am_clr_r, am_clr_f, am_clr_u, am_clr_j, Nat.reduceAdd]; rfl) ?_ | refine wp_lload rfl ?_ | refine wp_goto ?_ | refine wp_ishl ?_ | refine wp_iand ?_ | refine wp_isub ?_ | refine wp_ior ?_ | refine wp_dup_ref ?_ | refine wp_dup_int ?_ | refine wp_lc ?_ | refine wp_imul ?_ | refine wp_lstore (by simp only [am_st2_e, am_st1_0, am_st1_1, am_st1_s, am_clr_n, am_clr_i, am_clr_r, am_clr_f, am_clr_u, am_clr_j, Nat.reduceAdd, List.set_cons_zero, List.set_cons_succ]; rfl) ?_ | refine wp_lcmp ?_ | refine wp_ixor ?_ | refine wp_astore (by simp only [am_st1_0, am_st1_1, am_st1_s, am_clr_n, am_clr_i, am_clr_r, am_clr_f, am_clr_u, am_clr_j, Nat.reduceAdd]; rfl) ?_ | refine wp_i2l ?_ | refine wp_l2i ?_ | refine wp_land ?_ | refine wp_iushr ?_ | refine wp_ishr ?_ | refine wp_ladd ?_ | refine wp_lmul ?_ | refine wp_lshr ?_ | refine wp_lushr ?_ | refine wp_lshl ?_ | refine wp_lsub ?_ | refine wp_lor ?_ | refine wp_i2b ?_ | refine wp_iincm rfl (by simp only [am_st1_0, am_st1_1, am_st1_s, am_clr_n, am_clr_i, am_clr_r, am_clr_f, am_clr_u, am_clr_j, Nat.reduceAdd]; rfl) ?_ | refine wp_dup2 ?_ | refine wp_ldcs ?_)
      refine wp_iastN i11 (by omega) (by decide) ?_
      have C2 := mm11 C1 (upd fZ (τ.1 6) (nI b))
      have g0 := C2.1
      have hq4 := (am_gn (am_set h8 (r + 5) (.inl (1, 6, .inr (.inl (vp_updL fH (τ.1 6) (nw_l (tkW (pb f) n j))))))) (k := r + 11) (j := 58) (.inl (0, 6, .inl (upd fZ (τ.1 6) (nI b)))) (by omega)).trans hq3
      repeat (first | refine wp_aload rfl rfl ?_ | refine wp_iload rfl ?_ | refine wp_ic ?_ | refine wp_g15 (by assumption) ?_ | refine wp_g16 (by assumption) ?_ | refine wp_g17 (by assumption) ?_ | refine wp_g3 (by assumption) ?_ | refine wp_get (by assumption) rfl ?_ | refine wp_icm ?_ | refine wp_istore (by simp only [am_st1_0, am_st1_1, am_st1_s, am_clr_n, am_clr_i, am_clr_r, am_clr_f, am_clr_u, am_clr_j, Nat.reduceAdd]; rfl) ?_ | refine wp_iadd ?_ | refine wp_iinc rfl (by simp only [am_st1_0, am_st1_1, am_st1_s, am_clr_n, am_clr_i, am_clr_r, am_clr_f, am_clr_u, am_clr_j, Nat.reduceAdd]; rfl) ?_ | refine wp_lload rfl ?_ | refine wp_goto ?_ | refine wp_ishl ?_ | refine wp_iand ?_ | refine wp_isub ?_ | refine wp_ior ?_ | refine wp_dup_ref ?_ | refine wp_dup_int ?_ | refine wp_lc ?_ | refine wp_imul ?_ | refine wp_lstore (by simp only [am_st2_e, am_st1_0, am_st1_1, am_st1_s, am_clr_n, am_clr_i, am_clr_r, am_clr_f, am_clr_u, am_clr_j, Nat.reduceAdd, List.set_cons_zero, List.set_cons_succ]; rfl) ?_ | refine wp_lcmp ?_ | refine wp_ixor ?_ | refine wp_astore (by simp only [am_st1_0, am_st1_1, am_st1_s, am_clr_n, am_clr_i, am_clr_r, am_clr_f, am_clr_u, am_clr_j, Nat.reduceAdd]; rfl) ?_ | refine wp_i2l ?_ | refine wp_l2i ?_ | refine wp_land ?_ | refine wp_iushr ?_ | refine wp_ishr ?_ | refine wp_ladd ?_ | refine wp_lmul ?_ | refine wp_lshr ?_ | refine wp_lushr ?_ | refine wp_lshl ?_ | refine wp_lsub ?_ | refine wp_lor ?_ | refine wp_i2b ?_ | refine wp_iincm rfl (by simp only [am_st1_0, am_st1_1, am_st1_s, am_clr_n, am_clr_i, am_clr_r, am_clr_f, am_clr_u, am_clr_j, Nat.reduceAdd]; rfl) ?_ | refine wp_dup2 ?_ | refine wp_ldcs ?_)
      rw [nI_1]
      refine wp_put g0 (Nat.le_of_ble_eq_true rfl) rfl (fs2 := muO r (tHe τ (tkW (pb f) n j) b) (nI (τ.1 1 + τ.1 2))) rfl ?_
      have C3 := mm0 C2 (tHe τ (tkW (pb f) n j) b) (nI (τ.1 1 + τ.1 2))
      refine wp_vret (am_Kv ⟨mRS_u R2 hr (frm_st (frm_st (frm_set (by omega)) (by omega)) (by omega)), ⟨_, _, _, _, _, _, _, _, _, _, _, _, _, _, C3, ⟨f1, f2, f3, f4, f5, ?_, f7⟩, nm⟩, frR_st (frR_st (frR_st (frR_f fr) (by omega)) (by omega)) (by omega)⟩)
      refine all_add (n := τ.1 6) (P := fun k => vp_updL fH (τ.1 6) (nw_l (tkW (pb f) n j)) k = nw_l (lw τ 4 (τ.1 6) (tkW (pb f) n j) 4 k) ∧ upd fZ (τ.1 6) (nI b) k = nI (lv τ 6 (τ.1 6) b 6 k)) (fun k hk => ?_) ?_
      · rw [pk_uLn (by omega), pk_un (by omega), lw_n (by omega), lv_n (by omega)]; exact f6 k hk
      · rw [pk_uLs, pk_us, lw_s, lv_s]; exact ⟨rfl, rfl⟩
    · have e2 : rwd f n (.inr j) = .inl (1, tj (pb f) n j) := if_neg kj
      have ep : pHea f n τ b j = .inl (1, tj (pb f) n j) := if_neg kj
      rw [e2] at R2 ex2
      show am_w _ _ _ _ _ _ _ _ (am_K fun v h' => v = none ∧ mPo f n tv r lg s0 τ h h' (pHea f n τ b j))
      rw [ep, show s2 9 = 6 from ex2.1]
      refine wp_icne (fun z => absurd rfl z) (fun _ => ?_)
      exact wp_vret (am_Kv ⟨R2, U2, frR_f fr⟩)
/-- a name more -/
theorem m_names (hq : ∃ s wd, h.2.2 58 = some (.inr (8, mo 58 s tv (.ref r) wd lg))) (hr : 66 ≤ r) {m : Nat} (C : mt_c h r τ (nI m) fC fP fS fN fH fO fM fQ fL fD fZ fA fB fI) (hm : m < 11) {w : Int64} {b j : Int32} : am_mv xs L d 201 [.ref 58, .long w, .int b, .int j] h (fun h' => mt_c h' r τ (nI (m + 1)) fC fP fS fN fH fO fM fQ fL fD fZ (vp_updL fA m w) (upd fB m b) (upd fI m j) ∧ frm r (r + 14) h h') := by
  obtain ⟨s, wd, hq⟩ := hq
  have j0 := C.1
  have j12 := C.2.2.2.2.2.2.2.2.2.2.2.2.1
  refine kg_201 ?_
  repeat (first | refine wp_aload rfl rfl ?_ | refine wp_iload rfl ?_ | refine wp_ic ?_ | refine wp_g15 (by assumption) ?_ | refine wp_g16 (by assumption) ?_ | refine wp_g17 (by assumption) ?_ | refine wp_g3 (by assumption) ?_ | refine wp_get (by assumption) rfl ?_ | refine wp_icm ?_ | refine wp_istore (by simp only [am_st1_0, am_st1_1, am_st1_s, am_clr_n, am_clr_i, am_clr_r, am_clr_f, am_clr_u, am_clr_j, Nat.reduceAdd]; rfl) ?_ | refine wp_iadd ?_ | refine wp_iinc rfl (by simp only [am_st1_0, am_st1_1, am_st1_s, am_clr_n, am_clr_i, am_clr_r, am_clr_f, am_clr_u, am_clr_j, Nat.reduceAdd]; rfl) ?_ | refine wp_lload rfl ?_ | refine wp_goto ?_ | refine wp_ishl ?_ | refine wp_iand ?_ | refine wp_isub ?_ | refine wp_ior ?_ | refine wp_dup_ref ?_ | refine wp_dup_int ?_ | refine wp_lc ?_ | refine wp_imul ?_ | refine wp_lstore (by simp only [am_st2_e, am_st1_0, am_st1_1, am_st1_s, am_clr_n, am_clr_i, am_clr_r, am_clr_f, am_clr_u, am_clr_j, Nat.reduceAdd, List.set_cons_zero, List.set_cons_succ]; rfl) ?_ | refine wp_lcmp ?_ | refine wp_ixor ?_ | refine wp_astore (by simp only [am_st1_0, am_st1_1, am_st1_s, am_clr_n, am_clr_i, am_clr_r, am_clr_f, am_clr_u, am_clr_j, Nat.reduceAdd]; rfl) ?_ | refine wp_i2l ?_ | refine wp_l2i ?_ | refine wp_land ?_ | refine wp_iushr ?_ | refine wp_ishr ?_ | refine wp_ladd ?_ | refine wp_lmul ?_ | refine wp_lshr ?_ | refine wp_lushr ?_ | refine wp_lshl ?_ | refine wp_lsub ?_ | refine wp_lor ?_ | refine wp_i2b ?_ | refine wp_iincm rfl (by simp only [am_st1_0, am_st1_1, am_st1_s, am_clr_n, am_clr_i, am_clr_r, am_clr_f, am_clr_u, am_clr_j, Nat.reduceAdd]; rfl) ?_ | refine wp_dup2 ?_ | refine wp_ldcs ?_)
  refine wp_lastN j12 hm (by decide) ?_
  have C1 := mm12 C (vp_updL fA m w)
  have i0 := C1.1
  have i13 := C1.2.2.2.2.2.2.2.2.2.2.2.2.2.1
  have hq2 := (am_gn h (k := r + 12) (j := 58) (.inl (1, 11, .inr (.inl (vp_updL fA m w)))) (by omega)).trans hq
  repeat (first | refine wp_aload rfl rfl ?_ | refine wp_iload rfl ?_ | refine wp_ic ?_ | refine wp_g15 (by assumption) ?_ | refine wp_g16 (by assumption) ?_ | refine wp_g17 (by assumption) ?_ | refine wp_g3 (by assumption) ?_ | refine wp_get (by assumption) rfl ?_ | refine wp_icm ?_ | refine wp_istore (by simp only [am_st1_0, am_st1_1, am_st1_s, am_clr_n, am_clr_i, am_clr_r, am_clr_f, am_clr_u, am_clr_j, Nat.reduceAdd]; rfl) ?_ | refine wp_iadd ?_ | refine wp_iinc rfl (by simp only [am_st1_0, am_st1_1, am_st1_s, am_clr_n, am_clr_i, am_clr_r, am_clr_f, am_clr_u, am_clr_j, Nat.reduceAdd]; rfl) ?_ | refine wp_lload rfl ?_ | refine wp_goto ?_ | refine wp_ishl ?_ | refine wp_iand ?_ | refine wp_isub ?_ | refine wp_ior ?_ | refine wp_dup_ref ?_ | refine wp_dup_int ?_ | refine wp_lc ?_ | refine wp_imul ?_ | refine wp_lstore (by simp only [am_st2_e, am_st1_0, am_st1_1, am_st1_s, am_clr_n, am_clr_i, am_clr_r, am_clr_f, am_clr_u, am_clr_j, Nat.reduceAdd, List.set_cons_zero, List.set_cons_succ]; rfl) ?_ | refine wp_lcmp ?_ | refine wp_ixor ?_ | refine wp_astore (by simp only [am_st1_0, am_st1_1, am_st1_s, am_clr_n, am_clr_i, am_clr_r, am_clr_f, am_clr_u, am_clr_j, Nat.reduceAdd]; rfl) ?_ | refine wp_i2l ?_ | refine wp_l2i ?_ | refine wp_land ?_ | refine wp_iushr ?_ | refine wp_ishr ?_ | refine wp_ladd ?_ | refine wp_lmul ?_ | refine wp_lshr ?_ | refine wp_lushr ?_ | refine wp_lshl ?_ | refine wp_lsub ?_ | refine wp_lor ?_ | refine wp_i2b ?_ | refine wp_iincm rfl (by simp only [am_st1_0, am_st1_1, am_st1_s, am_clr_n, am_clr_i, am_clr_r, am_clr_f, am_clr_u, am_clr_j, Nat.reduceAdd]; rfl) ?_ | refine wp_dup2 ?_ | refine wp_ldcs ?_)
  refine wp_iastN i13 hm (by decide) ?_
  have C2 := mm13 C1 (upd fB m b)
  have g0 := C2.1
  have g14 := C2.2.2.2.2.2.2.2.2.2.2.2.2.2.2
  have hq3 := (am_gn (am_set h (r + 12) (.inl (1, 11, .inr (.inl (vp_updL fA m w))))) (k := r + 13) (j := 58) (.inl (0, 11, .inl (upd fB m b))) (by omega)).trans hq2
  repeat (first | refine wp_aload rfl rfl ?_ | refine wp_iload rfl ?_ | refine wp_ic ?_ | refine wp_g15 (by assumption) ?_ | refine wp_g16 (by assumption) ?_ | refine wp_g17 (by assumption) ?_ | refine wp_g3 (by assumption) ?_ | refine wp_get (by assumption) rfl ?_ | refine wp_icm ?_ | refine wp_istore (by simp only [am_st1_0, am_st1_1, am_st1_s, am_clr_n, am_clr_i, am_clr_r, am_clr_f, am_clr_u, am_clr_j, Nat.reduceAdd]; rfl) ?_ | refine wp_iadd ?_ | refine wp_iinc rfl (by simp only [am_st1_0, am_st1_1, am_st1_s, am_clr_n, am_clr_i, am_clr_r, am_clr_f, am_clr_u, am_clr_j, Nat.reduceAdd]; rfl) ?_ | refine wp_lload rfl ?_ | refine wp_goto ?_ | refine wp_ishl ?_ | refine wp_iand ?_ | refine wp_isub ?_ | refine wp_ior ?_ | refine wp_dup_ref ?_ | refine wp_dup_int ?_ | refine wp_lc ?_ | refine wp_imul ?_ | refine wp_lstore (by simp only [am_st2_e, am_st1_0, am_st1_1, am_st1_s, am_clr_n, am_clr_i, am_clr_r, am_clr_f, am_clr_u, am_clr_j, Nat.reduceAdd, List.set_cons_zero, List.set_cons_succ]; rfl) ?_ | refine wp_lcmp ?_ | refine wp_ixor ?_ | refine wp_astore (by simp only [am_st1_0, am_st1_1, am_st1_s, am_clr_n, am_clr_i, am_clr_r, am_clr_f, am_clr_u, am_clr_j, Nat.reduceAdd]; rfl) ?_ | refine wp_i2l ?_ | refine wp_l2i ?_ | refine wp_land ?_ | refine wp_iushr ?_ | refine wp_ishr ?_ | refine wp_ladd ?_ | refine wp_lmul ?_ | refine wp_lshr ?_ | refine wp_lushr ?_ | refine wp_lshl ?_ | refine wp_lsub ?_ | refine wp_lor ?_ | refine wp_i2b ?_ | refine wp_iincm rfl (by simp only [am_st1_0, am_st1_1, am_st1_s, am_clr_n, am_clr_i, am_clr_r, am_clr_f, am_clr_u, am_clr_j, Nat.reduceAdd]; rfl) ?_ | refine wp_dup2 ?_ | refine wp_ldcs ?_)
  refine wp_iastN g14 hm (by decide) ?_
  have C3 := mm14 C2 (upd fI m j)
  have k0 := C3.1
  have hq4 := (am_gn (am_set (am_set h (r + 12) (.inl (1, 11, .inr (.inl (vp_updL fA m w))))) (r + 13) (.inl (0, 11, .inl (upd fB m b)))) (k := r + 14) (j := 58) (.inl (0, 11, .inl (upd fI m j))) (by omega)).trans hq3
  repeat (first | refine wp_aload rfl rfl ?_ | refine wp_iload rfl ?_ | refine wp_ic ?_ | refine wp_g15 (by assumption) ?_ | refine wp_g16 (by assumption) ?_ | refine wp_g17 (by assumption) ?_ | refine wp_g3 (by assumption) ?_ | refine wp_get (by assumption) rfl ?_ | refine wp_icm ?_ | refine wp_istore (by simp only [am_st1_0, am_st1_1, am_st1_s, am_clr_n, am_clr_i, am_clr_r, am_clr_f, am_clr_u, am_clr_j, Nat.reduceAdd]; rfl) ?_ | refine wp_iadd ?_ | refine wp_iinc rfl (by simp only [am_st1_0, am_st1_1, am_st1_s, am_clr_n, am_clr_i, am_clr_r, am_clr_f, am_clr_u, am_clr_j, Nat.reduceAdd]; rfl) ?_ | refine wp_lload rfl ?_ | refine wp_goto ?_ | refine wp_ishl ?_ | refine wp_iand ?_ | refine wp_isub ?_ | refine wp_ior ?_ | refine wp_dup_ref ?_ | refine wp_dup_int ?_ | refine wp_lc ?_ | refine wp_imul ?_ | refine wp_lstore (by simp only [am_st2_e, am_st1_0, am_st1_1, am_st1_s, am_clr_n, am_clr_i, am_clr_r, am_clr_f, am_clr_u, am_clr_j, Nat.reduceAdd, List.set_cons_zero, List.set_cons_succ]; rfl) ?_ | refine wp_lcmp ?_ | refine wp_ixor ?_ | refine wp_astore (by simp only [am_st1_0, am_st1_1, am_st1_s, am_clr_n, am_clr_i, am_clr_r, am_clr_f, am_clr_u, am_clr_j, Nat.reduceAdd]; rfl) ?_ | refine wp_i2l ?_ | refine wp_l2i ?_ | refine wp_land ?_ | refine wp_iushr ?_ | refine wp_ishr ?_ | refine wp_ladd ?_ | refine wp_lmul ?_ | refine wp_lshr ?_ | refine wp_lushr ?_ | refine wp_lshl ?_ | refine wp_lsub ?_ | refine wp_lor ?_ | refine wp_i2b ?_ | refine wp_iincm rfl (by simp only [am_st1_0, am_st1_1, am_st1_s, am_clr_n, am_clr_i, am_clr_r, am_clr_f, am_clr_u, am_clr_j, Nat.reduceAdd]; rfl) ?_ | refine wp_dup2 ?_ | refine wp_ldcs ?_)
  rw [nI_1]
  refine wp_put k0 (Nat.le_of_ble_eq_true rfl) rfl (fs2 := muO r τ (nI (m + 1))) rfl ?_
  exact wp_vret (am_Kv ⟨mm0 C3 τ (nI (m + 1)), frm_st (frm_st (frm_st (frm_set (by omega)) (by omega)) (by omega)) (by omega)⟩)
theorem nmr_tTh (R : nmr τ fA fB fI) {w : List Nat} : nmr (tTh τ w) (vp_updL fA (τ.1 1 + τ.1 2) (nw_l w)) (upd fB (τ.1 1 + τ.1 2) 0) (upd fI (τ.1 1 + τ.1 2) (nI (τ.1 1))) := by
  obtain ⟨R1, R2, R3⟩ := R
  refine ⟨fun k hk => ?_, fun j hj => ?_, fun j hj => ?_⟩
  · have hk : k < τ.1 1 + 1 + τ.1 2 := hk
    show (upd fB (τ.1 1 + τ.1 2) 0 k = 0 ∧ ∃ j, j < τ.1 1 + 1 ∧ upd fI (τ.1 1 + τ.1 2) (nI (τ.1 1)) k = nI j ∧ vp_updL fA (τ.1 1 + τ.1 2) (nw_l w) k = nw_l (lw τ 0 (τ.1 1) w 0 j)) ∨ (upd fB (τ.1 1 + τ.1 2) 0 k = 1 ∧ ∃ j, j < τ.1 2 ∧ upd fI (τ.1 1 + τ.1 2) (nI (τ.1 1)) k = nI j ∧ vp_updL fA (τ.1 1 + τ.1 2) (nw_l w) k = nw_l (τ.2.1 1 j))
    by_cases e : k = τ.1 1 + τ.1 2
    · subst e
      rw [pk_us, pk_us, pk_uLs]
      exact Or.inl ⟨rfl, τ.1 1, by omega, rfl, by rw [lw_s]⟩
    · rw [pk_un e, pk_un e, pk_uLn e]
      rcases R1 k (by omega) with ⟨b0, j, hj, ei, ea⟩ | ⟨b1, j, hj, ei, ea⟩
      · exact Or.inl ⟨b0, j, by omega, ei, by rw [lw_n (by omega)]; exact ea⟩
      · exact Or.inr ⟨b1, j, hj, ei, ea⟩
  · have hj : j < τ.1 1 + 1 := hj
    show ∃ k, k < τ.1 1 + 1 + τ.1 2 ∧ vp_updL fA (τ.1 1 + τ.1 2) (nw_l w) k = nw_l (lw τ 0 (τ.1 1) w 0 j)
    by_cases e : j = τ.1 1
    · subst e
      exact ⟨τ.1 1 + τ.1 2, by omega, by rw [pk_uLs, lw_s]⟩
    · obtain ⟨k, hk, ek⟩ := R2 j (by omega)
      exact ⟨k, by omega, by rw [pk_uLn (by omega), lw_n e]; exact ek⟩
  · obtain ⟨k, hk, ek⟩ := R3 j hj
    show ∃ k, k < τ.1 1 + 1 + τ.1 2 ∧ vp_updL fA (τ.1 1 + τ.1 2) (nw_l w) k = nw_l (τ.2.1 1 j)
    exact ⟨k, by omega, by rw [pk_uLn (by omega)]; exact ek⟩
theorem nmr_tSa (R : nmr τ fA fB fI) {w ps : List Nat} : nmr (tSa τ w ps) (vp_updL fA (τ.1 1 + τ.1 2) (nw_l w)) (upd fB (τ.1 1 + τ.1 2) 1) (upd fI (τ.1 1 + τ.1 2) (nI (τ.1 2))) := by
  obtain ⟨R1, R2, R3⟩ := R
  refine ⟨fun k hk => ?_, fun j hj => ?_, fun j hj => ?_⟩
  · have hk : k < τ.1 1 + (τ.1 2 + 1) := hk
    show (upd fB (τ.1 1 + τ.1 2) 1 k = 0 ∧ ∃ j, j < τ.1 1 ∧ upd fI (τ.1 1 + τ.1 2) (nI (τ.1 2)) k = nI j ∧ vp_updL fA (τ.1 1 + τ.1 2) (nw_l w) k = nw_l (τ.2.1 0 j)) ∨ (upd fB (τ.1 1 + τ.1 2) 1 k = 1 ∧ ∃ j, j < τ.1 2 + 1 ∧ upd fI (τ.1 1 + τ.1 2) (nI (τ.1 2)) k = nI j ∧ vp_updL fA (τ.1 1 + τ.1 2) (nw_l w) k = nw_l (lw τ 1 (τ.1 2) w 1 j))
    by_cases e : k = τ.1 1 + τ.1 2
    · subst e
      rw [pk_us, pk_us, pk_uLs]
      exact Or.inr ⟨rfl, τ.1 2, by omega, rfl, by rw [lw_s]⟩
    · rw [pk_un e, pk_un e, pk_uLn e]
      rcases R1 k (by omega) with ⟨b0, j, hj, ei, ea⟩ | ⟨b1, j, hj, ei, ea⟩
      · exact Or.inl ⟨b0, j, hj, ei, ea⟩
      · exact Or.inr ⟨b1, j, by omega, ei, by rw [lw_n (by omega)]; exact ea⟩
  · obtain ⟨k, hk, ek⟩ := R2 j hj
    show ∃ k, k < τ.1 1 + (τ.1 2 + 1) ∧ vp_updL fA (τ.1 1 + τ.1 2) (nw_l w) k = nw_l (τ.2.1 0 j)
    exact ⟨k, by omega, by rw [pk_uLn (by omega)]; exact ek⟩
  · have hj : j < τ.1 2 + 1 := hj
    show ∃ k, k < τ.1 1 + (τ.1 2 + 1) ∧ vp_updL fA (τ.1 1 + τ.1 2) (nw_l w) k = nw_l (lw τ 1 (τ.1 2) w 1 j)
    by_cases e : j = τ.1 2
    · subst e
      exact ⟨τ.1 1 + τ.1 2, by omega, by rw [pk_uLs, lw_s]⟩
    · obtain ⟨k, hk, ek⟩ := R3 j (by omega)
      exact ⟨k, by omega, by rw [pk_uLn (by omega), lw_n e]; exact ek⟩
theorem m_readThing (R : mRS f n tv r lg s0 h (.inr i)) (U : mu h r τ) (hr : 66 ≤ r) (q : lt_q τ) (hk : tkK (pb f) n i = 1) : am_mv xs L (d + 7) 197 [.ref 58] h (fun h' => mPo f n tv r lg s0 τ h h' (bindR (pGate f n τ 1 6 i) (pThg f n τ))) := by
  obtain ⟨s, wd, hq⟩ := mRS_r R
  obtain ⟨fs, xo⟩ := mu_o U
  have A := q.1
  obtain ⟨a0, a1, a2, a3, a4, a5, a6, a7⟩ := id A
  refine kg_197 ?_
  repeat (first | refine wp_aload rfl rfl ?_ | refine wp_iload rfl ?_ | refine wp_ic ?_ | refine wp_g15 (by assumption) ?_ | refine wp_g16 (by assumption) ?_ | refine wp_g17 (by assumption) ?_ | refine wp_g3 (by assumption) ?_ | refine wp_get (by assumption) rfl ?_ | refine wp_icm ?_ | refine wp_istore (by simp only [am_st1_0, am_st1_1, am_st1_s, am_clr_n, am_clr_i, am_clr_r, am_clr_f, am_clr_u, am_clr_j, Nat.reduceAdd]; rfl) ?_ | refine wp_iadd ?_ | refine wp_iinc rfl (by simp only [am_st1_0, am_st1_1, am_st1_s, am_clr_n, am_clr_i, am_clr_r, am_clr_f, am_clr_u, am_clr_j, Nat.reduceAdd]; rfl) ?_ | refine wp_lload rfl ?_ | refine wp_goto ?_ | refine wp_ishl ?_ | refine wp_iand ?_ | refine wp_isub ?_ | refine wp_ior ?_ | refine wp_dup_ref ?_ | refine wp_dup_int ?_ | refine wp_lc ?_ | refine wp_imul ?_ | refine wp_lstore (by simp only [am_st2_e, am_st1_0, am_st1_1, am_st1_s, am_clr_n, am_clr_i, am_clr_r, am_clr_f, am_clr_u, am_clr_j, Nat.reduceAdd, List.set_cons_zero, List.set_cons_succ]; rfl) ?_ | refine wp_lcmp ?_ | refine wp_ixor ?_ | refine wp_astore (by simp only [am_st1_0, am_st1_1, am_st1_s, am_clr_n, am_clr_i, am_clr_r, am_clr_f, am_clr_u, am_clr_j, Nat.reduceAdd]; rfl) ?_ | refine wp_i2l ?_ | refine wp_l2i ?_ | refine wp_land ?_ | refine wp_iushr ?_ | refine wp_ishr ?_ | refine wp_ladd ?_ | refine wp_lmul ?_ | refine wp_lshr ?_ | refine wp_lushr ?_ | refine wp_lshl ?_ | refine wp_lsub ?_ | refine wp_lor ?_ | refine wp_i2b ?_ | refine wp_iincm rfl (by simp only [am_st1_0, am_st1_1, am_st1_s, am_clr_n, am_clr_i, am_clr_r, am_clr_f, am_clr_u, am_clr_j, Nat.reduceAdd]; rfl) ?_ | refine wp_dup2 ?_ | refine wp_ldcs ?_)
  refine kv_198 hq (m_lineBegins R U hr A.1 (fun j e => by cases e; exact hk) (many := τ.1 1) (most := 6) (by omega) (by decide)) (Nat.le_of_ble_eq_true rfl) (fun h9 hz9 => ?_)
  obtain ⟨R1, fr1⟩ := hz9
  rw [rlb_gate q (by decide) a1 (by decide)] at R1
  generalize hx1 : pGate f n τ 1 6 i = x1 at R1 ⊢
  obtain ⟨s1, wd1, hq1⟩ := mRS_r R1
  have U1 := mu_frm (h' := h9) U (fun k k1 k2 => fr1.2.2 k (by omega))
  repeat (first | refine wp_aload rfl rfl ?_ | refine wp_iload rfl ?_ | refine wp_ic ?_ | refine wp_g15 (by assumption) ?_ | refine wp_g16 (by assumption) ?_ | refine wp_g17 (by assumption) ?_ | refine wp_g3 (by assumption) ?_ | refine wp_get (by assumption) rfl ?_ | refine wp_icm ?_ | refine wp_istore (by simp only [am_st1_0, am_st1_1, am_st1_s, am_clr_n, am_clr_i, am_clr_r, am_clr_f, am_clr_u, am_clr_j, Nat.reduceAdd]; rfl) ?_ | refine wp_iadd ?_ | refine wp_iinc rfl (by simp only [am_st1_0, am_st1_1, am_st1_s, am_clr_n, am_clr_i, am_clr_r, am_clr_f, am_clr_u, am_clr_j, Nat.reduceAdd]; rfl) ?_ | refine wp_lload rfl ?_ | refine wp_goto ?_ | refine wp_ishl ?_ | refine wp_iand ?_ | refine wp_isub ?_ | refine wp_ior ?_ | refine wp_dup_ref ?_ | refine wp_dup_int ?_ | refine wp_lc ?_ | refine wp_imul ?_ | refine wp_lstore (by simp only [am_st2_e, am_st1_0, am_st1_1, am_st1_s, am_clr_n, am_clr_i, am_clr_r, am_clr_f, am_clr_u, am_clr_j, Nat.reduceAdd, List.set_cons_zero, List.set_cons_succ]; rfl) ?_ | refine wp_lcmp ?_ | refine wp_ixor ?_ | refine wp_astore (by simp only [am_st1_0, am_st1_1, am_st1_s, am_clr_n, am_clr_i, am_clr_r, am_clr_f, am_clr_u, am_clr_j, Nat.reduceAdd]; rfl) ?_ | refine wp_i2l ?_ | refine wp_l2i ?_ | refine wp_land ?_ | refine wp_iushr ?_ | refine wp_ishr ?_ | refine wp_ladd ?_ | refine wp_lmul ?_ | refine wp_lshr ?_ | refine wp_lushr ?_ | refine wp_lshl ?_ | refine wp_lsub ?_ | refine wp_lor ?_ | refine wp_i2b ?_ | refine wp_iincm rfl (by simp only [am_st1_0, am_st1_1, am_st1_s, am_clr_n, am_clr_i, am_clr_r, am_clr_f, am_clr_u, am_clr_j, Nat.reduceAdd]; rfl) ?_ | refine wp_dup2 ?_ | refine wp_ldcs ?_)
  refine kv_199 hq1 (m_readFresh R1 U1 hr q) (Nat.le_of_ble_eq_true rfl) (fun z8 h8 hz8 => ?_)
  obtain ⟨hv, R2, fr2⟩ := hz8
  have fr := frm_tr fr1 fr2
  have U2 := mu_frm (h' := h8) U (fun k k1 k2 => fr.2.2 k (by omega))
  obtain ⟨s2, wd2, hq2, -, -, -, ex2⟩ := id R2
  repeat (first | refine wp_aload rfl rfl ?_ | refine wp_iload rfl ?_ | refine wp_ic ?_ | refine wp_g15 (by assumption) ?_ | refine wp_g16 (by assumption) ?_ | refine wp_g17 (by assumption) ?_ | refine wp_g3 (by assumption) ?_ | refine wp_get (by assumption) rfl ?_ | refine wp_icm ?_ | refine wp_istore (by simp only [am_st1_0, am_st1_1, am_st1_s, am_clr_n, am_clr_i, am_clr_r, am_clr_f, am_clr_u, am_clr_j, Nat.reduceAdd]; rfl) ?_ | refine wp_iadd ?_ | refine wp_iinc rfl (by simp only [am_st1_0, am_st1_1, am_st1_s, am_clr_n, am_clr_i, am_clr_r, am_clr_f, am_clr_u, am_clr_j, Nat.reduceAdd]; rfl) ?_ | refine wp_lload rfl ?_ | refine wp_goto ?_ | refine wp_ishl ?_ | refine wp_iand ?_ | refine wp_isub ?_ | refine wp_ior ?_ | refine wp_dup_ref ?_ | refine wp_dup_int ?_ | refine wp_lc ?_ | refine wp_imul ?_ | refine wp_lstore (by simp only [am_st2_e, am_st1_0, am_st1_1, am_st1_s, am_clr_n, am_clr_i, am_clr_r, am_clr_f, am_clr_u, am_clr_j, Nat.reduceAdd, List.set_cons_zero, List.set_cons_succ]; rfl) ?_ | refine wp_lcmp ?_ | refine wp_ixor ?_ | refine wp_astore (by simp only [am_st1_0, am_st1_1, am_st1_s, am_clr_n, am_clr_i, am_clr_r, am_clr_f, am_clr_u, am_clr_j, Nat.reduceAdd]; rfl) ?_ | refine wp_i2l ?_ | refine wp_l2i ?_ | refine wp_land ?_ | refine wp_iushr ?_ | refine wp_ishr ?_ | refine wp_ladd ?_ | refine wp_lmul ?_ | refine wp_lshr ?_ | refine wp_lushr ?_ | refine wp_lshl ?_ | refine wp_lsub ?_ | refine wp_lor ?_ | refine wp_i2b ?_ | refine wp_iincm rfl (by simp only [am_st1_0, am_st1_1, am_st1_s, am_clr_n, am_clr_i, am_clr_r, am_clr_f, am_clr_u, am_clr_j, Nat.reduceAdd]; rfl) ?_ | refine wp_dup2 ?_ | refine wp_ldcs ?_)
  cases x1 with
  | inl e =>
    rw [show s2 9 = 6 from ex2.1]
    refine wp_icne (fun z => absurd rfl z) (fun _ => ?_)
    exact wp_vret (am_Kv ⟨R2, U2, frR_f fr⟩)
  | inr j =>
    obtain ⟨-, hc, -⟩ := gate_r hx1
    show am_w _ _ _ _ _ _ _ _ (am_K fun v h' => v = none ∧ mPo f n tv r lg s0 τ h h' (pThg f n τ j))
    have R2 : mRS f n tv r lg s0 h8 (rfr f n τ j) := R2
    unfold pThg
    generalize hx2 : rfr f n τ j = x2 at R2 ⊢
    rw [show rfrS f n τ (.inr j) = rfr f n τ j from rfl, hx2] at ex2
    cases x2 with
    | inl e =>
      rw [show s2 9 = 6 from ex2.1]
      refine wp_icne (fun z => absurd rfl z) (fun _ => ?_)
      exact wp_vret (am_Kv ⟨R2, U2, frR_f fr⟩)
    | inr j2 =>
      have hv := hv j j2 rfl hx2
      subst hv
      rw [ex2.1.2.1]
      refine wp_icne (fun _ => ?_) (fun z => absurd (Classical.not_not.mp z) (mkK_n6 tk_5))
      obtain ⟨fC, fP, fS, fN, fH, fO, fM, fQ, fL, fD, fZ, fA, fB, fI, C, F, nm⟩ := U2
      have j0 := C.1
      rw [ke_197_28]
      repeat (first | refine wp_aload rfl rfl ?_ | refine wp_iload rfl ?_ | refine wp_ic ?_ | refine wp_g15 (by assumption) ?_ | refine wp_g16 (by assumption) ?_ | refine wp_g17 (by assumption) ?_ | refine wp_g3 (by assumption) ?_ | refine wp_get (by assumption) rfl ?_ | refine wp_icm ?_ | refine wp_istore (by simp only [am_st1_0, am_st1_1, am_st1_s, am_clr_n, am_clr_i, am_clr_r, am_clr_f, am_clr_u, am_clr_j, Nat.reduceAdd]; rfl) ?_ | refine wp_iadd ?_ | refine wp_iinc rfl (by simp only [am_st1_0, am_st1_1, am_st1_s, am_clr_n, am_clr_i, am_clr_r, am_clr_f, am_clr_u, am_clr_j, Nat.reduceAdd]; rfl) ?_ | refine wp_lload rfl ?_ | refine wp_goto ?_ | refine wp_ishl ?_ | refine wp_iand ?_ | refine wp_isub ?_ | refine wp_ior ?_ | refine wp_dup_ref ?_ | refine wp_dup_int ?_ | refine wp_lc ?_ | refine wp_imul ?_ | refine wp_lstore (by simp only [am_st2_e, am_st1_0, am_st1_1, am_st1_s, am_clr_n, am_clr_i, am_clr_r, am_clr_f, am_clr_u, am_clr_j, Nat.reduceAdd, List.set_cons_zero, List.set_cons_succ]; rfl) ?_ | refine wp_lcmp ?_ | refine wp_ixor ?_ | refine wp_astore (by simp only [am_st1_0, am_st1_1, am_st1_s, am_clr_n, am_clr_i, am_clr_r, am_clr_f, am_clr_u, am_clr_j, Nat.reduceAdd]; rfl) ?_ | refine wp_i2l ?_ | refine wp_l2i ?_ | refine wp_land ?_ | refine wp_iushr ?_ | refine wp_ishr ?_ | refine wp_ladd ?_ | refine wp_lmul ?_ | refine wp_lshr ?_ | refine wp_lushr ?_ | refine wp_lshl ?_ | refine wp_lsub ?_ | refine wp_lor ?_ | refine wp_i2b ?_ | refine wp_iincm rfl (by simp only [am_st1_0, am_st1_1, am_st1_s, am_clr_n, am_clr_i, am_clr_r, am_clr_f, am_clr_u, am_clr_j, Nat.reduceAdd]; rfl) ?_ | refine wp_dup2 ?_ | refine wp_ldcs ?_)
      refine kv_201 hq2 (m_names ⟨_, _, hq2⟩ hr C (by omega)) (Nat.le_of_ble_eq_true rfl) (fun h7 hz7 => ?_)
      obtain ⟨C1, fr7⟩ := hz7
      have i0 := C1.1
      have hq3 := (fr7.2.2 58 (by omega)).trans hq2
      repeat (first | refine wp_aload rfl rfl ?_ | refine wp_iload rfl ?_ | refine wp_ic ?_ | refine wp_g15 (by assumption) ?_ | refine wp_g16 (by assumption) ?_ | refine wp_g17 (by assumption) ?_ | refine wp_g3 (by assumption) ?_ | refine wp_get (by assumption) rfl ?_ | refine wp_icm ?_ | refine wp_istore (by simp only [am_st1_0, am_st1_1, am_st1_s, am_clr_n, am_clr_i, am_clr_r, am_clr_f, am_clr_u, am_clr_j, Nat.reduceAdd]; rfl) ?_ | refine wp_iadd ?_ | refine wp_iinc rfl (by simp only [am_st1_0, am_st1_1, am_st1_s, am_clr_n, am_clr_i, am_clr_r, am_clr_f, am_clr_u, am_clr_j, Nat.reduceAdd]; rfl) ?_ | refine wp_lload rfl ?_ | refine wp_goto ?_ | refine wp_ishl ?_ | refine wp_iand ?_ | refine wp_isub ?_ | refine wp_ior ?_ | refine wp_dup_ref ?_ | refine wp_dup_int ?_ | refine wp_lc ?_ | refine wp_imul ?_ | refine wp_lstore (by simp only [am_st2_e, am_st1_0, am_st1_1, am_st1_s, am_clr_n, am_clr_i, am_clr_r, am_clr_f, am_clr_u, am_clr_j, Nat.reduceAdd, List.set_cons_zero, List.set_cons_succ]; rfl) ?_ | refine wp_lcmp ?_ | refine wp_ixor ?_ | refine wp_astore (by simp only [am_st1_0, am_st1_1, am_st1_s, am_clr_n, am_clr_i, am_clr_r, am_clr_f, am_clr_u, am_clr_j, Nat.reduceAdd]; rfl) ?_ | refine wp_i2l ?_ | refine wp_l2i ?_ | refine wp_land ?_ | refine wp_iushr ?_ | refine wp_ishr ?_ | refine wp_ladd ?_ | refine wp_lmul ?_ | refine wp_lshr ?_ | refine wp_lushr ?_ | refine wp_lshl ?_ | refine wp_lsub ?_ | refine wp_lor ?_ | refine wp_i2b ?_ | refine wp_iincm rfl (by simp only [am_st1_0, am_st1_1, am_st1_s, am_clr_n, am_clr_i, am_clr_r, am_clr_f, am_clr_u, am_clr_j, Nat.reduceAdd]; rfl) ?_ | refine wp_dup2 ?_ | refine wp_ldcs ?_)
      rw [nI_1]
      refine wp_put i0 (Nat.le_of_ble_eq_true rfl) rfl (fs2 := muO r (tTh τ (tkW (pb f) n j)) (nI (τ.1 1 + τ.1 2 + 1))) rfl ?_
      have C2 := mm0 C1 (tTh τ (tkW (pb f) n j)) (nI (τ.1 1 + τ.1 2 + 1))
      rw [show τ.1 1 + τ.1 2 + 1 = (tTh τ (tkW (pb f) n j)).1 1 + (tTh τ (tkW (pb f) n j)).1 2 by show _ = τ.1 1 + 1 + τ.1 2; omega] at C2 ⊢
      exact wp_vret (am_Kv ⟨mRS_u R2 hr (frm_st fr7 (by omega)), ⟨_, _, _, _, _, _, _, _, _, _, _, _, _, _, C2, F, nmr_tTh nm⟩, frR_st (frR_m (frR_f fr) fr7) (by omega)⟩)
theorem m_readTongue (R : mRS f n tv r lg s0 h (.inr i)) (U : mu h r τ) (hr : 66 ≤ r) (q : lt_q τ) (hk : tkK (pb f) n i = 1) : am_mv xs L (d + 7) 191 [.ref 58] h (fun h' => mPo f n tv r lg s0 τ h h' (if τ.1 0 = 0 then pTong f n τ (tkX (pb f) n i) else .inl (3, tj (pb f) n i))) := by
  obtain ⟨s, wd, hq⟩ := mRS_r R
  obtain ⟨fs, xo⟩ := mu_o U
  have A := q.1
  have main : ∀ h1 x1, mRS f n tv r lg s0 h1 x1 → frm 58 58 h h1 → (∀ i, x1 = .inr i → tkK (pb f) n i ≠ 5) → am_w xs L (d + 7) 191 (am_j 191 15) [some (.ref 58), none] [] h1 (am_K fun v h' => v = none ∧ mPo f n tv r lg s0 τ h h' (bindR (rwh f n 1 99 (rnd f n 12 (rnx f n x1))) (fun j => .inr (j, tY τ (rwv f n 1 (rnd f n 12 (rnx f n x1)) (.inr j)))))) := by
    intro h1 x1 R1 fr1 hx1
    obtain ⟨s1, wd1, hq1⟩ := mRS_r R1
    rw [ke_191_15]
    repeat (first | refine wp_aload rfl rfl ?_ | refine wp_iload rfl ?_ | refine wp_ic ?_ | refine wp_g15 (by assumption) ?_ | refine wp_g16 (by assumption) ?_ | refine wp_g17 (by assumption) ?_ | refine wp_g3 (by assumption) ?_ | refine wp_get (by assumption) rfl ?_ | refine wp_icm ?_ | refine wp_istore (by simp only [am_st1_0, am_st1_1, am_st1_s, am_clr_n, am_clr_i, am_clr_r, am_clr_f, am_clr_u, am_clr_j, Nat.reduceAdd]; rfl) ?_ | refine wp_iadd ?_ | refine wp_iinc rfl (by simp only [am_st1_0, am_st1_1, am_st1_s, am_clr_n, am_clr_i, am_clr_r, am_clr_f, am_clr_u, am_clr_j, Nat.reduceAdd]; rfl) ?_ | refine wp_lload rfl ?_ | refine wp_goto ?_ | refine wp_ishl ?_ | refine wp_iand ?_ | refine wp_isub ?_ | refine wp_ior ?_ | refine wp_dup_ref ?_ | refine wp_dup_int ?_ | refine wp_lc ?_ | refine wp_imul ?_ | refine wp_lstore (by simp only [am_st2_e, am_st1_0, am_st1_1, am_st1_s, am_clr_n, am_clr_i, am_clr_r, am_clr_f, am_clr_u, am_clr_j, Nat.reduceAdd, List.set_cons_zero, List.set_cons_succ]; rfl) ?_ | refine wp_lcmp ?_ | refine wp_ixor ?_ | refine wp_astore (by simp only [am_st1_0, am_st1_1, am_st1_s, am_clr_n, am_clr_i, am_clr_r, am_clr_f, am_clr_u, am_clr_j, Nat.reduceAdd]; rfl) ?_ | refine wp_i2l ?_ | refine wp_l2i ?_ | refine wp_land ?_ | refine wp_iushr ?_ | refine wp_ishr ?_ | refine wp_ladd ?_ | refine wp_lmul ?_ | refine wp_lshr ?_ | refine wp_lushr ?_ | refine wp_lshl ?_ | refine wp_lsub ?_ | refine wp_lor ?_ | refine wp_i2b ?_ | refine wp_iincm rfl (by simp only [am_st1_0, am_st1_1, am_st1_s, am_clr_n, am_clr_i, am_clr_r, am_clr_f, am_clr_u, am_clr_j, Nat.reduceAdd]; rfl) ?_ | refine wp_dup2 ?_ | refine wp_ldcs ?_)
    refine kv_183 hq1 (m_on R1 hx1) (Nat.le_of_ble_eq_true rfl) (fun h8 hz8 => ?_)
    obtain ⟨R2, fr2⟩ := hz8
    obtain ⟨s2, wd2, hq2⟩ := mRS_r R2
    repeat (first | refine wp_aload rfl rfl ?_ | refine wp_iload rfl ?_ | refine wp_ic ?_ | refine wp_g15 (by assumption) ?_ | refine wp_g16 (by assumption) ?_ | refine wp_g17 (by assumption) ?_ | refine wp_g3 (by assumption) ?_ | refine wp_get (by assumption) rfl ?_ | refine wp_icm ?_ | refine wp_istore (by simp only [am_st1_0, am_st1_1, am_st1_s, am_clr_n, am_clr_i, am_clr_r, am_clr_f, am_clr_u, am_clr_j, Nat.reduceAdd]; rfl) ?_ | refine wp_iadd ?_ | refine wp_iinc rfl (by simp only [am_st1_0, am_st1_1, am_st1_s, am_clr_n, am_clr_i, am_clr_r, am_clr_f, am_clr_u, am_clr_j, Nat.reduceAdd]; rfl) ?_ | refine wp_lload rfl ?_ | refine wp_goto ?_ | refine wp_ishl ?_ | refine wp_iand ?_ | refine wp_isub ?_ | refine wp_ior ?_ | refine wp_dup_ref ?_ | refine wp_dup_int ?_ | refine wp_lc ?_ | refine wp_imul ?_ | refine wp_lstore (by simp only [am_st2_e, am_st1_0, am_st1_1, am_st1_s, am_clr_n, am_clr_i, am_clr_r, am_clr_f, am_clr_u, am_clr_j, Nat.reduceAdd, List.set_cons_zero, List.set_cons_succ]; rfl) ?_ | refine wp_lcmp ?_ | refine wp_ixor ?_ | refine wp_astore (by simp only [am_st1_0, am_st1_1, am_st1_s, am_clr_n, am_clr_i, am_clr_r, am_clr_f, am_clr_u, am_clr_j, Nat.reduceAdd]; rfl) ?_ | refine wp_i2l ?_ | refine wp_l2i ?_ | refine wp_land ?_ | refine wp_iushr ?_ | refine wp_ishr ?_ | refine wp_ladd ?_ | refine wp_lmul ?_ | refine wp_lshr ?_ | refine wp_lushr ?_ | refine wp_lshl ?_ | refine wp_lsub ?_ | refine wp_lor ?_ | refine wp_i2b ?_ | refine wp_iincm rfl (by simp only [am_st1_0, am_st1_1, am_st1_s, am_clr_n, am_clr_i, am_clr_r, am_clr_f, am_clr_u, am_clr_j, Nat.reduceAdd]; rfl) ?_ | refine wp_dup2 ?_ | refine wp_ldcs ?_)
    refine kv_193 hq2 (m_readPart (k := 12) (lo := 1) (hi := 99) R2 (by decide) (by decide) (by decide)) (Nat.le_of_ble_eq_true rfl) (fun z7 h7 hz7 => ?_)
    obtain ⟨rfl, R3, fr3⟩ := hz7
    have fr := frm_tr (frm_tr fr1 fr2) fr3
    have U2 := mu_frm (h' := h7) U (fun k k1 k2 => fr.2.2 k (by omega))
    obtain ⟨s3, wd3, hq3, -, -, -, ex3⟩ := id R3
    repeat (first | refine wp_aload rfl rfl ?_ | refine wp_iload rfl ?_ | refine wp_ic ?_ | refine wp_g15 (by assumption) ?_ | refine wp_g16 (by assumption) ?_ | refine wp_g17 (by assumption) ?_ | refine wp_g3 (by assumption) ?_ | refine wp_get (by assumption) rfl ?_ | refine wp_icm ?_ | refine wp_istore (by simp only [am_st1_0, am_st1_1, am_st1_s, am_clr_n, am_clr_i, am_clr_r, am_clr_f, am_clr_u, am_clr_j, Nat.reduceAdd]; rfl) ?_ | refine wp_iadd ?_ | refine wp_iinc rfl (by simp only [am_st1_0, am_st1_1, am_st1_s, am_clr_n, am_clr_i, am_clr_r, am_clr_f, am_clr_u, am_clr_j, Nat.reduceAdd]; rfl) ?_ | refine wp_lload rfl ?_ | refine wp_goto ?_ | refine wp_ishl ?_ | refine wp_iand ?_ | refine wp_isub ?_ | refine wp_ior ?_ | refine wp_dup_ref ?_ | refine wp_dup_int ?_ | refine wp_lc ?_ | refine wp_imul ?_ | refine wp_lstore (by simp only [am_st2_e, am_st1_0, am_st1_1, am_st1_s, am_clr_n, am_clr_i, am_clr_r, am_clr_f, am_clr_u, am_clr_j, Nat.reduceAdd, List.set_cons_zero, List.set_cons_succ]; rfl) ?_ | refine wp_lcmp ?_ | refine wp_ixor ?_ | refine wp_astore (by simp only [am_st1_0, am_st1_1, am_st1_s, am_clr_n, am_clr_i, am_clr_r, am_clr_f, am_clr_u, am_clr_j, Nat.reduceAdd]; rfl) ?_ | refine wp_i2l ?_ | refine wp_l2i ?_ | refine wp_land ?_ | refine wp_iushr ?_ | refine wp_ishr ?_ | refine wp_ladd ?_ | refine wp_lmul ?_ | refine wp_lshr ?_ | refine wp_lushr ?_ | refine wp_lshl ?_ | refine wp_lsub ?_ | refine wp_lor ?_ | refine wp_i2b ?_ | refine wp_iincm rfl (by simp only [am_st1_0, am_st1_1, am_st1_s, am_clr_n, am_clr_i, am_clr_r, am_clr_f, am_clr_u, am_clr_j, Nat.reduceAdd]; rfl) ?_ | refine wp_dup2 ?_ | refine wp_ldcs ?_)
    generalize hx3 : rwh f n 1 99 (rnd f n 12 (rnx f n x1)) = x3 at R3 ex3 ⊢
    cases x3 with
    | inl e =>
      rw [show s3 9 = 6 from ex3.1]
      refine wp_iceq (fun _ => ?_) (fun z => absurd rfl z)
      rw [ke_191_46]
      exact wp_vret (am_Kv ⟨R3, U2, frR_f fr⟩)
    | inr j =>
      rw [ex3.1.2.1]
      refine wp_iceq (fun z => absurd z (mkK_n6 tk_5)) (fun _ => ?_)
      obtain ⟨fC, fP, fS, fN, fH, fO, fM, fQ, fL, fD, fZ, fA, fB, fI, C, F, nm⟩ := U2
      have j0 := C.1
      repeat (first | refine wp_aload rfl rfl ?_ | refine wp_iload rfl ?_ | refine wp_ic ?_ | refine wp_g15 (by assumption) ?_ | refine wp_g16 (by assumption) ?_ | refine wp_g17 (by assumption) ?_ | refine wp_g3 (by assumption) ?_ | refine wp_get (by assumption) rfl ?_ | refine wp_icm ?_ | refine wp_istore (by simp only [am_st1_0, am_st1_1, am_st1_s, am_clr_n, am_clr_i, am_clr_r, am_clr_f, am_clr_u, am_clr_j, Nat.reduceAdd]; rfl) ?_ | refine wp_iadd ?_ | refine wp_iinc rfl (by simp only [am_st1_0, am_st1_1, am_st1_s, am_clr_n, am_clr_i, am_clr_r, am_clr_f, am_clr_u, am_clr_j, Nat.reduceAdd]; rfl) ?_ | refine wp_lload rfl ?_ | refine wp_goto ?_ | refine wp_ishl ?_ | refine wp_iand ?_ | refine wp_isub ?_ | refine wp_ior ?_ | refine wp_dup_ref ?_ | refine wp_dup_int ?_ | refine wp_lc ?_ | refine wp_imul ?_ | refine wp_lstore (by simp only [am_st2_e, am_st1_0, am_st1_1, am_st1_s, am_clr_n, am_clr_i, am_clr_r, am_clr_f, am_clr_u, am_clr_j, Nat.reduceAdd, List.set_cons_zero, List.set_cons_succ]; rfl) ?_ | refine wp_lcmp ?_ | refine wp_ixor ?_ | refine wp_astore (by simp only [am_st1_0, am_st1_1, am_st1_s, am_clr_n, am_clr_i, am_clr_r, am_clr_f, am_clr_u, am_clr_j, Nat.reduceAdd]; rfl) ?_ | refine wp_i2l ?_ | refine wp_l2i ?_ | refine wp_land ?_ | refine wp_iushr ?_ | refine wp_ishr ?_ | refine wp_ladd ?_ | refine wp_lmul ?_ | refine wp_lshr ?_ | refine wp_lushr ?_ | refine wp_lshl ?_ | refine wp_lsub ?_ | refine wp_lor ?_ | refine wp_i2b ?_ | refine wp_iincm rfl (by simp only [am_st1_0, am_st1_1, am_st1_s, am_clr_n, am_clr_i, am_clr_r, am_clr_f, am_clr_u, am_clr_j, Nat.reduceAdd]; rfl) ?_ | refine wp_dup2 ?_ | refine wp_ldcs ?_)
      refine wp_put j0 (Nat.le_of_ble_eq_true rfl) rfl (fs2 := muO r (tY τ (rwv f n 1 (rnd f n 12 (rnx f n x1)) (.inr j))) (nI (τ.1 1 + τ.1 2))) rfl ?_
      have C2 := mm0 C (tY τ (rwv f n 1 (rnd f n 12 (rnx f n x1)) (.inr j))) (nI (τ.1 1 + τ.1 2))
      rw [ke_191_46]
      exact wp_vret (am_Kv ⟨mRS_u R3 hr (frm_set (by omega)), ⟨_, _, _, _, _, _, _, _, _, _, _, _, _, _, C2, F, nm⟩, frR_st (frR_f fr) (by omega)⟩)
  have hA0 := A.1
  refine kg_191 ?_
  repeat (first | refine wp_aload rfl rfl ?_ | refine wp_iload rfl ?_ | refine wp_ic ?_ | refine wp_g15 (by assumption) ?_ | refine wp_g16 (by assumption) ?_ | refine wp_g17 (by assumption) ?_ | refine wp_g3 (by assumption) ?_ | refine wp_get (by assumption) rfl ?_ | refine wp_icm ?_ | refine wp_istore (by simp only [am_st1_0, am_st1_1, am_st1_s, am_clr_n, am_clr_i, am_clr_r, am_clr_f, am_clr_u, am_clr_j, Nat.reduceAdd]; rfl) ?_ | refine wp_iadd ?_ | refine wp_iinc rfl (by simp only [am_st1_0, am_st1_1, am_st1_s, am_clr_n, am_clr_i, am_clr_r, am_clr_f, am_clr_u, am_clr_j, Nat.reduceAdd]; rfl) ?_ | refine wp_lload rfl ?_ | refine wp_goto ?_ | refine wp_ishl ?_ | refine wp_iand ?_ | refine wp_isub ?_ | refine wp_ior ?_ | refine wp_dup_ref ?_ | refine wp_dup_int ?_ | refine wp_lc ?_ | refine wp_imul ?_ | refine wp_lstore (by simp only [am_st2_e, am_st1_0, am_st1_1, am_st1_s, am_clr_n, am_clr_i, am_clr_r, am_clr_f, am_clr_u, am_clr_j, Nat.reduceAdd, List.set_cons_zero, List.set_cons_succ]; rfl) ?_ | refine wp_lcmp ?_ | refine wp_ixor ?_ | refine wp_astore (by simp only [am_st1_0, am_st1_1, am_st1_s, am_clr_n, am_clr_i, am_clr_r, am_clr_f, am_clr_u, am_clr_j, Nat.reduceAdd]; rfl) ?_ | refine wp_i2l ?_ | refine wp_l2i ?_ | refine wp_land ?_ | refine wp_iushr ?_ | refine wp_ishr ?_ | refine wp_ladd ?_ | refine wp_lmul ?_ | refine wp_lshr ?_ | refine wp_lushr ?_ | refine wp_lshl ?_ | refine wp_lsub ?_ | refine wp_lor ?_ | refine wp_i2b ?_ | refine wp_iincm rfl (by simp only [am_st1_0, am_st1_1, am_st1_s, am_clr_n, am_clr_i, am_clr_r, am_clr_f, am_clr_u, am_clr_j, Nat.reduceAdd]; rfl) ?_ | refine wp_dup2 ?_ | refine wp_ldcs ?_)
  refine wp_ifle (fun y0 => ?_) (fun y0 => ?_)
  · have y0 : τ.1 0 = 0 := (nI_le0 (by omega)).mp y0
    rw [if_pos y0]
    have := main h (.inr i) R (frm_rf _ _ _) (fun j e => by cases e; omega)
    unfold pTong
    exact this
  · have y0 : τ.1 0 ≠ 0 := fun z => y0 (by rw [z]; decide)
    rw [if_neg y0]
    repeat (first | refine wp_aload rfl rfl ?_ | refine wp_iload rfl ?_ | refine wp_ic ?_ | refine wp_g15 (by assumption) ?_ | refine wp_g16 (by assumption) ?_ | refine wp_g17 (by assumption) ?_ | refine wp_g3 (by assumption) ?_ | refine wp_get (by assumption) rfl ?_ | refine wp_icm ?_ | refine wp_istore (by simp only [am_st1_0, am_st1_1, am_st1_s, am_clr_n, am_clr_i, am_clr_r, am_clr_f, am_clr_u, am_clr_j, Nat.reduceAdd]; rfl) ?_ | refine wp_iadd ?_ | refine wp_iinc rfl (by simp only [am_st1_0, am_st1_1, am_st1_s, am_clr_n, am_clr_i, am_clr_r, am_clr_f, am_clr_u, am_clr_j, Nat.reduceAdd]; rfl) ?_ | refine wp_lload rfl ?_ | refine wp_goto ?_ | refine wp_ishl ?_ | refine wp_iand ?_ | refine wp_isub ?_ | refine wp_ior ?_ | refine wp_dup_ref ?_ | refine wp_dup_int ?_ | refine wp_lc ?_ | refine wp_imul ?_ | refine wp_lstore (by simp only [am_st2_e, am_st1_0, am_st1_1, am_st1_s, am_clr_n, am_clr_i, am_clr_r, am_clr_f, am_clr_u, am_clr_j, Nat.reduceAdd, List.set_cons_zero, List.set_cons_succ]; rfl) ?_ | refine wp_lcmp ?_ | refine wp_ixor ?_ | refine wp_astore (by simp only [am_st1_0, am_st1_1, am_st1_s, am_clr_n, am_clr_i, am_clr_r, am_clr_f, am_clr_u, am_clr_j, Nat.reduceAdd]; rfl) ?_ | refine wp_i2l ?_ | refine wp_l2i ?_ | refine wp_land ?_ | refine wp_iushr ?_ | refine wp_ishr ?_ | refine wp_ladd ?_ | refine wp_lmul ?_ | refine wp_lshr ?_ | refine wp_lushr ?_ | refine wp_lshl ?_ | refine wp_lsub ?_ | refine wp_lor ?_ | refine wp_i2b ?_ | refine wp_iincm rfl (by simp only [am_st1_0, am_st1_1, am_st1_s, am_clr_n, am_clr_i, am_clr_r, am_clr_f, am_clr_u, am_clr_j, Nat.reduceAdd]; rfl) ?_ | refine wp_dup2 ?_ | refine wp_ldcs ?_)
    refine kv_192 hq (m_flaw (k := 3) R (by decide)) (Nat.le_of_ble_eq_true rfl) (fun h9 hz9 => ?_)
    exact main h9 _ hz9.1 hz9.2 (fun j e => by cases e)
end MRL
