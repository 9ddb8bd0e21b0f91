-- WHAT CALLS SHARE: the class's side
section CR
variable {xs : Nat → Int32} {L d y tg : Nat} {is : List am_I} {l : am_L} {st : List Value} {h : am_H} {Q : am_I → List Value → am_H → Prop} {ln a b : Nat} {cc c1 c2 : Int} {s : Nat → Int32} {g mi : Int32} {dy : Nat} {τ : lt_T}
abbrev cR (h : am_H) (tg : Nat) (s : Nat → Int32) (F w : Int32) : Int32 → am_H → Prop := fun z h' => z = F ∧ h' = cgs h tg s w
theorem cs_ofTongue {h1 : am_H} (hG : h.2.2 0 = some (.inr (6, cgl tg s))) {w : Int32} (hw : w = if s 6 = 0 then 1 else 0) (e : h1 = cgs h tg s w) (kt : w = 0 → am_w xs L (d + 1) y (am_j y a) l st h1 Q) (kf : ¬ w = 0 → am_w xs L (d + 1) y is l st h1 Q) (hc : am_cats st ≤ 7) : am_w xs L (d + 1) y ((62, 3, 11, 1, c1) :: (62, 3, 5, 2, c2) :: (39, ln, a, 0, cc) :: is) l (.ref 0 :: .ref 0 :: st) h Q := by
  subst e hw
  refine kv_11 hG (t_ofTongue hG) (by simp only [am_cats, List.map_cons, List.sum_cons] at hc ⊢; show 1 + _ ≤ 8; omega) (fun z h9 hz => ?_)
  obtain ⟨rfl, hz⟩ := hz
  have hz := hz.symm
  subst hz
  refine kv_5 hG (t_refused hG) (by omega) (fun z h9 hz => ?_)
  obtain ⟨rfl, rfl⟩ := hz
  exact wp_eqB (fun q => kt (by simpa using q)) (fun q => kf (by simpa using q))
/-- ofTongue: told -/
theorem cA1 (C : cs h tg s g mi dy τ) (h6 : s 6 = 1) (k : am_w xs L (d + 1) y (am_j y a) (some (.ref 0) :: l) [] (cgs h tg s 0) Q) : am_w xs L (d + 1) y ((4, 1, 0, 0, 0) :: (4, 1, 0, 0, 0) :: (62, 3, 11, 1, c1) :: (62, 3, 5, 2, c2) :: (39, ln, a, 0, cc) :: is) (some (.ref 0) :: l) [] h Q := by
  refine wp_aload rfl rfl ?_
  refine wp_aload rfl rfl ?_
  exact cs_ofTongue C.1 (by rw [h6]; rfl) rfl (fun _ => k) (fun q => absurd rfl q) (by decide)
/-- not told -/
theorem cA0 (C : cs h tg s g mi dy τ) (h6 : s 6 = 0) (k : am_w xs L (d + 1) y is (some (.ref 0) :: l) [] (cgs h tg s 1) Q) : am_w xs L (d + 1) y ((4, 1, 0, 0, 0) :: (4, 1, 0, 0, 0) :: (62, 3, 11, 1, c1) :: (62, 3, 5, 2, c2) :: (39, ln, a, 0, cc) :: is) (some (.ref 0) :: l) [] h Q := by
  refine wp_aload rfl rfl ?_
  refine wp_aload rfl rfl ?_
  exact cs_ofTongue C.1 (by rw [h6]; rfl) rfl (fun q => absurd q (by decide)) (fun _ => k) (by decide)
/-- refused(w), w on the stack -/
theorem cRf (hG : h.2.2 0 = some (.inr (6, cgl tg s))) {w : Int32} (kt : w = 0 → am_w xs L (d + 1) y (am_j y a) l [] (cgs h tg s w) Q) (kf : ¬ w = 0 → am_w xs L (d + 1) y is l [] (cgs h tg s w) Q) : am_w xs L (d + 1) y ((62, 3, 5, 2, c2) :: (39, ln, a, 0, cc) :: is) l [.int w, .ref 0] h Q := by
  refine kv_5 hG (t_refused hG) (by decide) (fun z h9 hz => ?_)
  obtain ⟨rfl, rfl⟩ := hz
  exact wp_eqB (fun q => kt (by simpa using q)) (fun q => kf (by simpa using q))
end CR
-- the model's side
section MR
variable {xs : Nat → Int32} {L d y r : Nat} {is : List am_I} {l : am_L} {st : List Value} {h : am_H} {Q : am_I → List Value → am_H → Prop} {ln a b : Nat} {cc c1 c2 : Int} {s : Nat → Int32} {tv rd : Value} {wd : Int64} {lg : Nat → Int64} {g mi : Int32} {dy : Nat} {τ : lt_T}
/-- the model's world, as far as its tongue goes -/
def ms (h : am_H) (s : Nat → Int32) (r : Nat) (rd : Value) (wd : Int64) (lg : Nat → Int64) (g mi : Int32) (dy : Nat) (τ : lt_T) : Prop := h.2.2 58 = some (.inr (8, mo 58 s (.ref r) rd wd lg)) ∧ mt h r τ ∧ lt_b τ ∧ 66 ≤ r ∧ (s 15 = g ∧ s 16 = mi ∧ s 17 = nI dy) ∧ dy ≤ 999 ∧ 1 ≤ τ.1 0 ∧ 1 ≤ τ.1 1 ∧ (∀ k, τ.1 4 ≤ k → nb_t mi k = false) ∧ (∀ k, 26 ≤ k → nb_t g k = false)
def mgs (h : am_H) (s : Nat → Int32) (tv rd : Value) (wd : Int64) (lg : Nat → Int64) (w : Int32) : am_H := am_set h 58 (.inr (8, mo 58 (upd (upd (upd s 0 0) 1 w) 2 (-1)) tv rd wd lg))
def mz (h : am_H) (s : Nat → Int32) (tv rd : Value) (wd : Int64) (lg : Nat → Int64) : am_H := am_set h 58 (.inr (8, mo 58 (upd s 0 0) tv rd wd lg))
theorem mz_q : (mz h s tv rd wd lg).2.2 58 = some (.inr (8, mo 58 (upd s 0 0) tv rd wd lg)) := am_gs _ _ _
abbrev mR (h : am_H) (s : Nat → Int32) (tv rd : Value) (wd : Int64) (lg : Nat → Int64) (F w : Int32) : Int32 → am_H → Prop := fun z h' => z = F ∧ h' = mgs h s tv rd wd lg w
theorem ms_put {s2 : Nat → Int32} {rd2 : Value} {wd2 : Int64} {lg2 : Nat → Int64} {c : am_C} (M : ms h s r rd wd lg g mi dy τ) (e : c = .inr (8, mo 58 s2 (.ref r) rd2 wd2 lg2)) (e2 : s2 15 = s 15 ∧ s2 16 = s 16 ∧ s2 17 = s 17) : ms (am_set h 58 c) s2 r rd2 wd2 lg2 g mi dy τ := by
  subst e
  obtain ⟨h1, h2, h3, h4, h5, h6⟩ := M
  exact ⟨am_gs _ _ _, mt_set h2 (by omega), h3, h4, ⟨e2.1.trans h5.1, e2.2.1.trans h5.2.1, e2.2.2.trans h5.2.2⟩, h6⟩
theorem ms_set {k : Nat} {c : am_C} (M : ms h s r rd wd lg g mi dy τ) (hk : k ≠ 58 ∧ k < 66) : ms (am_set h k c) s r rd wd lg g mi dy τ := by
  obtain ⟨h1, h2, h3, h4, h5, h6⟩ := M
  exact ⟨(am_gn _ _ (by omega)).trans h1, mt_set h2 (by omega), h3, h4, h5, h6⟩
theorem ms_z (M : ms h s r rd wd lg g mi dy τ) : ms (mz h s (.ref r) rd wd lg) (upd s 0 0) r rd wd lg g mi dy τ := ms_put M rfl ⟨rfl, rfl, rfl⟩
theorem ms_t (M : ms h s r rd wd lg g mi dy τ) : ∃ fs, h.2.2 r = some (.inr (7, .int (nI (τ.1 0)) :: .int (nI (τ.1 1)) :: .int (nI (τ.1 2)) :: .int (nI (τ.1 3)) :: .int (nI (τ.1 4)) :: .int (nI (τ.1 5)) :: .int (nI (τ.1 6)) :: .int (nI (τ.1 7)) :: fs)) := by
  obtain ⟨nn, fC, fP, fS, fN, fH, fO, fM, fQ, fL, fD, fZ, fA, fB, fI, ⟨k0, -⟩, -⟩ := M.2.1
  exact ⟨_, k0⟩
theorem wp_g15 (M : ms h s r rd wd lg g mi dy τ) (k : am_w xs L d y is l (.int g :: st) h Q) : am_w xs L d y ((45, ln, 15, 8, cc) :: is) l (.ref 58 :: st) h Q := wp_get M.1 rfl (by rw [M.2.2.2.2.1.1]; exact k)
theorem wp_g16 (M : ms h s r rd wd lg g mi dy τ) (k : am_w xs L d y is l (.int mi :: st) h Q) : am_w xs L d y ((45, ln, 16, 8, cc) :: is) l (.ref 58 :: st) h Q := wp_get M.1 rfl (by rw [M.2.2.2.2.1.2.1]; exact k)
theorem wp_g17 (M : ms h s r rd wd lg g mi dy τ) (k : am_w xs L d y is l (.int (nI dy) :: st) h Q) : am_w xs L d y ((45, ln, 17, 8, cc) :: is) l (.ref 58 :: st) h Q := wp_get M.1 rfl (by rw [M.2.2.2.2.1.2.2]; exact k)
theorem wp_g3 (M : ms h s r rd wd lg g mi dy τ) (k : am_w xs L d y is l (.ref r :: st) h Q) : am_w xs L d y ((45, ln, 3, 8, cc) :: is) l (.ref 58 :: st) h Q := wp_get M.1 rfl k
theorem wp_thr (hq : h.2.2 58 = some (.inr (8, mo 58 s tv rd wd lg))) (k : am_w xs L d y is (some (.ref 58) :: l) [] (mz h s tv rd wd lg) Q) : am_w xs L d y ((4, 1, 0, 0, 0) :: (0, 1, 0, 0, 0) :: (46, 3, 0, 8, cc) :: is) (some (.ref 58) :: l) [] h Q := by
  refine wp_aload rfl rfl ?_
  refine wp_ic ?_
  exact wp_put hq (Nat.le_of_ble_eq_true rfl) rfl rfl k
theorem m_good (hq : h.2.2 58 = some (.inr (8, mo 58 s tv rd wd lg))) {v : Int32} : am_mi xs L d 210 [.ref 58, .int v] h (fun z h' => z = v ∧ h' = am_set h 58 (.inr (8, mo 58 (upd (upd s 1 0) 2 (-1)) tv rd wd lg))) := by
  refine kg_210 ?_
  repeat (first | refine wp_aload rfl rfl ?_ | refine wp_iload rfl ?_ | refine wp_ic ?_ | refine wp_get (by assumption) rfl ?_ | refine wp_icm ?_ | refine wp_istore (by simp only [am_st1_0, am_st1_1, am_st1_s, am_clr_n, am_clr_i, am_clr_r, am_clr_f, am_clr_u, am_clr_j, Nat.reduceAdd]; rfl) ?_ | refine wp_iadd ?_ | refine wp_iinc rfl (by simp only [am_st1_0, am_st1_1, am_st1_s, am_clr_n, am_clr_i, am_clr_r, am_clr_f, am_clr_u, am_clr_j, Nat.reduceAdd]; rfl) ?_ | refine wp_lload rfl ?_ | refine wp_goto ?_ | refine wp_ishl ?_ | refine wp_iand ?_ | refine wp_isub ?_ | refine wp_ior ?_ | refine wp_dup_ref ?_ | refine wp_dup_int ?_ | refine wp_lc ?_ | refine wp_imul ?_ | refine wp_lstore (by simp only [am_st2_e, am_st1_0, am_st1_1, am_st1_s, am_clr_n, am_clr_i, am_clr_r, am_clr_f, am_clr_u, am_clr_j, Nat.reduceAdd, List.set_cons_zero, List.set_cons_succ]; rfl) ?_ | refine wp_lcmp ?_ | refine wp_ixor ?_ | refine wp_astore (by simp only [am_st1_0, am_st1_1, am_st1_s, am_clr_n, am_clr_i, am_clr_r, am_clr_f, am_clr_u, am_clr_j, Nat.reduceAdd]; rfl) ?_ | refine wp_i2l ?_ | refine wp_l2i ?_ | refine wp_land ?_ | refine wp_iushr ?_ | refine wp_ishr ?_ | refine wp_ladd ?_ | refine wp_lmul ?_ | refine wp_lshr ?_ | refine wp_lushr ?_ | refine wp_lshl ?_ | refine wp_lsub ?_ | refine wp_lor ?_ | refine wp_i2b ?_ | refine wp_iincm rfl (by simp only [am_st1_0, am_st1_1, am_st1_s, am_clr_n, am_clr_i, am_clr_r, am_clr_f, am_clr_u, am_clr_j, Nat.reduceAdd]; rfl) ?_ | refine wp_dup2 ?_ | refine wp_ldcs ?_)
  refine wp_put hq (Nat.le_of_ble_eq_true rfl) rfl (fs2 := mo 58 (upd s 1 0) tv rd wd lg) rfl ?_
  repeat (first | refine wp_aload rfl rfl ?_ | refine wp_iload rfl ?_ | refine wp_ic ?_ | refine wp_get (by assumption) rfl ?_ | refine wp_icm ?_ | refine wp_istore (by simp only [am_st1_0, am_st1_1, am_st1_s, am_clr_n, am_clr_i, am_clr_r, am_clr_f, am_clr_u, am_clr_j, Nat.reduceAdd]; rfl) ?_ | refine wp_iadd ?_ | refine wp_iinc rfl (by simp only [am_st1_0, am_st1_1, am_st1_s, am_clr_n, am_clr_i, am_clr_r, am_clr_f, am_clr_u, am_clr_j, Nat.reduceAdd]; rfl) ?_ | refine wp_lload rfl ?_ | refine wp_goto ?_ | refine wp_ishl ?_ | refine wp_iand ?_ | refine wp_isub ?_ | refine wp_ior ?_ | refine wp_dup_ref ?_ | refine wp_dup_int ?_ | refine wp_lc ?_ | refine wp_imul ?_ | refine wp_lstore (by simp only [am_st2_e, am_st1_0, am_st1_1, am_st1_s, am_clr_n, am_clr_i, am_clr_r, am_clr_f, am_clr_u, am_clr_j, Nat.reduceAdd, List.set_cons_zero, List.set_cons_succ]; rfl) ?_ | refine wp_lcmp ?_ | refine wp_ixor ?_ | refine wp_astore (by simp only [am_st1_0, am_st1_1, am_st1_s, am_clr_n, am_clr_i, am_clr_r, am_clr_f, am_clr_u, am_clr_j, Nat.reduceAdd]; rfl) ?_ | refine wp_i2l ?_ | refine wp_l2i ?_ | refine wp_land ?_ | refine wp_iushr ?_ | refine wp_ishr ?_ | refine wp_ladd ?_ | refine wp_lmul ?_ | refine wp_lshr ?_ | refine wp_lushr ?_ | refine wp_lshl ?_ | refine wp_lsub ?_ | refine wp_lor ?_ | refine wp_i2b ?_ | refine wp_iincm rfl (by simp only [am_st1_0, am_st1_1, am_st1_s, am_clr_n, am_clr_i, am_clr_r, am_clr_f, am_clr_u, am_clr_j, Nat.reduceAdd]; rfl) ?_ | refine wp_dup2 ?_ | refine wp_ldcs ?_)
  refine wp_put (am_gs _ _ _) (Nat.le_of_ble_eq_true rfl) rfl (fs2 := mo 58 (upd (upd s 1 0) 2 (-1)) tv rd wd lg) rfl ?_
  repeat (first | refine wp_aload rfl rfl ?_ | refine wp_iload rfl ?_ | refine wp_ic ?_ | refine wp_get (by assumption) rfl ?_ | refine wp_icm ?_ | refine wp_istore (by simp only [am_st1_0, am_st1_1, am_st1_s, am_clr_n, am_clr_i, am_clr_r, am_clr_f, am_clr_u, am_clr_j, Nat.reduceAdd]; rfl) ?_ | refine wp_iadd ?_ | refine wp_iinc rfl (by simp only [am_st1_0, am_st1_1, am_st1_s, am_clr_n, am_clr_i, am_clr_r, am_clr_f, am_clr_u, am_clr_j, Nat.reduceAdd]; rfl) ?_ | refine wp_lload rfl ?_ | refine wp_goto ?_ | refine wp_ishl ?_ | refine wp_iand ?_ | refine wp_isub ?_ | refine wp_ior ?_ | refine wp_dup_ref ?_ | refine wp_dup_int ?_ | refine wp_lc ?_ | refine wp_imul ?_ | refine wp_lstore (by simp only [am_st2_e, am_st1_0, am_st1_1, am_st1_s, am_clr_n, am_clr_i, am_clr_r, am_clr_f, am_clr_u, am_clr_j, Nat.reduceAdd, List.set_cons_zero, List.set_cons_succ]; rfl) ?_ | refine wp_lcmp ?_ | refine wp_ixor ?_ | refine wp_astore (by simp only [am_st1_0, am_st1_1, am_st1_s, am_clr_n, am_clr_i, am_clr_r, am_clr_f, am_clr_u, am_clr_j, Nat.reduceAdd]; rfl) ?_ | refine wp_i2l ?_ | refine wp_l2i ?_ | refine wp_land ?_ | refine wp_iushr ?_ | refine wp_ishr ?_ | refine wp_ladd ?_ | refine wp_lmul ?_ | refine wp_lshr ?_ | refine wp_lushr ?_ | refine wp_lshl ?_ | refine wp_lsub ?_ | refine wp_lor ?_ | refine wp_i2b ?_ | refine wp_iincm rfl (by simp only [am_st1_0, am_st1_1, am_st1_s, am_clr_n, am_clr_i, am_clr_r, am_clr_f, am_clr_u, am_clr_j, Nat.reduceAdd]; rfl) ?_ | refine wp_dup2 ?_ | refine wp_ldcs ?_)
  rw [am_ss]
  exact wp_iret (am_Ki ⟨rfl, rfl⟩)
theorem m_ref (hq : h.2.2 58 = some (.inr (8, mo 58 s tv rd wd lg))) {w : Int32} : am_mi xs L d 182 [.ref 58, .int w] h (fun z h' => z = -1 ∧ h' = am_set h 58 (.inr (8, mo 58 (upd (upd s 1 w) 2 (-1)) tv rd wd lg))) := by
  refine kg_182 ?_
  repeat (first | refine wp_aload rfl rfl ?_ | refine wp_iload rfl ?_ | refine wp_ic ?_ | refine wp_get (by assumption) rfl ?_ | refine wp_icm ?_ | refine wp_istore (by simp only [am_st1_0, am_st1_1, am_st1_s, am_clr_n, am_clr_i, am_clr_r, am_clr_f, am_clr_u, am_clr_j, Nat.reduceAdd]; rfl) ?_ | refine wp_iadd ?_ | refine wp_iinc rfl (by simp only [am_st1_0, am_st1_1, am_st1_s, am_clr_n, am_clr_i, am_clr_r, am_clr_f, am_clr_u, am_clr_j, Nat.reduceAdd]; rfl) ?_ | refine wp_lload rfl ?_ | refine wp_goto ?_ | refine wp_ishl ?_ | refine wp_iand ?_ | refine wp_isub ?_ | refine wp_ior ?_ | refine wp_dup_ref ?_ | refine wp_dup_int ?_ | refine wp_lc ?_ | refine wp_imul ?_ | refine wp_lstore (by simp only [am_st2_e, am_st1_0, am_st1_1, am_st1_s, am_clr_n, am_clr_i, am_clr_r, am_clr_f, am_clr_u, am_clr_j, Nat.reduceAdd, List.set_cons_zero, List.set_cons_succ]; rfl) ?_ | refine wp_lcmp ?_ | refine wp_ixor ?_ | refine wp_astore (by simp only [am_st1_0, am_st1_1, am_st1_s, am_clr_n, am_clr_i, am_clr_r, am_clr_f, am_clr_u, am_clr_j, Nat.reduceAdd]; rfl) ?_ | refine wp_i2l ?_ | refine wp_l2i ?_ | refine wp_land ?_ | refine wp_iushr ?_ | refine wp_ishr ?_ | refine wp_ladd ?_ | refine wp_lmul ?_ | refine wp_lshr ?_ | refine wp_lushr ?_ | refine wp_lshl ?_ | refine wp_lsub ?_ | refine wp_lor ?_ | refine wp_i2b ?_ | refine wp_iincm rfl (by simp only [am_st1_0, am_st1_1, am_st1_s, am_clr_n, am_clr_i, am_clr_r, am_clr_f, am_clr_u, am_clr_j, Nat.reduceAdd]; rfl) ?_ | refine wp_dup2 ?_ | refine wp_ldcs ?_)
  refine wp_put hq (Nat.le_of_ble_eq_true rfl) rfl (fs2 := mo 58 (upd s 1 w) tv rd wd lg) rfl ?_
  repeat (first | refine wp_aload rfl rfl ?_ | refine wp_iload rfl ?_ | refine wp_ic ?_ | refine wp_get (by assumption) rfl ?_ | refine wp_icm ?_ | refine wp_istore (by simp only [am_st1_0, am_st1_1, am_st1_s, am_clr_n, am_clr_i, am_clr_r, am_clr_f, am_clr_u, am_clr_j, Nat.reduceAdd]; rfl) ?_ | refine wp_iadd ?_ | refine wp_iinc rfl (by simp only [am_st1_0, am_st1_1, am_st1_s, am_clr_n, am_clr_i, am_clr_r, am_clr_f, am_clr_u, am_clr_j, Nat.reduceAdd]; rfl) ?_ | refine wp_lload rfl ?_ | refine wp_goto ?_ | refine wp_ishl ?_ | refine wp_iand ?_ | refine wp_isub ?_ | refine wp_ior ?_ | refine wp_dup_ref ?_ | refine wp_dup_int ?_ | refine wp_lc ?_ | refine wp_imul ?_ | refine wp_lstore (by simp only [am_st2_e, am_st1_0, am_st1_1, am_st1_s, am_clr_n, am_clr_i, am_clr_r, am_clr_f, am_clr_u, am_clr_j, Nat.reduceAdd, List.set_cons_zero, List.set_cons_succ]; rfl) ?_ | refine wp_lcmp ?_ | refine wp_ixor ?_ | refine wp_astore (by simp only [am_st1_0, am_st1_1, am_st1_s, am_clr_n, am_clr_i, am_clr_r, am_clr_f, am_clr_u, am_clr_j, Nat.reduceAdd]; rfl) ?_ | refine wp_i2l ?_ | refine wp_l2i ?_ | refine wp_land ?_ | refine wp_iushr ?_ | refine wp_ishr ?_ | refine wp_ladd ?_ | refine wp_lmul ?_ | refine wp_lshr ?_ | refine wp_lushr ?_ | refine wp_lshl ?_ | refine wp_lsub ?_ | refine wp_lor ?_ | refine wp_i2b ?_ | refine wp_iincm rfl (by simp only [am_st1_0, am_st1_1, am_st1_s, am_clr_n, am_clr_i, am_clr_r, am_clr_f, am_clr_u, am_clr_j, Nat.reduceAdd]; rfl) ?_ | refine wp_dup2 ?_ | refine wp_ldcs ?_)
  refine wp_put (am_gs _ _ _) (Nat.le_of_ble_eq_true rfl) rfl (fs2 := mo 58 (upd (upd s 1 w) 2 (-1)) tv rd wd lg) rfl ?_
  repeat (first | refine wp_aload rfl rfl ?_ | refine wp_iload rfl ?_ | refine wp_ic ?_ | refine wp_get (by assumption) rfl ?_ | refine wp_icm ?_ | refine wp_istore (by simp only [am_st1_0, am_st1_1, am_st1_s, am_clr_n, am_clr_i, am_clr_r, am_clr_f, am_clr_u, am_clr_j, Nat.reduceAdd]; rfl) ?_ | refine wp_iadd ?_ | refine wp_iinc rfl (by simp only [am_st1_0, am_st1_1, am_st1_s, am_clr_n, am_clr_i, am_clr_r, am_clr_f, am_clr_u, am_clr_j, Nat.reduceAdd]; rfl) ?_ | refine wp_lload rfl ?_ | refine wp_goto ?_ | refine wp_ishl ?_ | refine wp_iand ?_ | refine wp_isub ?_ | refine wp_ior ?_ | refine wp_dup_ref ?_ | refine wp_dup_int ?_ | refine wp_lc ?_ | refine wp_imul ?_ | refine wp_lstore (by simp only [am_st2_e, am_st1_0, am_st1_1, am_st1_s, am_clr_n, am_clr_i, am_clr_r, am_clr_f, am_clr_u, am_clr_j, Nat.reduceAdd, List.set_cons_zero, List.set_cons_succ]; rfl) ?_ | refine wp_lcmp ?_ | refine wp_ixor ?_ | refine wp_astore (by simp only [am_st1_0, am_st1_1, am_st1_s, am_clr_n, am_clr_i, am_clr_r, am_clr_f, am_clr_u, am_clr_j, Nat.reduceAdd]; rfl) ?_ | refine wp_i2l ?_ | refine wp_l2i ?_ | refine wp_land ?_ | refine wp_iushr ?_ | refine wp_ishr ?_ | refine wp_ladd ?_ | refine wp_lmul ?_ | refine wp_lshr ?_ | refine wp_lushr ?_ | refine wp_lshl ?_ | refine wp_lsub ?_ | refine wp_lor ?_ | refine wp_i2b ?_ | refine wp_iincm rfl (by simp only [am_st1_0, am_st1_1, am_st1_s, am_clr_n, am_clr_i, am_clr_r, am_clr_f, am_clr_u, am_clr_j, Nat.reduceAdd]; rfl) ?_ | refine wp_dup2 ?_ | refine wp_ldcs ?_)
  rw [am_ss]
  exact wp_iret (am_Ki ⟨rfl, rfl⟩)
theorem m_good0 {v : Int32} : am_mi xs L d 210 [.ref 58, .int v] (mz h s tv rd wd lg) (mR h s tv rd wd lg v 0) := by
  have := @m_good xs L d (mz h s tv rd wd lg) (upd s 0 0) tv rd wd lg mz_q v
  unfold mz at this ⊢
  simp only [am_ss] at this
  exact this
theorem m_ref0 {w : Int32} : am_mi xs L d 182 [.ref 58, .int w] (mz h s tv rd wd lg) (mR h s tv rd wd lg (-1) w) := by
  have := @m_ref xs L d (mz h s tv rd wd lg) (upd s 0 0) tv rd wd lg mz_q w
  unfold mz at this ⊢
  simp only [am_ss] at this
  exact this
/-- no tongue: refused(1) -/
theorem mA0 (hq : h.2.2 58 = some (.inr (8, mo 58 s .null rd wd lg))) (k : am_w xs L (d + 1) y is (some (.ref 58) :: l) [.int (-1)] (mgs h s .null rd wd lg 1) Q) : am_w xs L (d + 1) y ((4, 1, 0, 0, 0) :: (0, 1, 0, 0, 0) :: (46, 3, 0, 8, c1) :: (4, 1, 0, 0, 0) :: (45, 3, 3, 8, c2) :: (43, ln, a, b, cc) :: (4, 1, 0, 0, 0) :: (0, 1, 0, 0, 1) :: (62, 3, 182, 2, 56) :: is) (some (.ref 58) :: l) [] h Q := by
  refine wp_thr hq ?_
  refine wp_aload rfl rfl ?_
  refine wp_get mz_q rfl ?_
  refine wp_ifnonN ?_
  refine wp_aload rfl rfl ?_
  refine wp_ic ?_
  refine kv_182 mz_q m_ref0 (Nat.le_of_ble_eq_true rfl) (fun z h9 hz => ?_)
  obtain ⟨rfl, rfl⟩ := hz
  exact k
/-- a tongue -/
theorem mA1 (hq : h.2.2 58 = some (.inr (8, mo 58 s (.ref r) rd wd lg))) (k : am_w xs L d y (am_j y a) (some (.ref 58) :: l) [] (mz h s (.ref r) rd wd lg) Q) : am_w xs L d y ((4, 1, 0, 0, 0) :: (0, 1, 0, 0, 0) :: (46, 3, 0, 8, c1) :: (4, 1, 0, 0, 0) :: (45, 3, 3, 8, c2) :: (43, ln, a, b, cc) :: is) (some (.ref 58) :: l) [] h Q := by
  refine wp_thr hq ?_
  refine wp_aload rfl rfl ?_
  refine wp_get mz_q rfl ?_
  exact wp_ifnonR k
end MR
