-- Integer.bitCount and Arrays.fill
theorem nc_s1 {a b c e : Nat} (ha : a < 256) (hb : b < 256) (hc : c < 256) (he : e < 256) : nc_4 a b c e - ((nc_4 a b c e / 2) &&& 1431655765) = nc_4 (nc_g1 a) (nc_g1 b) (nc_g1 c) (nc_g1 e) := by
  have e1 : nc_4 a b c e / 2 = nc_4 (a / 2 + 128 * (b % 2)) (b / 2 + 128 * (c % 2)) (c / 2 + 128 * (e % 2)) (e / 2 + 128 * 0) := by unfold nc_4; omega
  have e2 : (1431655765 : Nat) = nc_4 85 85 85 85 := by decide
  obtain ⟨a1, a2⟩ := nc_f1 a ha (b % 2) (by omega)
  obtain ⟨b1, b2⟩ := nc_f1 b hb (c % 2) (by omega)
  obtain ⟨c1, c2⟩ := nc_f1 c hc (e % 2) (by omega)
  obtain ⟨d1, d2⟩ := nc_f1 e he 0 (by omega)
  rw [e1, e2, nc_and4 (by omega) (by omega) (by omega) (by decide) (by decide) (by decide), a1, b1, c1, d1]
  unfold nc_4 nc_g1
  omega
theorem nc_s2 {a b c e : Nat} (ha : a < 256) (hb : b < 256) (hc : c < 256) (he : e < 256) : (nc_4 (nc_g1 a) (nc_g1 b) (nc_g1 c) (nc_g1 e) &&& 858993459) + ((nc_4 (nc_g1 a) (nc_g1 b) (nc_g1 c) (nc_g1 e) / 4) &&& 858993459) = nc_4 (nc_g2 a) (nc_g2 b) (nc_g2 c) (nc_g2 e) := by
  obtain ⟨a1, a2⟩ := nc_f2 a ha
  obtain ⟨b1, b2⟩ := nc_f2 b hb
  obtain ⟨c1, c2⟩ := nc_f2 c hc
  obtain ⟨d1, d2⟩ := nc_f2 e he
  have e1 : nc_4 (nc_g1 a) (nc_g1 b) (nc_g1 c) (nc_g1 e) / 4 = nc_4 (nc_g1 a / 4 + 64 * (nc_g1 b % 4)) (nc_g1 b / 4 + 64 * (nc_g1 c % 4)) (nc_g1 c / 4 + 64 * (nc_g1 e % 4)) (nc_g1 e / 4 + 64 * 0) := by unfold nc_4; omega
  have e2 : (858993459 : Nat) = nc_4 51 51 51 51 := by decide
  rw [e1, e2, nc_and4 (by omega) (by omega) (by omega) (by decide) (by decide) (by decide), nc_and4 (by omega) (by omega) (by omega) (by decide) (by decide) (by decide), a2 _ (by omega), b2 _ (by omega), c2 _ (by omega), d2 _ (by omega)]
  unfold nc_4 nc_g2
  omega
theorem nc_s3 {a b c e : Nat} (ha : a < 256) (hb : b < 256) (hc : c < 256) (he : e < 256) : (nc_4 (nc_g2 a) (nc_g2 b) (nc_g2 c) (nc_g2 e) + nc_4 (nc_g2 a) (nc_g2 b) (nc_g2 c) (nc_g2 e) / 16) &&& 252645135 = nc_4 (nc_p a) (nc_p b) (nc_p c) (nc_p e) := by
  obtain ⟨a1, a2⟩ := nc_f3 a ha
  obtain ⟨b1, b2⟩ := nc_f3 b hb
  obtain ⟨c1, c2⟩ := nc_f3 c hc
  obtain ⟨d1, d2⟩ := nc_f3 e he
  have a3 := nc_f4 a ha
  have b3 := nc_f4 b hb
  have c3 := nc_f4 c hc
  have d3 := nc_f4 e he
  have e1 : nc_4 (nc_g2 a) (nc_g2 b) (nc_g2 c) (nc_g2 e) + nc_4 (nc_g2 a) (nc_g2 b) (nc_g2 c) (nc_g2 e) / 16 = nc_4 ((nc_g2 a + nc_g2 a / 16 + 16 * (nc_g2 b % 16)) % 256) ((nc_g2 b + nc_g2 b / 16 + 16 * (nc_g2 c % 16)) % 256) ((nc_g2 c + nc_g2 c / 16 + 16 * (nc_g2 e % 16)) % 256) ((nc_g2 e + nc_g2 e / 16 + 16 * 0) % 256) := by
    have w : ∀ (i M : Nat), (i + 256 * M) / 16 = i / 16 + 16 * M := by intro i M; omega
    have w2 : ∀ i j : Nat, i ≤ 68 → j ≤ 4 → (i + i / 16 + 16 * j) % 256 = i + i / 16 + 16 * j := by intro i j h1 h2; omega
    rw [w2 _ _ a1 b3.1, w2 _ _ b1 c3.1, w2 _ _ c1 d3.1, w2 _ _ d1 (by omega)]
    unfold nc_4
    rw [w]
    generalize nc_g2 a = i
    generalize nc_g2 b = j
    generalize nc_g2 c = k
    generalize nc_g2 e = o
    omega
  have e2 : (252645135 : Nat) = nc_4 15 15 15 15 := by decide
  rw [e1, e2, nc_and4 (by omega) (by omega) (by omega) (by decide) (by decide) (by decide), a2 _ (by omega), b2 _ (by omega), c2 _ (by omega), d2 _ (by omega)]
section BCN
variable {xs : Nat → Int32} {L d : Nat} {h : am_H}
set_option maxRecDepth 4000 in
theorem t_bc {x : Int32} : am_mi xs L d 315 [.int x] h (fun z h' => z = nI (nb_c x) ∧ h' = h) := by
  obtain ⟨m, hm, rfl⟩ := wb_of32 x
  obtain ⟨a, b, c, e, ha, hb, hc, he, rfl⟩ := nc_bytes hm
  have u : ∀ {n : Nat} (s : Int32) (k : Nat), n < 2 ^ 32 → ((s.toUInt32 &&& Int32.toUInt32 31).toBitVec % 32).toNat = k → ((nI n).toUInt32 >>> (s.toUInt32 &&& Int32.toUInt32 31)).toInt32 = nI (n / 2 ^ k) := fun s k hn hs => pk_ushrN hn s k hs
  have ga := nc_f2 a ha
  have gb := nc_f2 b hb
  have gc := nc_f2 c hc
  have ge := nc_f2 e he
  have pa := nc_f3 a ha
  have pb := nc_f3 b hb
  have pc := nc_f3 c hc
  have pe := nc_f3 e he
  have qa := nc_f4 a ha
  have qb := nc_f4 b hb
  have qc := nc_f4 c hc
  have qe := nc_f4 e he
  refine kg_315 ?_
  refine wp_iload rfl ?_
  refine wp_iload rfl ?_
  refine wp_ic ?_
  refine wp_iushr ?_
  refine wp_ic ?_
  refine wp_iand ?_
  refine wp_isub ?_
  rw [u 1 1 hm (by decide), fa_lit 1431655765, fa_and, pk_sub (Nat.le_trans Nat.and_le_left (Nat.div_le_self _ _)), nc_s1 ha hb hc he]
  refine wp_istore rfl ?_
  have h1 : nc_4 (nc_g1 a) (nc_g1 b) (nc_g1 c) (nc_g1 e) < 2 ^ 32 := by unfold nc_4; omega
  refine wp_iload rfl ?_
  refine wp_ic ?_
  refine wp_iand ?_
  refine wp_iload rfl ?_
  refine wp_ic ?_
  refine wp_iushr ?_
  refine wp_ic ?_
  refine wp_iand ?_
  refine wp_iadd ?_
  rw [u 2 2 h1 (by decide), fa_lit 858993459, fa_and, fa_and, nI_add, nc_s2 ha hb hc he]
  refine wp_istore rfl ?_
  have h2 : nc_4 (nc_g2 a) (nc_g2 b) (nc_g2 c) (nc_g2 e) < 2 ^ 32 := by unfold nc_4; omega
  refine wp_iload rfl ?_
  refine wp_iload rfl ?_
  refine wp_ic ?_
  refine wp_iushr ?_
  refine wp_iadd ?_
  refine wp_ic ?_
  refine wp_iand ?_
  rw [u 4 4 h2 (by decide), fa_lit 252645135, nI_add, fa_and, nc_s3 ha hb hc he]
  refine wp_istore rfl ?_
  have h3 : nc_4 (nc_p a) (nc_p b) (nc_p c) (nc_p e) < 2 ^ 32 := by unfold nc_4; omega
  refine wp_iload rfl ?_
  refine wp_iload rfl ?_
  refine wp_ic ?_
  refine wp_iushr ?_
  refine wp_iadd ?_
  rw [u 8 8 h3 (by decide), nI_add]
  refine wp_istore rfl ?_
  have h4 : nc_4 (nc_p a) (nc_p b) (nc_p c) (nc_p e) + nc_4 (nc_p a) (nc_p b) (nc_p c) (nc_p e) / 2 ^ 8 < 2 ^ 32 := by unfold nc_4; omega
  refine wp_iload rfl ?_
  refine wp_iload rfl ?_
  refine wp_ic ?_
  refine wp_iushr ?_
  refine wp_iadd ?_
  rw [u 16 16 h4 (by decide), nI_add]
  refine wp_istore rfl ?_
  refine wp_iload rfl ?_
  refine wp_ic ?_
  refine wp_iand ?_
  refine wp_iret (am_Ki ⟨?_, rfl⟩)
  rw [fa_lit 63, show (63 : Nat) = 2 ^ 6 - 1 from rfl, fa_mask]
  have e9 : nb_c (nI (nc_4 a b c e)) = nc_p a + nc_p b + nc_p c + nc_p e := by
    rw [← nc_ct4 ha hb hc he]
    unfold nb_c
    refine fb_ct_cong (fun k hk => ?_)
    unfold nb_t
    rw [BitVec.getLsbD, pk_tn hm]
  rw [e9]
  congr 1
  unfold nc_4
  clear u ga gb gc ge pa pb pc pe h1 h2 h3 h4 e9 hm
  generalize nc_p a = A at *
  generalize nc_p b = B at *
  generalize nc_p c = C at *
  generalize nc_p e = D at *
  have w1 : (A + 256 * (B + 256 * (C + 256 * D))) / 2 ^ 8 = B + 256 * (C + 256 * D) := by omega
  rw [w1]
  have w2 : (A + 256 * (B + 256 * (C + 256 * D)) + (B + 256 * (C + 256 * D))) / 2 ^ 16 = C + 256 * D + D := by omega
  rw [w2]
  omega
theorem t_fill_loop {q n : Nat} (hn : n < 2 ^ 31) {f : Nat → Int32} {x : Int32} (hq : h.2.2 q = some (.inl (0, n, .inl f))) {P : Option Value → am_H → Prop} (hp : P none (am_set h q (.inl (0, n, .inl (fun k => if k < n then x else f k))))) : ∀ k i, i + k = n → am_w xs L d 316 (am_j 316 5) [some (.ref q), some (.int x), some (.int (nI i)), some (.int (nI n))] [] (am_set h q (.inl (0, n, .inl (fun k => if k < i then x else f k)))) (am_K P) := by
  intro k
  induction k with
  | zero =>
    intro i hi
    have e : i = n := by omega
    subst e
    rw [ke_316_5]
    repeat (first | refine wp_aload rfl rfl ?_ | refine wp_iload rfl ?_ | refine wp_ic ?_ | refine wp_get (by assumption) rfl ?_ | refine wp_icm ?_ | refine wp_istore (by simp only [am_st1_0, am_st1_1, am_st1_s, am_clr_n, am_clr_i, am_clr_r, am_clr_f, am_clr_u, am_clr_j, Nat.reduceAdd]; rfl) ?_ | refine wp_iadd ?_ | refine wp_iinc rfl (by simp only [am_st1_0, am_st1_1, am_st1_s, am_clr_n, am_clr_i, am_clr_r, am_clr_f, am_clr_u, am_clr_j, Nat.reduceAdd]; rfl) ?_ | refine wp_lload rfl ?_ | refine wp_goto ?_ | refine wp_ishl ?_ | refine wp_iand ?_ | refine wp_isub ?_ | refine wp_ior ?_ | refine wp_dup_ref ?_ | refine wp_dup_int ?_ | refine wp_lc ?_ | refine wp_imul ?_ | refine wp_lstore (by simp only [am_st2_e, am_st1_0, am_st1_1, am_st1_s, am_clr_n, am_clr_i, am_clr_r, am_clr_f, am_clr_u, am_clr_j, Nat.reduceAdd, List.set_cons_zero, List.set_cons_succ]; rfl) ?_ | refine wp_lcmp ?_ | refine wp_ixor ?_ | refine wp_astore (by simp only [am_st1_0, am_st1_1, am_st1_s, am_clr_n, am_clr_i, am_clr_r, am_clr_f, am_clr_u, am_clr_j, Nat.reduceAdd]; rfl) ?_ | refine wp_i2l ?_ | refine wp_l2i ?_ | refine wp_land ?_ | refine wp_iushr ?_ | refine wp_ishr ?_ | refine wp_ladd ?_ | refine wp_lmul ?_ | refine wp_lshr ?_ | refine wp_lushr ?_ | refine wp_lshl ?_ | refine wp_lsub ?_ | refine wp_lor ?_ | refine wp_i2b ?_ | refine wp_iincm rfl (by simp only [am_st1_0, am_st1_1, am_st1_s, am_clr_n, am_clr_i, am_clr_r, am_clr_f, am_clr_u, am_clr_j, Nat.reduceAdd]; rfl) ?_ | refine wp_dup2 ?_ | refine wp_ldcs ?_)
    refine wp_icge (fun c => ?_) (fun c => absurd (nI_le (Nat.le_refl _) hn) c)
    rw [ke_316_20]
    exact wp_vret ⟨_, rfl, hp⟩
  | succ k ih =>
    intro i hi
    rw [ke_316_5]
    repeat (first | refine wp_aload rfl rfl ?_ | refine wp_iload rfl ?_ | refine wp_ic ?_ | refine wp_get (by assumption) rfl ?_ | refine wp_icm ?_ | refine wp_istore (by simp only [am_st1_0, am_st1_1, am_st1_s, am_clr_n, am_clr_i, am_clr_r, am_clr_f, am_clr_u, am_clr_j, Nat.reduceAdd]; rfl) ?_ | refine wp_iadd ?_ | refine wp_iinc rfl (by simp only [am_st1_0, am_st1_1, am_st1_s, am_clr_n, am_clr_i, am_clr_r, am_clr_f, am_clr_u, am_clr_j, Nat.reduceAdd]; rfl) ?_ | refine wp_lload rfl ?_ | refine wp_goto ?_ | refine wp_ishl ?_ | refine wp_iand ?_ | refine wp_isub ?_ | refine wp_ior ?_ | refine wp_dup_ref ?_ | refine wp_dup_int ?_ | refine wp_lc ?_ | refine wp_imul ?_ | refine wp_lstore (by simp only [am_st2_e, am_st1_0, am_st1_1, am_st1_s, am_clr_n, am_clr_i, am_clr_r, am_clr_f, am_clr_u, am_clr_j, Nat.reduceAdd, List.set_cons_zero, List.set_cons_succ]; rfl) ?_ | refine wp_lcmp ?_ | refine wp_ixor ?_ | refine wp_astore (by simp only [am_st1_0, am_st1_1, am_st1_s, am_clr_n, am_clr_i, am_clr_r, am_clr_f, am_clr_u, am_clr_j, Nat.reduceAdd]; rfl) ?_ | refine wp_i2l ?_ | refine wp_l2i ?_ | refine wp_land ?_ | refine wp_iushr ?_ | refine wp_ishr ?_ | refine wp_ladd ?_ | refine wp_lmul ?_ | refine wp_lshr ?_ | refine wp_lushr ?_ | refine wp_lshl ?_ | refine wp_lsub ?_ | refine wp_lor ?_ | refine wp_i2b ?_ | refine wp_iincm rfl (by simp only [am_st1_0, am_st1_1, am_st1_s, am_clr_n, am_clr_i, am_clr_r, am_clr_f, am_clr_u, am_clr_j, Nat.reduceAdd]; rfl) ?_ | refine wp_dup2 ?_ | refine wp_ldcs ?_)
    refine wp_icge (fun c => absurd c (nI_ge (by omega) hn)) (fun _ => ?_)
    repeat (first | refine wp_aload rfl rfl ?_ | refine wp_iload rfl ?_ | refine wp_ic ?_ | refine wp_get (by assumption) rfl ?_ | refine wp_icm ?_ | refine wp_istore (by simp only [am_st1_0, am_st1_1, am_st1_s, am_clr_n, am_clr_i, am_clr_r, am_clr_f, am_clr_u, am_clr_j, Nat.reduceAdd]; rfl) ?_ | refine wp_iadd ?_ | refine wp_iinc rfl (by simp only [am_st1_0, am_st1_1, am_st1_s, am_clr_n, am_clr_i, am_clr_r, am_clr_f, am_clr_u, am_clr_j, Nat.reduceAdd]; rfl) ?_ | refine wp_lload rfl ?_ | refine wp_goto ?_ | refine wp_ishl ?_ | refine wp_iand ?_ | refine wp_isub ?_ | refine wp_ior ?_ | refine wp_dup_ref ?_ | refine wp_dup_int ?_ | refine wp_lc ?_ | refine wp_imul ?_ | refine wp_lstore (by simp only [am_st2_e, am_st1_0, am_st1_1, am_st1_s, am_clr_n, am_clr_i, am_clr_r, am_clr_f, am_clr_u, am_clr_j, Nat.reduceAdd, List.set_cons_zero, List.set_cons_succ]; rfl) ?_ | refine wp_lcmp ?_ | refine wp_ixor ?_ | refine wp_astore (by simp only [am_st1_0, am_st1_1, am_st1_s, am_clr_n, am_clr_i, am_clr_r, am_clr_f, am_clr_u, am_clr_j, Nat.reduceAdd]; rfl) ?_ | refine wp_i2l ?_ | refine wp_l2i ?_ | refine wp_land ?_ | refine wp_iushr ?_ | refine wp_ishr ?_ | refine wp_ladd ?_ | refine wp_lmul ?_ | refine wp_lshr ?_ | refine wp_lushr ?_ | refine wp_lshl ?_ | refine wp_lsub ?_ | refine wp_lor ?_ | refine wp_i2b ?_ | refine wp_iincm rfl (by simp only [am_st1_0, am_st1_1, am_st1_s, am_clr_n, am_clr_i, am_clr_r, am_clr_f, am_clr_u, am_clr_j, Nat.reduceAdd]; rfl) ?_ | refine wp_dup2 ?_ | refine wp_ldcs ?_)
    refine wp_iast (am_gs _ _ _) (am_inBn (by omega) hn) ?_
    repeat (first | refine wp_aload rfl rfl ?_ | refine wp_iload rfl ?_ | refine wp_ic ?_ | refine wp_get (by assumption) rfl ?_ | refine wp_icm ?_ | refine wp_istore (by simp only [am_st1_0, am_st1_1, am_st1_s, am_clr_n, am_clr_i, am_clr_r, am_clr_f, am_clr_u, am_clr_j, Nat.reduceAdd]; rfl) ?_ | refine wp_iadd ?_ | refine wp_iinc rfl (by simp only [am_st1_0, am_st1_1, am_st1_s, am_clr_n, am_clr_i, am_clr_r, am_clr_f, am_clr_u, am_clr_j, Nat.reduceAdd]; rfl) ?_ | refine wp_lload rfl ?_ | refine wp_goto ?_ | refine wp_ishl ?_ | refine wp_iand ?_ | refine wp_isub ?_ | refine wp_ior ?_ | refine wp_dup_ref ?_ | refine wp_dup_int ?_ | refine wp_lc ?_ | refine wp_imul ?_ | refine wp_lstore (by simp only [am_st2_e, am_st1_0, am_st1_1, am_st1_s, am_clr_n, am_clr_i, am_clr_r, am_clr_f, am_clr_u, am_clr_j, Nat.reduceAdd, List.set_cons_zero, List.set_cons_succ]; rfl) ?_ | refine wp_lcmp ?_ | refine wp_ixor ?_ | refine wp_astore (by simp only [am_st1_0, am_st1_1, am_st1_s, am_clr_n, am_clr_i, am_clr_r, am_clr_f, am_clr_u, am_clr_j, Nat.reduceAdd]; rfl) ?_ | refine wp_i2l ?_ | refine wp_l2i ?_ | refine wp_land ?_ | refine wp_iushr ?_ | refine wp_ishr ?_ | refine wp_ladd ?_ | refine wp_lmul ?_ | refine wp_lshr ?_ | refine wp_lushr ?_ | refine wp_lshl ?_ | refine wp_lsub ?_ | refine wp_lor ?_ | refine wp_i2b ?_ | refine wp_iincm rfl (by simp only [am_st1_0, am_st1_1, am_st1_s, am_clr_n, am_clr_i, am_clr_r, am_clr_f, am_clr_u, am_clr_j, Nat.reduceAdd]; rfl) ?_ | refine wp_dup2 ?_ | refine wp_ldcs ?_)
    rw [am_ss, nI_clamp (by omega), nI_1]
    have e : upd (fun k => if k < i then x else f k) i x = fun k => if k < i + 1 then x else f k := by
      funext j
      unfold upd
      by_cases e1 : j = i
      · subst e1; simp
      · by_cases e2 : j < i
        · simp [e1, e2, Nat.lt_succ_of_lt e2]
        · simp [e1, e2, show ¬ j < i + 1 by omega]
    rw [e]
    exact ih (i + 1) (by omega)
theorem t_fill {q n : Nat} (hn : n < 2 ^ 31) {f : Nat → Int32} {x : Int32} (hq : h.2.2 q = some (.inl (0, n, .inl f))) : am_mv xs L d 316 [.ref q, .int x] h (fun h' => h' = am_set h q (.inl (0, n, .inl (fun k => if k < n then x else f k)))) := by
  refine kg_316 ?_
  repeat (first | refine wp_aload rfl rfl ?_ | refine wp_iload rfl ?_ | refine wp_ic ?_ | refine wp_get (by assumption) rfl ?_ | refine wp_icm ?_ | refine wp_istore (by simp only [am_st1_0, am_st1_1, am_st1_s, am_clr_n, am_clr_i, am_clr_r, am_clr_f, am_clr_u, am_clr_j, Nat.reduceAdd]; rfl) ?_ | refine wp_iadd ?_ | refine wp_iinc rfl (by simp only [am_st1_0, am_st1_1, am_st1_s, am_clr_n, am_clr_i, am_clr_r, am_clr_f, am_clr_u, am_clr_j, Nat.reduceAdd]; rfl) ?_ | refine wp_lload rfl ?_ | refine wp_goto ?_ | refine wp_ishl ?_ | refine wp_iand ?_ | refine wp_isub ?_ | refine wp_ior ?_ | refine wp_dup_ref ?_ | refine wp_dup_int ?_ | refine wp_lc ?_ | refine wp_imul ?_ | refine wp_lstore (by simp only [am_st2_e, am_st1_0, am_st1_1, am_st1_s, am_clr_n, am_clr_i, am_clr_r, am_clr_f, am_clr_u, am_clr_j, Nat.reduceAdd, List.set_cons_zero, List.set_cons_succ]; rfl) ?_ | refine wp_lcmp ?_ | refine wp_ixor ?_ | refine wp_astore (by simp only [am_st1_0, am_st1_1, am_st1_s, am_clr_n, am_clr_i, am_clr_r, am_clr_f, am_clr_u, am_clr_j, Nat.reduceAdd]; rfl) ?_ | refine wp_i2l ?_ | refine wp_l2i ?_ | refine wp_land ?_ | refine wp_iushr ?_ | refine wp_ishr ?_ | refine wp_ladd ?_ | refine wp_lmul ?_ | refine wp_lshr ?_ | refine wp_lushr ?_ | refine wp_lshl ?_ | refine wp_lsub ?_ | refine wp_lor ?_ | refine wp_i2b ?_ | refine wp_iincm rfl (by simp only [am_st1_0, am_st1_1, am_st1_s, am_clr_n, am_clr_i, am_clr_r, am_clr_f, am_clr_u, am_clr_j, Nat.reduceAdd]; rfl) ?_ | refine wp_dup2 ?_ | refine wp_ldcs ?_)
  refine wp_alen hq (by decide) ?_
  repeat (first | refine wp_aload rfl rfl ?_ | refine wp_iload rfl ?_ | refine wp_ic ?_ | refine wp_get (by assumption) rfl ?_ | refine wp_icm ?_ | refine wp_istore (by simp only [am_st1_0, am_st1_1, am_st1_s, am_clr_n, am_clr_i, am_clr_r, am_clr_f, am_clr_u, am_clr_j, Nat.reduceAdd]; rfl) ?_ | refine wp_iadd ?_ | refine wp_iinc rfl (by simp only [am_st1_0, am_st1_1, am_st1_s, am_clr_n, am_clr_i, am_clr_r, am_clr_f, am_clr_u, am_clr_j, Nat.reduceAdd]; rfl) ?_ | refine wp_lload rfl ?_ | refine wp_goto ?_ | refine wp_ishl ?_ | refine wp_iand ?_ | refine wp_isub ?_ | refine wp_ior ?_ | refine wp_dup_ref ?_ | refine wp_dup_int ?_ | refine wp_lc ?_ | refine wp_imul ?_ | refine wp_lstore (by simp only [am_st2_e, am_st1_0, am_st1_1, am_st1_s, am_clr_n, am_clr_i, am_clr_r, am_clr_f, am_clr_u, am_clr_j, Nat.reduceAdd, List.set_cons_zero, List.set_cons_succ]; rfl) ?_ | refine wp_lcmp ?_ | refine wp_ixor ?_ | refine wp_astore (by simp only [am_st1_0, am_st1_1, am_st1_s, am_clr_n, am_clr_i, am_clr_r, am_clr_f, am_clr_u, am_clr_j, Nat.reduceAdd]; rfl) ?_ | refine wp_i2l ?_ | refine wp_l2i ?_ | refine wp_land ?_ | refine wp_iushr ?_ | refine wp_ishr ?_ | refine wp_ladd ?_ | refine wp_lmul ?_ | refine wp_lshr ?_ | refine wp_lushr ?_ | refine wp_lshl ?_ | refine wp_lsub ?_ | refine wp_lor ?_ | refine wp_i2b ?_ | refine wp_iincm rfl (by simp only [am_st1_0, am_st1_1, am_st1_s, am_clr_n, am_clr_i, am_clr_r, am_clr_f, am_clr_u, am_clr_j, Nat.reduceAdd]; rfl) ?_ | refine wp_dup2 ?_ | refine wp_ldcs ?_)
  have := t_fill_loop (xs := xs) (L := L) (d := d) hn (x := x) hq (P := fun v h' => v = none ∧ h' = am_set h q (.inl (0, n, .inl (fun k => if k < n then x else f k)))) ⟨rfl, rfl⟩ n 0 (by omega)
  rw [show (fun k => if k < 0 then x else f k) = f from funext fun k => by simp, am_sid h q _ hq] at this
  exact this
end BCN
