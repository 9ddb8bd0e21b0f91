-- COUNTING BITS: the model's bits(), Integer.bitCount, Arrays.fill
theorem nc_nat {m k : Nat} (hk : m.testBit k = true) (hl : ∀ i, i < k → m.testBit i = false) : ∀ j, (m &&& (m - 1)).testBit j = (m.testBit j && decide (j ≠ k)) := by
  have h0 : m % 2 ^ k = 0 := by
    apply Nat.eq_of_testBit_eq
    intro i
    rw [Nat.testBit_mod_two_pow, Nat.zero_testBit]
    by_cases hi : i < k
    · simp [hl i hi]
    · simp [hi]
  obtain ⟨a, ha⟩ : ∃ a, m = 2 ^ k * a := ⟨m / 2 ^ k, by have := Nat.div_add_mod m (2 ^ k); omega⟩
  have hp : 0 < 2 ^ k := Nat.pow_pos (by decide)
  have h1 : a % 2 = 1 := by
    rw [ha, show 2 ^ k * a = 2 ^ k * a + 0 by rfl, Nat.testBit_two_pow_mul_add a hp] at hk
    simpa [Nat.testBit_zero] using hk
  have h2 : m - 1 = 2 ^ k * (a - 1) + (2 ^ k - 1) := by
    obtain ⟨b, rfl⟩ : ∃ b, a = b + 1 := ⟨a - 1, by omega⟩
    rw [ha, Nat.mul_succ, Nat.add_sub_cancel]
    omega
  intro j
  rw [Nat.testBit_and, h2, Nat.testBit_two_pow_mul_add _ (by omega)]
  by_cases hj : j < k
  · rw [hl j hj]; simp
  · rw [if_neg hj]
    have e : m.testBit j = a.testBit (j - k) := by
      rw [ha, show 2 ^ k * a = 2 ^ k * a + 0 by rfl, Nat.testBit_two_pow_mul_add a hp, if_neg hj]
    rw [e]
    by_cases hjk : j = k
    · subst hjk
      rw [Nat.sub_self, Nat.testBit_zero, Nat.testBit_zero]
      have : (a - 1) % 2 = 0 := by omega
      simp [this]
    · obtain ⟨n, hn⟩ : ∃ n, j - k = n + 1 := ⟨j - k - 1, by omega⟩
      rw [hn, Nat.testBit_succ, Nat.testBit_succ, show (a - 1) / 2 = a / 2 by omega]
      simp [hjk]
theorem nc_low {x : Int32} (h : ¬ x = 0) : ∃ k, k < 32 ∧ nb_t x k = true ∧ ∀ i, i < k → nb_t x i = false := by
  have : ∃ i, i < 32 ∧ nb_t x i = true := by
    apply Classical.byContradiction
    intro q
    refine h (nb_eq0.mpr fun k hk => ?_)
    cases e : nb_t x k with
    | false => rfl
    | true => exact absurd ⟨k, hk, e⟩ q
  obtain ⟨i, h1, h2, h3⟩ := fb_first this
  exact ⟨i, h1, h2, fun j hj => by cases e : nb_t x j with | false => rfl | true => exact absurd e (h3 j hj)⟩
theorem nc_step {x : Int32} (h : ¬ x = 0) : nb_c (x &&& (x - 1)) + 1 = nb_c x := by
  obtain ⟨k, hk, h1, h2⟩ := nc_low h
  have hm : 0 < x.toBitVec.toNat := by
    apply Nat.pos_of_ne_zero
    intro q
    exact h (Int32.toBitVec_inj.mp (BitVec.eq_of_toNat_eq q))
  have e1 : (x - 1).toBitVec.toNat = x.toBitVec.toNat - 1 := by
    rw [Int32.toBitVec_sub, BitVec.toNat_sub]
    have := x.toBitVec.isLt
    rw [show (1 : Int32).toBitVec.toNat = 1 from rfl]
    omega
  have hb : ∀ j, nb_t (x &&& (x - 1)) j = (nb_t x j && decide (j ≠ k)) := by
    intro j
    have := nc_nat (m := x.toBitVec.toNat) (k := k) h1 h2 j
    rw [nb_and]
    have e2 : nb_t (x - 1) j = (x.toBitVec.toNat - 1).testBit j := by unfold nb_t; rw [BitVec.getLsbD, e1]
    rw [e2]
    rw [Nat.testBit_and] at this
    exact this
  unfold nb_c
  have h3 := fb_ct_upd (nb_t x) false hk
  rw [h1] at h3
  simp only [if_true] at h3
  rw [fb_ct_cong (q := fun j => if j = k then false else nb_t x j) (fun j _ => by rw [hb]; by_cases e : j = k <;> simp [e])]
  simpa using h3
section CNT
variable {xs : Nat → Int32} {L d : Nat} {h : am_H}
theorem m_bits_loop {w : Int32} {P : Option Value → am_H → Prop} : ∀ (k : Nat) (x : Int32) (n : Nat), nb_c x = k → P (some (.int (nI (n + nb_c x)))) h → am_w xs L d 225 (am_j 225 4) [some (.int w), some (.int (nI n)), some (.int x)] [] h (am_K P) := by
  intro k
  induction k with
  | zero =>
    intro x n hx hp
    rw [ke_225_4]
    repeat (first | refine wp_aload rfl rfl ?_ | refine wp_iload rfl ?_ | refine wp_ic ?_ | refine wp_get (by assumption) rfl ?_ | refine wp_icm ?_ | refine wp_istore (by simp only [am_st1_0, am_st1_1, am_st1_s, am_clr_n, am_clr_i, am_clr_r, am_clr_f, am_clr_u, am_clr_j, Nat.reduceAdd]; rfl) ?_ | refine wp_iadd ?_ | refine wp_iinc rfl (by simp only [am_st1_0, am_st1_1, am_st1_s, am_clr_n, am_clr_i, am_clr_r, am_clr_f, am_clr_u, am_clr_j, Nat.reduceAdd]; rfl) ?_ | refine wp_lload rfl ?_ | refine wp_goto ?_ | refine wp_ishl ?_ | refine wp_iand ?_ | refine wp_isub ?_ | refine wp_ior ?_ | refine wp_dup_ref ?_ | refine wp_dup_int ?_ | refine wp_lc ?_ | refine wp_imul ?_ | refine wp_lstore (by simp only [am_st2_e, am_st1_0, am_st1_1, am_st1_s, am_clr_n, am_clr_i, am_clr_r, am_clr_f, am_clr_u, am_clr_j, Nat.reduceAdd, List.set_cons_zero, List.set_cons_succ]; rfl) ?_ | refine wp_lcmp ?_ | refine wp_ixor ?_ | refine wp_astore (by simp only [am_st1_0, am_st1_1, am_st1_s, am_clr_n, am_clr_i, am_clr_r, am_clr_f, am_clr_u, am_clr_j, Nat.reduceAdd]; rfl) ?_ | refine wp_i2l ?_ | refine wp_l2i ?_ | refine wp_land ?_ | refine wp_iushr ?_ | refine wp_ishr ?_ | refine wp_ladd ?_ | refine wp_lmul ?_ | refine wp_lshr ?_ | refine wp_lushr ?_ | refine wp_lshl ?_ | refine wp_lsub ?_ | refine wp_lor ?_ | refine wp_i2b ?_ | refine wp_iincm rfl (by simp only [am_st1_0, am_st1_1, am_st1_s, am_clr_n, am_clr_i, am_clr_r, am_clr_f, am_clr_u, am_clr_j, Nat.reduceAdd]; rfl) ?_ | refine wp_dup2 ?_ | refine wp_ldcs ?_)
    refine wp_ifeq (fun c => ?_) (fun c => absurd (nc_step c) (by omega))
    rw [ke_225_20]
    repeat (first | refine wp_aload rfl rfl ?_ | refine wp_iload rfl ?_ | refine wp_ic ?_ | refine wp_get (by assumption) rfl ?_ | refine wp_icm ?_ | refine wp_istore (by simp only [am_st1_0, am_st1_1, am_st1_s, am_clr_n, am_clr_i, am_clr_r, am_clr_f, am_clr_u, am_clr_j, Nat.reduceAdd]; rfl) ?_ | refine wp_iadd ?_ | refine wp_iinc rfl (by simp only [am_st1_0, am_st1_1, am_st1_s, am_clr_n, am_clr_i, am_clr_r, am_clr_f, am_clr_u, am_clr_j, Nat.reduceAdd]; rfl) ?_ | refine wp_lload rfl ?_ | refine wp_goto ?_ | refine wp_ishl ?_ | refine wp_iand ?_ | refine wp_isub ?_ | refine wp_ior ?_ | refine wp_dup_ref ?_ | refine wp_dup_int ?_ | refine wp_lc ?_ | refine wp_imul ?_ | refine wp_lstore (by simp only [am_st2_e, am_st1_0, am_st1_1, am_st1_s, am_clr_n, am_clr_i, am_clr_r, am_clr_f, am_clr_u, am_clr_j, Nat.reduceAdd, List.set_cons_zero, List.set_cons_succ]; rfl) ?_ | refine wp_lcmp ?_ | refine wp_ixor ?_ | refine wp_astore (by simp only [am_st1_0, am_st1_1, am_st1_s, am_clr_n, am_clr_i, am_clr_r, am_clr_f, am_clr_u, am_clr_j, Nat.reduceAdd]; rfl) ?_ | refine wp_i2l ?_ | refine wp_l2i ?_ | refine wp_land ?_ | refine wp_iushr ?_ | refine wp_ishr ?_ | refine wp_ladd ?_ | refine wp_lmul ?_ | refine wp_lshr ?_ | refine wp_lushr ?_ | refine wp_lshl ?_ | refine wp_lsub ?_ | refine wp_lor ?_ | refine wp_i2b ?_ | refine wp_iincm rfl (by simp only [am_st1_0, am_st1_1, am_st1_s, am_clr_n, am_clr_i, am_clr_r, am_clr_f, am_clr_u, am_clr_j, Nat.reduceAdd]; rfl) ?_ | refine wp_dup2 ?_ | refine wp_ldcs ?_)
    rw [hx] at hp
    exact wp_iret ⟨_, rfl, hp⟩
  | succ k ih =>
    intro x n hx hp
    rw [ke_225_4]
    repeat (first | refine wp_aload rfl rfl ?_ | refine wp_iload rfl ?_ | refine wp_ic ?_ | refine wp_get (by assumption) rfl ?_ | refine wp_icm ?_ | refine wp_istore (by simp only [am_st1_0, am_st1_1, am_st1_s, am_clr_n, am_clr_i, am_clr_r, am_clr_f, am_clr_u, am_clr_j, Nat.reduceAdd]; rfl) ?_ | refine wp_iadd ?_ | refine wp_iinc rfl (by simp only [am_st1_0, am_st1_1, am_st1_s, am_clr_n, am_clr_i, am_clr_r, am_clr_f, am_clr_u, am_clr_j, Nat.reduceAdd]; rfl) ?_ | refine wp_lload rfl ?_ | refine wp_goto ?_ | refine wp_ishl ?_ | refine wp_iand ?_ | refine wp_isub ?_ | refine wp_ior ?_ | refine wp_dup_ref ?_ | refine wp_dup_int ?_ | refine wp_lc ?_ | refine wp_imul ?_ | refine wp_lstore (by simp only [am_st2_e, am_st1_0, am_st1_1, am_st1_s, am_clr_n, am_clr_i, am_clr_r, am_clr_f, am_clr_u, am_clr_j, Nat.reduceAdd, List.set_cons_zero, List.set_cons_succ]; rfl) ?_ | refine wp_lcmp ?_ | refine wp_ixor ?_ | refine wp_astore (by simp only [am_st1_0, am_st1_1, am_st1_s, am_clr_n, am_clr_i, am_clr_r, am_clr_f, am_clr_u, am_clr_j, Nat.reduceAdd]; rfl) ?_ | refine wp_i2l ?_ | refine wp_l2i ?_ | refine wp_land ?_ | refine wp_iushr ?_ | refine wp_ishr ?_ | refine wp_ladd ?_ | refine wp_lmul ?_ | refine wp_lshr ?_ | refine wp_lushr ?_ | refine wp_lshl ?_ | refine wp_lsub ?_ | refine wp_lor ?_ | refine wp_i2b ?_ | refine wp_iincm rfl (by simp only [am_st1_0, am_st1_1, am_st1_s, am_clr_n, am_clr_i, am_clr_r, am_clr_f, am_clr_u, am_clr_j, Nat.reduceAdd]; rfl) ?_ | refine wp_dup2 ?_ | refine wp_ldcs ?_)
    refine wp_ifeq (fun c => ?_) (fun c => ?_)
    · subst c
      have : nb_c 0 = 0 := by decide
      omega
    · repeat (first | refine wp_aload rfl rfl ?_ | refine wp_iload rfl ?_ | refine wp_ic ?_ | refine wp_get (by assumption) rfl ?_ | refine wp_icm ?_ | refine wp_istore (by simp only [am_st1_0, am_st1_1, am_st1_s, am_clr_n, am_clr_i, am_clr_r, am_clr_f, am_clr_u, am_clr_j, Nat.reduceAdd]; rfl) ?_ | refine wp_iadd ?_ | refine wp_iinc rfl (by simp only [am_st1_0, am_st1_1, am_st1_s, am_clr_n, am_clr_i, am_clr_r, am_clr_f, am_clr_u, am_clr_j, Nat.reduceAdd]; rfl) ?_ | refine wp_lload rfl ?_ | refine wp_goto ?_ | refine wp_ishl ?_ | refine wp_iand ?_ | refine wp_isub ?_ | refine wp_ior ?_ | refine wp_dup_ref ?_ | refine wp_dup_int ?_ | refine wp_lc ?_ | refine wp_imul ?_ | refine wp_lstore (by simp only [am_st2_e, am_st1_0, am_st1_1, am_st1_s, am_clr_n, am_clr_i, am_clr_r, am_clr_f, am_clr_u, am_clr_j, Nat.reduceAdd, List.set_cons_zero, List.set_cons_succ]; rfl) ?_ | refine wp_lcmp ?_ | refine wp_ixor ?_ | refine wp_astore (by simp only [am_st1_0, am_st1_1, am_st1_s, am_clr_n, am_clr_i, am_clr_r, am_clr_f, am_clr_u, am_clr_j, Nat.reduceAdd]; rfl) ?_ | refine wp_i2l ?_ | refine wp_l2i ?_ | refine wp_land ?_ | refine wp_iushr ?_ | refine wp_ishr ?_ | refine wp_ladd ?_ | refine wp_lmul ?_ | refine wp_lshr ?_ | refine wp_lushr ?_ | refine wp_lshl ?_ | refine wp_lsub ?_ | refine wp_lor ?_ | refine wp_i2b ?_ | refine wp_iincm rfl (by simp only [am_st1_0, am_st1_1, am_st1_s, am_clr_n, am_clr_i, am_clr_r, am_clr_f, am_clr_u, am_clr_j, Nat.reduceAdd]; rfl) ?_ | refine wp_dup2 ?_ | refine wp_ldcs ?_)
      have hs := nc_step c
      rw [nI_1]
      exact ih _ (n + 1) (by omega) (by rw [show n + 1 + nb_c (x &&& (x - 1)) = n + nb_c x by omega]; exact hp)
theorem m_bits {x : Int32} : am_mi xs L d 225 [.int x] h (fun z h' => z = nI (nb_c x) ∧ h' = h) := by
  refine kg_225 ?_
  repeat (first | refine wp_aload rfl rfl ?_ | refine wp_iload rfl ?_ | refine wp_ic ?_ | refine wp_get (by assumption) rfl ?_ | refine wp_icm ?_ | refine wp_istore (by simp only [am_st1_0, am_st1_1, am_st1_s, am_clr_n, am_clr_i, am_clr_r, am_clr_f, am_clr_u, am_clr_j, Nat.reduceAdd]; rfl) ?_ | refine wp_iadd ?_ | refine wp_iinc rfl (by simp only [am_st1_0, am_st1_1, am_st1_s, am_clr_n, am_clr_i, am_clr_r, am_clr_f, am_clr_u, am_clr_j, Nat.reduceAdd]; rfl) ?_ | refine wp_lload rfl ?_ | refine wp_goto ?_ | refine wp_ishl ?_ | refine wp_iand ?_ | refine wp_isub ?_ | refine wp_ior ?_ | refine wp_dup_ref ?_ | refine wp_dup_int ?_ | refine wp_lc ?_ | refine wp_imul ?_ | refine wp_lstore (by simp only [am_st2_e, am_st1_0, am_st1_1, am_st1_s, am_clr_n, am_clr_i, am_clr_r, am_clr_f, am_clr_u, am_clr_j, Nat.reduceAdd, List.set_cons_zero, List.set_cons_succ]; rfl) ?_ | refine wp_lcmp ?_ | refine wp_ixor ?_ | refine wp_astore (by simp only [am_st1_0, am_st1_1, am_st1_s, am_clr_n, am_clr_i, am_clr_r, am_clr_f, am_clr_u, am_clr_j, Nat.reduceAdd]; rfl) ?_ | refine wp_i2l ?_ | refine wp_l2i ?_ | refine wp_land ?_ | refine wp_iushr ?_ | refine wp_ishr ?_ | refine wp_ladd ?_ | refine wp_lmul ?_ | refine wp_lshr ?_ | refine wp_lushr ?_ | refine wp_lshl ?_ | refine wp_lsub ?_ | refine wp_lor ?_ | refine wp_i2b ?_ | refine wp_iincm rfl (by simp only [am_st1_0, am_st1_1, am_st1_s, am_clr_n, am_clr_i, am_clr_r, am_clr_f, am_clr_u, am_clr_j, Nat.reduceAdd]; rfl) ?_ | refine wp_dup2 ?_ | refine wp_ldcs ?_)
  exact m_bits_loop _ x 0 rfl ⟨_, rfl, by rw [Nat.zero_add], rfl⟩
end CNT
-- Integer.bitCount
theorem nc_and {a c : Nat} (b e : Nat) (ha : a < 256) (hc : c < 256) : (a + 256 * b) &&& (c + 256 * e) = (a &&& c) + 256 * (b &&& e) := by
  have h2 : (256 : Nat) = 2 ^ 8 := rfl
  have hac : a &&& c < 2 ^ 8 := Nat.and_lt_two_pow a (by omega)
  apply Nat.eq_of_testBit_eq
  intro i
  rw [Nat.testBit_and, Nat.add_comm a, Nat.add_comm c, Nat.add_comm (a &&& c), h2, Nat.testBit_two_pow_mul_add b (by omega), Nat.testBit_two_pow_mul_add e (by omega), Nat.testBit_two_pow_mul_add _ hac]
  split
  · rw [Nat.testBit_and]
  · rw [Nat.testBit_and]
/-- four bytes -/
def nc_4 (a b c e : Nat) : Nat := a + 256 * (b + 256 * (c + 256 * e))
theorem nc_and4 {a b c e a' b' c' e' : Nat} (ha : a < 256) (hb : b < 256) (hc : c < 256) (ha' : a' < 256) (hb' : b' < 256) (hc' : c' < 256) : nc_4 a b c e &&& nc_4 a' b' c' e' = nc_4 (a &&& a') (b &&& b') (c &&& c') (e &&& e') := by
  unfold nc_4
  rw [nc_and _ _ ha ha', nc_and _ _ hb hb', nc_and _ _ hc hc']
def nc_p (b : Nat) : Nat := fb_ct (fun i => b.testBit i) 8
theorem nc_f1 : ∀ b, b < 256 → ∀ t, t < 2 → ((b / 2 + 128 * t) &&& 85) = ((b / 2) &&& 85) ∧ ((b / 2) &&& 85) ≤ b := by decide +kernel
def nc_g1 (b : Nat) : Nat := b - ((b / 2) &&& 85)
theorem nc_f2 : ∀ b, b < 256 → nc_g1 b < 256 ∧ ∀ t, t < 4 → ((nc_g1 b / 4 + 64 * t) &&& 51) = ((nc_g1 b / 4) &&& 51) := by decide +kernel
def nc_g2 (b : Nat) : Nat := (nc_g1 b &&& 51) + ((nc_g1 b / 4) &&& 51)
theorem nc_f3 : ∀ b, b < 256 → nc_g2 b ≤ 68 ∧ ∀ t, t < 16 → ((nc_g2 b + nc_g2 b / 16 + 16 * t) % 256 &&& 15) = nc_p b := by decide +kernel
theorem nc_f4 : ∀ b, b < 256 → nc_g2 b % 16 ≤ 4 ∧ nc_p b ≤ 8 := by decide +kernel
theorem nc_bytes {m : Nat} (h : m < 2 ^ 32) : ∃ a b c e, a < 256 ∧ b < 256 ∧ c < 256 ∧ e < 256 ∧ m = nc_4 a b c e := by
  refine ⟨m % 256, m / 256 % 256, m / 65536 % 256, m / 16777216, by omega, by omega, by omega, by omega, ?_⟩
  unfold nc_4
  omega
theorem nc_ct4 {a b c e : Nat} (ha : a < 256) (hb : b < 256) (hc : c < 256) (he : e < 256) : fb_ct (fun i => (nc_4 a b c e).testBit i) 32 = nc_p a + nc_p b + nc_p c + nc_p e := by
  have key : ∀ (x y n : Nat), x < 256 → fb_ct (fun i => (x + 256 * y).testBit i) (8 + n) = nc_p x + fb_ct (fun i => y.testBit i) n := by
    intro x y n hx
    rw [fb_ct_split]
    congr 1
    · refine fb_ct_cong (fun k hk => ?_)
      rw [Nat.add_comm x, show (256 : Nat) = 2 ^ 8 from rfl, Nat.testBit_two_pow_mul_add y hx, if_pos hk]
    · refine fb_ct_cong (fun k hk => ?_)
      rw [Nat.add_comm x, show (256 : Nat) = 2 ^ 8 from rfl, Nat.testBit_two_pow_mul_add y hx, if_neg (by omega), show 8 + k - 8 = k by omega]
  unfold nc_4
  rw [show (32 : Nat) = 8 + 24 from rfl, key a _ 24 ha, show (24 : Nat) = 8 + 16 from rfl, key b _ 16 hb, show (16 : Nat) = 8 + 8 from rfl, key c _ 8 hc]
  unfold nc_p
  omega
