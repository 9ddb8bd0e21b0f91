-- RUNS OF THE AM ARE THE MACHINE'S
theorem am_x_mono (xs : Nat → Int32) (L : Nat) : ∀ (n d y : Nat) (is : List am_I) (lo : am_L) (st : List Value) (h : am_H) (r : am_I × List Value × am_H), am_x xs L n d y is lo st h = some r → h.1 ≤ r.2.2.1 ∧ h.2.1 ≤ r.2.2.2.1 := by
  intro n
  induction n with
  | zero => intro d y is lo st h r hr; cases hr
  | succ n ih =>
    intro d y is lo st h r hr
    cases is with
    | nil => cases hr
    | cons i is =>
      unfold am_x at hr
      split at hr
      · split at hr
        · cases hr
        · split at hr
          · split at hr
            · cases hr
            · rename_i e1
              split at hr
              · cases hr
              · split at hr
                · have a1 := ih _ _ _ _ _ _ _ e1
                  have a2 := ih _ _ _ _ _ _ _ hr
                  exact ⟨Nat.le_trans a1.1 a2.1, Nat.le_trans a1.2 a2.2⟩
                · cases hr
          · cases hr
      · split at hr
        · split at hr
          · cases hr
          · cases hr
          · split at hr
            · split at hr
              · split at hr
                · split at hr
                  · cases hr
                  · rename_i e1
                    split at hr
                    · split at hr
                      · have a1 := ih _ _ _ _ _ _ _ e1
                        have a2 := ih _ _ _ _ _ _ _ hr
                        exact ⟨Nat.le_trans (Nat.le_trans a1.1 (Nat.le_succ _)) a2.1, Nat.le_trans (Nat.le_trans a1.2 (Nat.le_add_right _ _)) a2.2⟩
                      · split at hr
                        · split at hr
                          · have a1 := ih _ _ _ _ _ _ _ e1
                            have a2 := ih _ _ _ _ _ _ _ hr
                            exact ⟨Nat.le_trans a1.1 a2.1, Nat.le_trans a1.2 a2.2⟩
                          · cases hr
                        · cases hr
                    · cases hr
                · cases hr
              · cases hr
            · cases hr
        · split at hr
          · cases hr; exact ⟨Nat.le_refl _, Nat.le_refl _⟩
          · split at hr
            · cases hr
            · rename_i e1
              have a1 := am_s_mono e1
              have a2 := ih _ _ _ _ _ _ _ hr
              exact ⟨Nat.le_trans a1.1 a2.1, Nat.le_trans a1.2 a2.2⟩
            · rename_i e1
              have a1 := am_s_mono e1
              have a2 := ih _ _ _ _ _ _ _ hr
              exact ⟨Nat.le_trans a1.1 a2.1, Nat.le_trans a1.2 a2.2⟩
theorem am_chk_suf (y t : Nat) : ∀ (is : List am_I) (pc : Nat), am_chk y pc is = true → am_chk y t (am_suf pc t is) = true := by
  intro is
  induction is with
  | nil => intro pc _; rfl
  | cons i is ih =>
    intro pc h
    by_cases e : pc = t
    · subst e
      rw [am_suf, if_pos rfl]
      exact h
    · rw [am_suf, if_neg e]
      simp only [am_chk, Bool.and_eq_true] at h
      exact ih _ h.2
theorem am_chk_j (y t : Nat) : am_chk y t (am_j y t) = true := by rw [am_j_eq]; exact am_chk_suf y t _ 0 (am_cka y)
theorem am_chk_cons {y pc : Nat} {i : am_I} {is : List am_I} (h : am_chk y pc (i :: is) = true) : (∃ j, decode (am_by y) pc = .ok (j, i.2.1) ∧ am_ok y pc i j = true) ∧ am_chk y (pc + i.2.1) is = true := by
  simp only [am_chk, Bool.and_eq_true] at h
  refine ⟨?_, h.2⟩
  cases hd : decode (am_by y) pc with
  | error z => rw [hd] at h; cases h.1
  | ok q =>
    obtain ⟨j, n⟩ := q
    rw [hd] at h
    simp only [Bool.and_eq_true, beq_iff_eq] at h
    exact ⟨j, by rw [h.1.1], h.1.2⟩
def am_ws (y : Nat) : List Cond := .code (am_nm y) (am_by y) (am_ml y) (am_rt y) :: am_gw
def am_rm (d mc ms : Nat) : Room := { frames := d + 8, cells := mc, slots := ms, locals := 60 * (d + 8) }
def am_Pre (G : am_G) (xs : Nat → Int32) (L : Nat) (adV : Nat → Nat) (av : List Value) (h : am_H) : Array Value → State → Prop := va_Pc (av.map (am_tv G)) (fun U => am_E G xs L adV U U.heap ∧ am_R G h U.heap)
def am_Post (G : am_G) (v : Option Value) (h' : am_H) : Array Value → State → Outcome → State → Prop := fun _ st oc t => oc = .returned (v.map (am_tv G)) ∧ am_R G h' t.heap ∧ va_F (am_O G) st t
theorem am_Pre_blind (G : am_G) (xs : Nat → Int32) (L : Nat) (adV : Nat → Nat) (av : List Value) (h : am_H) : FrameBlind (am_Pre G xs L adV av h) := by
  intro a U g mk q
  exact ⟨q.1, am_E.same (s := U) (U := U.calling g mk a) rfl q.2.1, q.2.2⟩
theorem am_code_in {y : Nat} (h0 : 0 < y) (h1 : y < 317) : (.code (am_nm y) (am_by y) (am_ml y) (am_rt y) : Cond) ∈ am_gw ∧ Jvm.plainName (am_nm y).cls = true ∧ am_ml y ≤ 20 := by
  have h := am_gy_ok h0 h1
  simp only [am_gy, Bool.and_eq_true, decide_eq_true_eq] at h
  exact ⟨am_gw_of ⟨List.mem_of_getElem? h.1.1.1, h.1.1.2⟩, h.1.2, h.2⟩
theorem am_gw_good {w : Cond} (h : w ∈ am_gw) : (w.onTables && w.keeps) = true ∨ ∃ ty, w = .arrayClass ty := good_of_word (List.mem_filter.mp h).2
theorem am_ws_in {y : Nat} (h0 : 0 < y) (h1 : y < 317) : GoodIn am_gw (am_ws y) := by
  intro w hw
  have h2 : w ∈ am_gw := by
    rcases List.mem_cons.mp hw with h | h
    · rw [h]; exact (am_code_in h0 h1).1
    · exact h
  exact ⟨h2, am_gw_good h2⟩
theorem am_args_sl (G : am_G) (av : List Value) : (lg_sl (av.map (am_tv G))).length = (am_args av).length := by
  induction av with
  | nil => rfl
  | cons v av ih =>
    simp only [lg_sl, List.map_cons, List.flatMap_cons, List.length_append, am_args, am_tv_cat] at ih ⊢
    split <;> simp [ih] <;> omega
theorem am_args_lv (G : am_G) : ∀ (av : List Value) (k : Nat) (i : Nat) (v : Value), (am_args av)[i]? = some (some v) → (k + i, am_tv G v) ∈ lv_args k (av.map (am_tv G)) := by
  intro av
  induction av with
  | nil => intro k i v h; simp [am_args] at h
  | cons w av ih =>
    intro k i v h
    simp only [am_args] at h
    simp only [List.map_cons, lv_args, am_tv_cat]
    by_cases hc : w.category = 2
    · rw [if_pos hc] at h
      rw [if_pos hc]
      match i, h with
      | 0, h => simp at h; subst h; exact List.mem_cons_self
      | 1, h => simp at h
      | i + 2, h => exact List.mem_cons_of_mem _ (by have := ih (k + 2) i v (by simpa using h); rwa [show k + (i + 2) = k + 2 + i by omega])
    · rw [if_neg hc] at h
      rw [if_neg hc]
      match i, h with
      | 0, h => simp at h; subst h; exact List.mem_cons_self
      | i + 1, h => exact List.mem_cons_of_mem _ (by have := ih (k + 1) i v (by simpa using h); rwa [show k + (i + 1) = k + 1 + i by omega])
theorem am_ent_lr (G : am_G) {y : Nat} {av : List Value} {ls : Array Slot} (hn : (am_args av).length ≤ am_ml y) (h : lv_has ls (am_ml y) (lv_args 0 (av.map (am_tv G)))) : am_lr G y ls (am_ent (am_ml y) av) := by
  refine ⟨by simp [am_ent]; omega, h.1, h.2.1, fun q hq => ?_⟩
  obtain ⟨i, v, e1, e2⟩ := (am_lv_mem G _ 0 q).mp hq
  subst e1
  refine h.2.2 _ (am_args_lv G av 0 i v ?_)
  unfold am_ent at e2
  by_cases hi : i < (am_args av).length
  · rw [List.getElem?_append_left hi] at e2; exact e2
  · rw [List.getElem?_append_right (by omega)] at e2
    have := List.eq_of_mem_replicate (List.mem_of_getElem? e2)
    cases this
section AMC
variable {p : Program} {l : Launch} {e : Env} {R : Room} {s : State} {m : MethodId} {args : Array Value} {below : List Frame} {meth : Method} {c : Code} {H : Heap} {locs : List Loc} {cells slots : Nat} {Q : State → Prop}
/-- behind a call -/
theorem am_go {G : am_G} {v : Option Value} {h' : am_H} {a : Array Value} {pc mc ms : Nat} {ls : Array Slot} {st0 rest : List Value} (hr : va_Run p l e R s m args below meth c H locs cells slots mc ms (F0 m pc ls st0) rest (am_Post G v h' a) (am_O G)) (hS : va_S (am_O G) s.heap H locs)
    (kk : ∀ (H1 : Heap) (locs1 : List Loc), am_R G h' H1 → va_S (am_O G) s.heap H1 locs1 → W p l e R s m args below meth c H1 locs1 (cells + mc) (slots + ms) Q (F0 m (pc + 3) ls ((v.map (am_tv G)).toList ++ rest))) : W p l e R s m args below meth c H locs cells slots Q (F0 m pc ls st0) := by
  intro T hT X
  obtain ⟨v', st₀, t, T', L, h0, X', hL, e1, e2, ⟨hv, hp, hz, hk⟩, st⟩ := hr T hT X
  cases hv
  rw [h0] at hz hk
  obtain ⟨t2, a1, b1⟩ := kk T'.heap (locs ++ L) (by rw [e1]; exact hp)
    ⟨Nat.le_trans hS.1 (by rw [e1]; exact hz), fun q h1 h2 => by rw [e1, hk q (Nat.lt_of_lt_of_le h1 hS.1) h2]; exact hS.2.1 q h1 h2, fun q hq => by
      rcases List.mem_append.mp hq with h | h
      · exact hS.2.2 q h
      · exact hL q h⟩ T' rfl X'
  exact ⟨t2, st t2 a1, b1⟩
end AMC
