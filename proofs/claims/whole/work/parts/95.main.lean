-- THE SIMULATION, by the fuel
theorem am_ok_60 {y pc ln a b : Nat} {cc : Int} {j : Instr} (h : am_ok y pc (60, ln, a, b, cc) j = true) : ∃ ix, j = .invokestatic ix ∧ ln = 3 ∧ am_okm y a cc ix 1 4 = true := by
  cases j <;> simp [am_ok] at h
  exact ⟨_, rfl, h.1, h.2⟩
theorem am_ok_62 {y pc ln a b : Nat} {cc : Int} {j : Instr} (h : am_ok y pc (62, ln, a, b, cc) j = true) : ∃ ix, j = .invokevirtual ix ∧ ln = 3 ∧ am_okm y a cc ix 0 3 = true := by
  cases j <;> simp [am_ok] at h
  exact ⟨_, rfl, h.1, h.2⟩
theorem am_ok_63 {y pc ln a b : Nat} {cc : Int} {j : Instr} (h : am_ok y pc (63, ln, a, b, cc) j = true) : ∃ ix, j = .invokespecial ix ∧ ln = 3 ∧ am_okm y a cc ix 2 5 = true := by
  cases j <;> simp [am_ok] at h
  exact ⟨_, rfl, h.1, h.2⟩
theorem am_ok_64 {y pc ln a b : Nat} {cc : Int} {j : Instr} (h : am_ok y pc (64, ln, a, b, cc) j = true) : j = .ireturn ∧ ln = 1 := by
  cases j <;> simp [am_ok] at h
  exact ⟨rfl, h⟩
theorem am_ok_65 {y pc ln a b : Nat} {cc : Int} {j : Instr} (h : am_ok y pc (65, ln, a, b, cc) j = true) : j = .lreturn ∧ ln = 1 := by
  cases j <;> simp [am_ok] at h
  exact ⟨rfl, h⟩
theorem am_ok_66 {y pc ln a b : Nat} {cc : Int} {j : Instr} (h : am_ok y pc (66, ln, a, b, cc) j = true) : j = .areturn ∧ ln = 1 := by
  cases j <;> simp [am_ok] at h
  exact ⟨rfl, h⟩
theorem am_ok_67 {y pc ln a b : Nat} {cc : Int} {j : Instr} (h : am_ok y pc (67, ln, a, b, cc) j = true) : j = .return_ ∧ ln = 1 := by
  cases j <;> simp [am_ok] at h
  exact ⟨rfl, h⟩
/-- what an AM run of n steps at most says of the machine -/
def am_Snd (xs : Nat → Int32) (L : Nat) (G : am_G) (adV : Nat → Nat) (l : Launch) (n : Nat) : Prop := ∀ (d y pc : Nat) (is : List am_I) (lo : am_L) (st : List Value) (h : am_H) (r : am_I) (rs : List Value) (h' : am_H), am_x xs L n d y is lo st h = some (r, rs, h') → ∀ (p : Program) (e : Env) (R : Room) (s : State) (m : MethodId) (args : Array Value) (below : List Frame) (meth : Method) (c : Code) (Q : State → Prop) (ls : Array Slot) (H : Heap) (locs : List Loc) (c0 s0 : Nat), am_X G xs L adV p R s m args meth c y d → am_chk y pc is = true → am_lr G y ls lo → am_R G h H → va_S (am_O G) s.heap H locs → c0 ≤ h.1 → s0 ≤ h.2.1 → h'.1 - c0 ≤ R.cells → h'.2.1 - s0 ≤ R.slots → (∀ (pc' : Nat) (is' : List am_I) (ls' : Array Slot) (H' : Heap) (locs' : List Loc), am_chk y pc' (r :: is') = true → ls'.size = am_ml y → am_R G h' H' → va_S (am_O G) s.heap H' locs' → W p l e R s m args below meth c H' locs' (h'.1 - c0) (h'.2.1 - s0) Q (F0 m pc' ls' (rs.map (am_tv G)))) → W p l e R s m args below meth c H locs (h.1 - c0) (h.2.1 - s0) Q (F0 m pc ls (st.map (am_tv G)))
/-- a method's contract, out of its run -/
theorem am_met {xs : Nat → Int32} {L : Nat} {G : am_G} {adV : Nat → Nat} {l : Launch} {n : Nat} (IH : am_Snd xs L G adV l n) {d y : Nat} {av : List Value} {h h' : am_H} {r : am_I} {rs : List Value} {v : Option Value} (hx : am_x xs L n d y (am_j y 0) (am_ent (am_ml y) av) [] h = some (r, rs, h')) (hv : am_rv r rs = some v) (hrk : am_rok y v = true) (h0 : 0 < y) (h1 : y < 317) (ha : (am_args av).length ≤ am_ml y) : Met l (am_nm y) (am_ws y) (am_rm d (h'.1 - h.1) (h'.2.1 - h.2.1)) (am_Pre G xs L adV av h) (am_Post G v h') (h'.1 - h.1) (h'.2.1 - h.2.1) (am_O G) := by
  obtain ⟨hcode, hpl, hml20⟩ := am_code_in h0 h1
  refine Met.ofW (cc := am_by y) (maxL := am_ml y) (ret := am_rt y) hpl rfl ?_
  intro p e s m args below meth c s₁ B hml hv'
  obtain ⟨rfl, hE, hR⟩ := hv'
  have hxx := B.exec
  have hb := B.bytes
  have hr := B.returns
  have hts0 := atoms_spec (ws := am_ws y) B.pre
  have hts : ∀ w ∈ am_gw, w.before (av.map (am_tv G)).toArray s = true := fun w hw => hts0 w (List.mem_cons_of_mem _ hw)
  have hown : s.vm.findClass (am_nm y).cls = some m.cls := findClass_of_methodNamed B.named
  have hlocks := B.notSynchronized
  have hini : meth.name = (am_nm y).name := (name_of_methodNamed B.named B.method).1
  have hl := lv_entry (av.map (am_tv G)) (n := am_ml y) (by rw [am_args_sl]; exact ha)
  rw [lg_entry_eq]
  generalize (lg_sl (av.map (am_tv G)) ++ List.replicate (am_ml y - (lg_sl (av.map (am_tv G))).length) Slot.unset).toArray = ls at hl ⊢
  have X : am_X G xs L adV p (am_rm d (h'.1 - h.1) (h'.2.1 - h.2.1)) s m (av.map (am_tv G)).toArray meth c y d := ⟨hxx, hb, hml, hown, hts, hE, fun z => hini.trans z, by rw [hR.1]; exact Nat.le_add_right _ _, Nat.le_refl _, Nat.le_refl _⟩
  have key := IH d y 0 (am_j y 0) _ [] h r rs h' hx p e (am_rm d (h'.1 - h.1) (h'.2.1 - h.2.1)) s m (av.map (am_tv G)).toArray below meth c (MQ below (am_Post G v h') (av.map (am_tv G)).toArray s (h'.1 - h.1) (h'.2.1 - h.2.1) (am_O G)) ls s.heap [] h.1 h.2.1 X (am_chk_j y 0) (am_ent_lr G ha hl) hR va_S.rf (Nat.le_refl _) (Nat.le_refl _) (Nat.le_refl _) (Nat.le_refl _) (fun pc' is' ls' H' locs' hck hsz hR' hS' => ?_)
  · rw [Nat.sub_self, Nat.sub_self] at key
    exact key
  · obtain ⟨⟨j, hd, hok⟩, -⟩ := am_chk_cons hck
    have post : ∀ t : State, t.heap = H' → am_Post G v h' (av.map (am_tv G)).toArray s (.returned (v.map (am_tv G))) t := fun t ht => ⟨rfl, by rw [ht]; exact hR', hS'.F ht⟩
    obtain ⟨op, ln, a, b, cc⟩ := r
    unfold am_rv at hv
    split at hv
    · rename_i eo
      have eo : op = 67 := eo
      subst eo
      obtain ⟨rfl, rfl⟩ := am_ok_67 hok
      split at hv
      · cases hv
        have hrt : am_rt y = none := by
          cases hq : am_rt y with
          | none => rfl
          | some q => simp [am_rok, hq] at hrk
        exact W.vret hxx hb (hr.trans hrt) (fun t ht _ => post t ht) hS'.2.2 hd
      · cases hv
    · split at hv
      · rename_i eo
        have eo : op = 64 := eo
        subst eo
        obtain ⟨rfl, rfl⟩ := am_ok_64 hok
        split at hv
        · rename_i x
          cases hv
          cases hq : am_rt y with
          | none => simp [am_rok, hq] at hrk
          | some q =>
            cases q <;> simp [am_rok, hq] at hrk
            · exact W.iret hxx hb (hr.trans hq) (fun t ht _ => post t ht) hS'.2.2 hd
            · exact W.zret hxx hb (hr.trans hq) (by rcases hrk with rfl | rfl <;> rfl) (fun t ht _ => post t ht) hS'.2.2 hd
        · cases hv
      · split at hv
        · rename_i eo
          have eo : op = 65 := eo
          subst eo
          obtain ⟨rfl, rfl⟩ := am_ok_65 hok
          split at hv
          · rename_i x
            cases hv
            cases hq : am_rt y with
            | none => simp [am_rok, hq] at hrk
            | some q =>
              cases q <;> simp [am_rok, hq] at hrk
              exact W.lret hxx hb (hr.trans hq) (fun t ht _ => post t ht) hS'.2.2 hd
          · cases hv
        · split at hv
          · rename_i eo
            have eo : op = 66 := eo
            subst eo
            obtain ⟨rfl, rfl⟩ := am_ok_66 hok
            split at hv
            · rename_i x
              cases hv
              cases hq : am_rt y with
              | none => simp [am_rok, hq] at hrk
              | some q =>
                cases q <;> simp [am_rok, hq] at hrk
                exact W.aret hxx hb (hr.trans hq) (Or.inl ⟨_, rfl⟩) (Or.inr ⟨_, rfl⟩) (fun t ht _ => post t ht) hS'.2.2 hd
            · cases hv
          · cases hv
set_option maxRecDepth 20000 in
theorem am_arl {z d r mc ms : Nat} (h : z ≤ 20) (k : 60 * (d + 1 + 8) ≤ r) : 8 + (z + 11) + (am_rm d mc ms).locals ≤ r := by
  have e : (am_rm d mc ms).locals = 60 * (d + 8) := rfl
  have e2 : 60 * (d + 1 + 8) = 60 * (d + 8) + 60 := by rw [show d + 1 + 8 = d + 8 + 1 from by omega, Nat.mul_succ]
  rw [e]
  rw [e2] at k
  generalize 60 * (d + 8) = w at k ⊢
  omega
theorem am_arf {d r mc ms : Nat} (k : d + 1 + 8 ≤ r) : (am_rm d mc ms).frames + 1 ≤ r := by
  have e : (am_rm d mc ms).frames = d + 8 := rfl
  rw [e]; omega
section AMD
variable {p : Program} {l : Launch} {e : Env} {R : Room} {s : State} {m : MethodId} {args : Array Value} {below : List Frame} {meth : Method} {c : Code} {H : Heap} {locs : List Loc} {cells slots : Nat} {Q : State → Prop}
theorem am_prm_spec {d : String} {n : Nat} (h : am_prm d = some n) : ∀ sig, parseMethodDescriptor d = some sig → n = sig.parameters.length := by
  intro sig hs
  unfold am_prm at h
  rw [hs] at h
  exact (Option.some.inj h).symm
/-- a call of the AM is one of the machine -/
theorem am_call {G : am_G} {xs : Nat → Int32} {L : Nat} {adV : Nat → Nat} {y d : Nat} (X : am_X G xs L adV p R s m args meth c y (d + 1)) {pc ln op a b : Nat} {cc : Int} {j : Instr} (hd : decode (am_by y) pc = .ok (j, ln)) (hok : am_ok y pc (op, ln, a, b, cc) j = true) (hop : op = 60 ∨ op = 62 ∨ op = 63)
    {av rest st : List Value} {h h' : am_H} (hst : st = av.reverse ++ rest) (hna : av.length = am_na a) (hmay : am_may op a av h = true) (hcat : am_cats rest ≤ 8) {v : Option Value}
    (hM : Met l (am_nm a) (am_ws a) (am_rm d (h'.1 - h.1) (h'.2.1 - h.2.1)) (am_Pre G xs L adV av h) (am_Post G v h') (h'.1 - h.1) (h'.2.1 - h.2.1) (am_O G))
    {ls : Array Slot} (hsz : ls.size = am_ml y) (hP : am_R G h H) (hS : va_S (am_O G) s.heap H locs) (hf : cells + (h'.1 - h.1) ≤ R.cells ∧ slots + (h'.2.1 - h.2.1) ≤ R.slots)
    (kk : ∀ (H1 : Heap) (locs1 : List Loc), am_R G h' H1 → va_S (am_O G) s.heap H1 locs1 → W p l e R s m args below meth c H1 locs1 (cells + (h'.1 - h.1)) (slots + (h'.2.1 - h.2.1)) Q (F0 m (pc + 3) ls ((v.toList ++ rest).map (am_tv G)))) : ln = 3 ∧ W p l e R s m args below meth c H locs cells slots Q (F0 m pc ls (st.map (am_tv G))) := by
  obtain ⟨hx, hb, hml, hown, hts, hE, hini, hbs, hdR, hdL⟩ := X
  have hK := hE.1
  have hEH : am_E G xs L adV s H := hE.kept hbs (fun q h1 h2 => hS.2.1 q h1 h2)
  have pre : ∀ U : State, U.heap = H → s.WarmedH U.vm → am_E G xs L adV U U.heap ∧ am_R G h U.heap := fun U hU hW => by rw [hU]; exact ⟨hEH.warm hW, hP⟩
  have kk2 : ∀ (H1 : Heap) (locs1 : List Loc), am_R G h' H1 → va_S (am_O G) s.heap H1 locs1 → W p l e R s m args below meth c H1 locs1 (cells + (h'.1 - h.1)) (slots + (h'.2.1 - h.2.1)) Q (F0 m (pc + 3) ls ((v.map (am_tv G)).toList ++ rest.map (am_tv G))) := by
    intro H1 locs1 g1 g2
    have := kk H1 locs1 g1 g2
    cases v <;> exact this
  have hfix : ∀ (Ts : List Cond), (∀ w ∈ Ts, w.before args s = true) → CallFix p m c (am_by y) (am_ml y) s args Ts (am_cn (am_ow y)) := fun Ts ht => ⟨hx, hb, hml, hown, ht⟩
  have hroom : 2 * (F0 m pc ls (st.map (am_tv G))).monitorRoom + ((rest.map (am_tv G)).map fun v => v.category).sum ≤ 8 := by
    show 2 * 0 + _ ≤ 8
    rw [am_cats_map]; omega
  -- what every call needs of its callee
  have base : ∀ (h0 : 0 < a) (h1 : a < 317), am_pln (am_nm a).cls = true → (.initialized (am_nm a).cls : Cond) ∈ am_gw → (am_rm d (h'.1 - h.1) (h'.2.1 - h.2.1)).frames + 1 ≤ R.frames ∧ 8 + (am_ml a + 11) + (am_rm d (h'.1 - h.1) (h'.2.1 - h.2.1)).locals ≤ R.locals ∧ (∀ w ∈ am_ws a, ∀ (a' : Array Value) (U : State), s.WarmedH U.vm → w.before a' U = true) ∧ (Cond.code (am_nm a) (am_by a) (am_ml a) (am_rt a)).before args s = true ∧ ((am_nm a).cls ≠ "java/lang/invoke/MethodHandle" ∧ (am_nm a).cls ≠ "java/lang/invoke/VarHandle") := by
    intro h0 h1 hpl hin
    obtain ⟨k1, k2, k3⟩ := am_code_in h0 h1
    simp only [am_pln, Bool.and_eq_true, decide_eq_true_eq] at hpl
    exact ⟨am_arf hdR, am_arl k3 hdL, pay_in hts (am_ws_in h0 h1), hts _ k1, hpl⟩
  rcases hop with rfl | rfl | rfl
  · obtain ⟨ix, rfl, rfl, hk⟩ := am_ok_60 hok
    refine ⟨rfl, ?_⟩
    obtain ⟨kd, ps, hkd, hg⟩ := am_okm_get hk
    have hstk : (F0 m pc ls (st.map (am_tv G))).stack = (av.map (am_tv G)).reverse ++ rest.map (am_tv G) := by show st.map (am_tv G) = _; rw [hst, List.map_append, List.map_reverse]
    rcases hkd with rfl | rfl
    · simp [am_gm, -decide_eq_true_eq] at hg
      obtain ⟨⟨⟨⟨g1, g2⟩, g3⟩, g4⟩, ⟨g5, g6⟩, g7⟩ := hg
      have g1 : 0 < a := by simpa using g1
      have g2 : a < 317 := by simpa using g2
      have g7 : am_prm (am_nm a).desc = some (am_na a) := by simpa using g7
      obtain ⟨b1, b2, b3, b4, b5⟩ := base g1 g2 g3 (am_gw_tb g6)
      exact am_go (va_runS (As := av.map (am_tv G)) (rest := rest.map (am_tv G)) (hfix am_gw hts) hM ⟨⟨rfl, rfl, b1, b2, b3, List.mem_cons_self, b4, hts _ (am_gw_tb g6), b5, am_prm_spec g7, hts _ (am_gw_tb g4)⟩, hts _ (am_gw_tb g5)⟩ ⟨am_Pre_blind G xs L adV av h, fun U hU hW => ⟨rfl, pre U hU hW⟩⟩ rfl (by rw [List.length_map]; exact hna) hsz hstk hroom hd hf) hS kk2
    · simp [am_gm, -decide_eq_true_eq] at hg
      obtain ⟨⟨⟨⟨g1, g2⟩, g3⟩, g4⟩, ⟨g5, g6⟩, g7⟩ := hg
      have g1 : 0 < a := by simpa using g1
      have g2 : a < 317 := by simpa using g2
      have g4 : (.methodLinkNest (am_cn (am_ow y)) ix (am_nm a) (am_host (am_ow y)) : Cond) ∈ lw_tbl := List.mem_of_getElem? (by simpa using g4)
      have g7 : am_prm (am_nm a).desc = some (am_na a) := by simpa using g7
      obtain ⟨b1, b2, b3, b4, b5⟩ := base g1 g2 g3 (am_gw_tb g6)
      exact am_go (va_runSN (As := av.map (am_tv G)) (rest := rest.map (am_tv G)) (hfix am_gw hts) hM ⟨⟨⟨rfl, rfl, b1, b2, b3, List.mem_cons_self⟩, b4, hts _ (am_gw_tb g6), b5, am_prm_spec g7, va_Nw.use rfl (hE.2.1 _ g4 rfl)⟩, hts _ (am_gw_tb g5), trivial⟩ ⟨am_Pre_blind G xs L adV av h, fun U hU hW => ⟨rfl, pre U hU hW⟩⟩ rfl (by rw [List.length_map]; exact hna) hsz hstk hroom hd hf) hS kk2
  · obtain ⟨ix, rfl, rfl, hk⟩ := am_ok_62 hok
    refine ⟨rfl, ?_⟩
    obtain ⟨kd, ps, hkd, hg⟩ := am_okm_get hk
    unfold am_may at hmay
    rw [if_neg (by decide)] at hmay
    obtain ⟨r, as, rfl⟩ : ∃ r as, av = .ref r :: as := by
      split at hmay
      · exact ⟨_, _, rfl⟩
      · cases hmay
    dsimp only at hmay
    rw [if_pos rfl] at hmay
    obtain ⟨fs, hr⟩ : ∃ fs, h.2.2 r = some (.inr (am_rc a, fs)) := by
      split at hmay
      · rename_i ci fs e
        have : ci = am_rc a := by simpa using hmay
        exact ⟨fs, by rw [e, this]⟩
      · cases hmay
    have hat : va_at G.1 am_cl (G.2.2.1 + r, .inr (am_rc a, fs.map (am_tv G))) H := (hP.2 r _ hr).2
    have hstk : (F0 m pc ls (st.map (am_tv G))).stack = (as.map (am_tv G)).reverse ++ .ref (G.2.2.1 + r) :: rest.map (am_tv G) := by
      show st.map (am_tv G) = _
      rw [hst, List.map_append, List.map_reverse, List.map_cons, List.reverse_cons, List.append_assoc]
      rfl
    rcases hkd with rfl | rfl
    · simp [am_gm, -decide_eq_true_eq] at hg
      obtain ⟨⟨⟨⟨g1, g2⟩, g3⟩, g4⟩, ⟨⟨⟨g5, g5b⟩, g6⟩, g7⟩, g8⟩ := hg
      have g1 : 0 < a := by simpa using g1
      have g2 : a < 317 := by simpa using g2
      have g7 : (am_prm (am_nm a).desc).map (fun k => k + 1) = some (am_na a) := by simpa using g7
      have g8 : (am_cl[am_rc a]?).map (fun q => q.1) = some (am_nm a).cls := by simpa using g8
      obtain ⟨np, hnp, hnp2⟩ := Option.map_eq_some_iff.mp g7
      obtain ⟨q, hq, hq2⟩ := Option.map_eq_some_iff.mp g8
      obtain ⟨b1, b2, b3, b4, b5⟩ := base g1 g2 g3 (am_gw_tb g6)
      have hrecv := va_recv hK (aw_one hat) hq (q0 := 0) rfl
      rw [hq2] at hrecv
      exact am_go (va_runV (C := (am_nm a).cls) (As := as.map (am_tv G)) (rest := rest.map (am_tv G)) (hfix am_gw hts) hM ⟨⟨rfl, rfl, b1, b2, b3, List.mem_cons_self, b4, hts _ (am_gw_tb g6), b5, am_prm_spec hnp, hts _ (am_gw_tb g4)⟩, hts _ (am_gw_tb g5), hts _ (am_gw_tb g5b)⟩ ⟨am_Pre_blind G xs L adV _ h, hrecv, fun U hU hW => ⟨rfl, pre U hU hW⟩⟩ rfl (by rw [List.length_map]; simp only [List.length_cons] at hna; omega) hsz hstk hroom hd hf) hS kk2
    · simp [am_gm, -decide_eq_true_eq] at hg
      obtain ⟨⟨⟨⟨g1, g2⟩, g3⟩, g4⟩, ⟨⟨⟨g5, g5b⟩, g6⟩, g7⟩, g8⟩ := hg
      have g1 : 0 < a := by simpa using g1
      have g2 : a < 317 := by simpa using g2
      have g4 : (.methodLinkNest (am_cn (am_ow y)) ix (am_nm a) (am_host (am_ow y)) : Cond) ∈ lw_tbl := List.mem_of_getElem? (by simpa using g4)
      have g7 : (am_prm (am_nm a).desc).map (fun k => k + 1) = some (am_na a) := by simpa using g7
      have g8 : (am_cl[am_rc a]?).map (fun q => q.1) = some (am_nm a).cls := by simpa using g8
      obtain ⟨np, hnp, hnp2⟩ := Option.map_eq_some_iff.mp g7
      obtain ⟨q, hq, hq2⟩ := Option.map_eq_some_iff.mp g8
      obtain ⟨b1, b2, b3, b4, b5⟩ := base g1 g2 g3 (am_gw_tb g6)
      have hrecv := va_recv hK (aw_one hat) hq (q0 := 0) rfl
      rw [hq2] at hrecv
      exact am_go (va_runVN (C := (am_nm a).cls) (As := as.map (am_tv G)) (rest := rest.map (am_tv G)) (hfix am_gw hts) hM ⟨⟨⟨rfl, rfl, b1, b2, b3, List.mem_cons_self⟩, b4, hts _ (am_gw_tb g6), b5, am_prm_spec hnp, va_Nw.use rfl (hE.2.1 _ g4 rfl)⟩, hts _ (am_gw_tb g5), hts _ (am_gw_tb g5b)⟩ ⟨am_Pre_blind G xs L adV _ h, hrecv, fun U hU hW => ⟨rfl, pre U hU hW⟩⟩ rfl (by rw [List.length_map]; simp only [List.length_cons] at hna; omega) hsz hstk hroom hd hf) hS kk2
  · obtain ⟨ix, rfl, rfl, hk⟩ := am_ok_63 hok
    refine ⟨rfl, ?_⟩
    obtain ⟨kd, ps, hkd, hg⟩ := am_okm_get hk
    unfold am_may at hmay
    rw [if_neg (by decide)] at hmay
    obtain ⟨r, as, rfl⟩ : ∃ r as, av = .ref r :: as := by
      split at hmay
      · exact ⟨_, _, rfl⟩
      · cases hmay
    have hstk : (F0 m pc ls (st.map (am_tv G))).stack = (as.map (am_tv G)).reverse ++ .ref (G.2.2.1 + r) :: rest.map (am_tv G) := by
      show st.map (am_tv G) = _
      rw [hst, List.map_append, List.map_reverse, List.map_cons, List.reverse_cons, List.append_assoc]
      rfl
    have wsn : am_rt a = none → am_ws a = .code (am_nm a) (am_by a) (am_ml a) none :: am_gw := fun z => by unfold am_ws; rw [z]
    rcases hkd with rfl | rfl
    · simp [am_gm, -decide_eq_true_eq] at hg
      obtain ⟨⟨⟨⟨g1, g2⟩, g3⟩, g4⟩, ⟨⟨⟨g5, g6⟩, g7⟩, g8⟩, g9⟩ := hg
      have g1 : 0 < a := by simpa using g1
      have g2 : a < 317 := by simpa using g2
      have g7 : (am_prm (am_nm a).desc).map (fun k => k + 1) = some (am_na a) := by simpa using g7
      have g8 : (am_nm a).name = "<init>" := by simpa using g8
      have g9 : am_rt a = none := by simpa using g9
      obtain ⟨np, hnp, hnp2⟩ := Option.map_eq_some_iff.mp g7
      obtain ⟨b1, b2, b3, b4, b5⟩ := base g1 g2 g3 (am_gw_tb g6)
      rw [g9] at b4
      exact am_go (va_runI (As := as.map (am_tv G)) (rest := rest.map (am_tv G)) (hfix am_gw hts) hM ⟨⟨rfl, rfl, b1, b2, b3, by rw [wsn g9]; exact List.mem_cons_self, b4, hts _ (am_gw_tb g6), b5, am_prm_spec hnp, hts _ (am_gw_tb g4)⟩, g8, hts _ (am_gw_tb g5)⟩ ⟨am_Pre_blind G xs L adV _ h, fun U hU hW => ⟨rfl, pre U hU hW⟩⟩ rfl (by rw [List.length_map]; simp only [List.length_cons] at hna; omega) hsz hstk hroom hd hf) hS kk2
    · simp [am_gm, -decide_eq_true_eq] at hg
      obtain ⟨⟨⟨⟨g1, g2⟩, g3⟩, g4⟩, ⟨⟨⟨g5, g6⟩, g7⟩, g8⟩, g9⟩ := hg
      have g1 : 0 < a := by simpa using g1
      have g2 : a < 317 := by simpa using g2
      have g4 : (.methodLinkNest (am_cn (am_ow y)) ix (am_nm a) (am_host (am_ow y)) : Cond) ∈ lw_tbl := List.mem_of_getElem? (by simpa using g4)
      have g7 : (am_prm (am_nm a).desc).map (fun k => k + 1) = some (am_na a) := by simpa using g7
      have g8 : (am_nm a).name = "<init>" := by simpa using g8
      have g9 : am_rt a = none := by simpa using g9
      obtain ⟨np, hnp, hnp2⟩ := Option.map_eq_some_iff.mp g7
      obtain ⟨b1, b2, b3, b4, b5⟩ := base g1 g2 g3 (am_gw_tb g6)
      rw [g9] at b4
      exact am_go (va_runIN (As := as.map (am_tv G)) (rest := rest.map (am_tv G)) (hfix am_gw hts) hM ⟨⟨⟨rfl, rfl, b1, b2, b3, by rw [wsn g9]; exact List.mem_cons_self⟩, b4, hts _ (am_gw_tb g6), b5, am_prm_spec hnp, va_Nw.use rfl (hE.2.1 _ g4 rfl)⟩, g8, hts _ (am_gw_tb g5)⟩ ⟨am_Pre_blind G xs L adV _ h, fun U hU hW => ⟨rfl, pre U hU hW⟩⟩ rfl (by rw [List.length_map]; simp only [List.length_cons] at hna; omega) hsz hstk hroom hd hf) hS kk2
end AMD
