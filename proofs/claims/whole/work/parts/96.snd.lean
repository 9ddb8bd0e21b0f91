-- THE SIMULATION ITSELF
theorem am_ok_call {y pc ln op a b : Nat} {cc : Int} {j : Instr} (h : am_ok y pc (op, ln, a, b, cc) j = true) (hop : op = 60 ∨ op = 62 ∨ op = 63) : 0 < a ∧ a < 317 := by
  have key : ∀ {ix k1 k2 : Nat}, am_okm y a cc ix k1 k2 = true → k1 < 9 → k2 < 9 → 0 < a ∧ a < 317 := by
    intro ix k1 k2 hk q1 q2
    obtain ⟨kd, ps, hkd, hg⟩ := am_okm_get hk
    have hlt : kd < 9 := by rcases hkd with rfl | rfl <;> assumption
    simp only [am_gm] at hg
    rw [if_neg (show ¬ kd = 9 by omega), if_neg (show ¬ kd = 10 by omega), if_neg (show ¬ kd = 11 by omega)] at hg
    simp only [Bool.and_eq_true, decide_eq_true_eq] at hg
    exact ⟨hg.1.1.1.1, hg.1.1.1.2⟩
  rcases hop with rfl | rfl | rfl
  · obtain ⟨ix, -, -, hk⟩ := am_ok_60 h; exact key hk (by decide) (by decide)
  · obtain ⟨ix, -, -, hk⟩ := am_ok_62 h; exact key hk (by decide) (by decide)
  · obtain ⟨ix, -, -, hk⟩ := am_ok_63 h; exact key hk (by decide) (by decide)
/-- the law's own call of its method led -/
theorem am_ledW {xs : Nat → Int32} {L : Nat} {G : am_G} {adV : Nat → Nat} {l : Launch} (hlt : l.stackTraces = false) {n : Nat} (IH : am_Snd xs L G adV l n) {d y : Nat} {p : Program} {e : Env} {R : Room} {s : State} {m : MethodId} {args : Array Value} {below : List Frame} {meth : Method} {c : Code} {Q : State → Prop} (X : am_X G xs L adV p R s m args meth c y (d + 2)) {pc ln a b : Nat} {cc : Int} {j : Instr} (hd : decode (am_by y) pc = .ok (j, ln)) (hok : am_ok y pc (73, ln, a, b, cc) j = true)
    {o r on : Nat} {p0 : Int32} {rest fs : List Value} {f0 : Nat → Int64} {h h' : am_H} {i' : am_I} {rs : List Value} (ho : h.2.2 o = some (.inl (1, on, .inr (.inl f0)))) (hr : h.2.2 r = some (.inr (6, fs))) (hon : 1 ≤ on) (hcat : am_cats rest ≤ 8) (hx : am_x xs L n d 70 (am_j 70 0) (am_ent (am_ml 70) [.ref r, .int p0]) [] h = some (i', rs, h')) {on' : Nat} {f1 : Nat → Int64} (ho' : h'.2.2 o = some (.inl (1, on', .inr (.inl f1))))
    {ls : Array Slot} {H : Heap} {locs : List Loc} {c0 s0 : Nat} (hsz : ls.size = am_ml y) (hP : am_R G h H) (hS : va_S (am_O G) s.heap H locs) (hc0 : c0 ≤ h.1) (hs0 : s0 ≤ h.2.1) {h2 : am_H} {v : Int32} (hend : (i'.1 = 72 ∧ v = 1 ∧ h2 = am_new h' (.inr (9, [])) 6) ∨ ∃ z : Int32, am_rv i' rs = some (some (.int z)) ∧ 1 ≤ on' ∧ v = 0 ∧ h2 = am_set h' o (.inl (1, on', .inr (.inl (vp_updL f1 0 z.toInt64))))) (hcR : h2.1 - c0 ≤ R.cells) (hsR : h2.2.1 - s0 ≤ R.slots)
    (kk : ∀ (H1 : Heap) (locs1 : List Loc), am_R G h2 H1 → va_S (am_O G) s.heap H1 locs1 → W p l e R s m args below meth c H1 locs1 (h2.1 - c0) (h2.2.1 - s0) Q (F0 m (pc + ln) ls ((Value.int v :: rest).map (am_tv G)))) : W p l e R s m args below meth c H locs (h.1 - c0) (h.2.1 - s0) Q (F0 m pc ls ((Value.ref o :: .int p0 :: .ref r :: rest).map (am_tv G))) := by
  obtain ⟨hx0, hb, hml, hown, hts, hE, hini, hbs, hdR, hdL⟩ := X
  have hj : ∃ ix, j = .invokestatic ix ∧ ln = 3 ∧ y = 0 ∧ ix = 222 := by
    cases j <;> simp [am_ok] at hok
    exact ⟨_, rfl, hok.1, hok.2.1, hok.2.2⟩
  obtain ⟨ix, rfl, rfl, rfl, rfl⟩ := hj
  have hEH : am_E G xs L adV s H := hE.kept hbs (fun q h1 h2 => hS.2.1 q h1 h2)
  have pre : ∀ U : State, U.heap = H → s.WarmedH U.vm → am_E G xs L adV U U.heap ∧ am_R G h U.heap := fun U hU hW => by rw [hU]; exact ⟨hEH.warm hW, hP⟩
  have hown2 : s.vm.findClass "GapLetterLaw" = some m.cls := hown
  have hroom : 2 * (F0 m pc ls ((Value.ref o :: .int p0 :: .ref r :: rest).map (am_tv G))).monitorRoom + ((rest.map (am_tv G)).map fun v => v.category).sum ≤ 8 := by
    show 2 * 0 + _ ≤ 8
    rw [am_cats_map]; omega
  have m1 := am_x_mono xs L _ _ _ _ _ _ _ _ hx
  dsimp only at m1
  have call : ∀ (mc ms : Nat) (v : Int32) (h2 : am_H), Met l am_ll am_lws (am_rm (d + 1) mc ms) (am_Pre G xs L adV [.ref r, .int p0, .ref o] h) (am_Post G (some (.int v)) h2) mc ms (am_O G) → h.1 - c0 + mc = h2.1 - c0 → h.2.1 - s0 + ms = h2.2.1 - s0 → h2.1 - c0 ≤ R.cells → h2.2.1 - s0 ≤ R.slots → (∀ (H1 : Heap) (locs1 : List Loc), am_R G h2 H1 → va_S (am_O G) s.heap H1 locs1 → W p l e R s m args below meth c H1 locs1 (h2.1 - c0) (h2.2.1 - s0) Q (F0 m (pc + 3) ls ((Value.int v :: rest).map (am_tv G)))) → W p l e R s m args below meth c H locs (h.1 - c0) (h.2.1 - s0) Q (F0 m pc ls ((Value.ref o :: .int p0 :: .ref r :: rest).map (am_tv G))) := by
    intro mc ms v h2 hM q1 q2 q3 q4 kk
    refine am_go (vx_runSW (hh := [(0, 9, 12, 13)]) (bytes := method_3_code) (maxL := 4) (ret := some .int) (As := ([.ref r, .int p0, .ref o] : List Value).map (am_tv G)) (rest := rest.map (am_tv G)) (nL := am_ml 0) (index := 222) (n := 3) ⟨hx0, hb, hml, hown2, hts⟩ hM ⟨⟨rfl, rfl, am_arf hdR, am_arl (by decide) hdL, pay_in hts (js_good (am_gw_tb ax_2)), List.mem_cons_self⟩, hts _ (am_gw_tb ax_2), hts _ (am_gw_tb ax_8), by decide, fun sig hs => ?_, hts _ (am_gw_tb ax_0), hts _ (am_gw_tb ax_1)⟩ ⟨am_Pre_blind G xs L adV _ h, fun U hU hW => ⟨rfl, pre U hU hW⟩⟩ rfl rfl hsz rfl hroom hd ⟨by rw [q1]; exact q3, by rw [q2]; exact q4⟩) hS (fun H1 locs1 g1 g2 => ?_)
    · have h9 : (parseMethodDescriptor am_ll.desc).map (fun d => d.parameters.length) = some 3 := by decide +kernel
      rw [hs] at h9
      exact (Option.some.inj h9).symm
    · rw [q1, q2]
      exact kk H1 locs1 g1 g2
  rcases hend with ⟨h72, rfl, rfl⟩ | ⟨z, hz, hon1, rfl, rfl⟩
  · refine call _ _ _ _ (am_ll1 (o := o) hlt IH hr hx h72) ?_ ?_ hcR hsR kk
    · show h.1 - c0 + (h'.1 + 1 - h.1) = h'.1 + 1 - c0; omega
    · show h.2.1 - s0 + (h'.2.1 + 6 - h.2.1) = h'.2.1 + 6 - s0; omega
  · refine call _ _ _ _ (am_ll0 IH hr hx ho' hz hon1) ?_ ?_ hcR hsR kk
    · show h.1 - c0 + (h'.1 - h.1) = h'.1 - c0; omega
    · show h.2.1 - s0 + (h'.2.1 - h.2.1) = h'.2.1 - s0; omega
set_option maxHeartbeats 1000000 in
theorem am_sound (xs : Nat → Int32) (L : Nat) (G : am_G) (adV : Nat → Nat) (l : Launch) (hlt : l.stackTraces = false) : ∀ n, am_Snd xs L G adV l n := by
  intro n
  induction n with
  | zero => intro d y pc is lo st h r rs h' hr; cases hr
  | succ n ih =>
    intro d y pc is lo st h r rs h' hr p e R s m args below meth c Q ls H locs c0 s0 X hck hl hP hS hc0 hs0 hcR hsR kk
    cases is with
    | nil => cases hr
    | cons i is =>
      obtain ⟨⟨j, hd, hok⟩, hck2⟩ := am_chk_cons hck
      obtain ⟨op, ln, a, b, cc⟩ := i
      unfold am_x at hr
      split at hr
      · rename_i hop
        split at hr
        · cases hr
        · rename_i d'
          split at hr
          · rename_i hc
            obtain ⟨h1, h2, h3, h4, h5⟩ := hc
            dsimp only at h1 h2 h3 h4 h5 hr hop
            split at hr
            · cases hr
            · rename_i r1 rs1 hh e1
              split at hr
              · cases hr
              · rename_i v hv
                split at hr
                · rename_i hrk
                  obtain ⟨a0, a1⟩ := am_ok_call hok hop
                  have hM := am_met ih e1 hv hrk a0 a1 h5
                  have m1 := am_x_mono xs L _ _ _ _ _ _ _ _ e1
                  have m2 := am_x_mono xs L _ _ _ _ _ _ _ _ hr
                  dsimp only at m1 m2
                  have hst : st = ((st.take b).reverse).reverse ++ st.drop b := by rw [List.reverse_reverse, List.take_append_drop]
                  refine (am_call X hd hok hop hst (by rw [List.length_reverse, List.length_take, Nat.min_eq_left h1]; exact h2) h3 h4 hM hl.2.1 hP hS ⟨by omega, by omega⟩ (fun H1 locs1 g1 g2 => ?_)).2
                  have e3 : ln = 3 := by
                    rcases hop with rfl | rfl | rfl
                    · obtain ⟨_, _, z, _⟩ := am_ok_60 hok; exact z
                    · obtain ⟨_, _, z, _⟩ := am_ok_62 hok; exact z
                    · obtain ⟨_, _, z, _⟩ := am_ok_63 hok; exact z
                  have e4 : h.1 - c0 + (hh.1 - h.1) = hh.1 - c0 := by omega
                  have e5 : h.2.1 - s0 + (hh.2.1 - h.2.1) = hh.2.1 - s0 := by omega
                  rw [e4, e5]
                  subst e3
                  exact ih _ _ (pc + 3) is lo _ hh r rs h' hr p e R s m args below meth c Q ls H1 locs1 c0 s0 X hck2 hl g1 g2 (by omega) (by omega) hcR hsR kk
                · cases hr
          · cases hr
      · split at hr
        · rename_i hop
          have hop : op = 73 := hop
          subst hop
          split at hr
          · cases hr
          · cases hr
          · rename_i d'
            split at hr
            · rename_i o p0 q st0
              split at hr
              · rename_i on f0 fs ho hq
                split at hr
                · rename_i hc
                  split at hr
                  · cases hr
                  · rename_i i1 rs1 hh e1
                    split at hr
                    · rename_i on1 f1 ho1
                      have m1 := am_x_mono xs L _ _ _ _ _ _ _ _ e1
                      split at hr
                      · rename_i he
                        have m2 := am_x_mono xs L _ _ _ _ _ _ _ _ hr
                        dsimp only [am_new] at m1 m2
                        refine am_ledW hlt ih X hd hok ho hq hc.1 hc.2 e1 ho1 hl.2.1 hP hS hc0 hs0 (Or.inl ⟨he, rfl, rfl⟩) (by dsimp only [am_new]; omega) (by dsimp only [am_new]; omega) (fun H1 locs1 g1 g2 => ?_)
                        exact ih _ _ _ is lo _ _ r rs h' hr p e R s m args below meth c Q ls H1 locs1 c0 s0 X hck2 hl g1 g2 (by dsimp only [am_new]; omega) (by dsimp only [am_new]; omega) hcR hsR kk
                      · split at hr
                        · rename_i z hz
                          split at hr
                          · rename_i hon
                            have m2 := am_x_mono xs L _ _ _ _ _ _ _ _ hr
                            dsimp only [am_set] at m1 m2
                            refine am_ledW hlt ih X hd hok ho hq hc.1 hc.2 e1 ho1 hl.2.1 hP hS hc0 hs0 (Or.inr ⟨z, hz, hon, rfl, rfl⟩) (by dsimp only [am_set]; omega) (by dsimp only [am_set]; omega) (fun H1 locs1 g1 g2 => ?_)
                            exact ih _ _ _ is lo _ _ r rs h' hr p e R s m args below meth c Q ls H1 locs1 c0 s0 X hck2 hl g1 g2 (by dsimp only [am_set]; omega) (by dsimp only [am_set]; omega) hcR hsR kk
                          · cases hr
                        · cases hr
                    · cases hr
                · cases hr
              · cases hr
            · cases hr
        · split at hr
          · cases hr
            exact kk pc is ls H locs hck hl.2.1 hP hS
          · split at hr
            · cases hr
            · rename_i l1 st1 h1 e1
              have m1 := am_s_mono e1
              have m2 := am_x_mono xs L _ _ _ _ _ _ _ _ hr
              dsimp only at m1 m2
              exact am_step X hd hok e1 hl hP hS hc0 hs0 (by omega) (by omega) (fun ls1 H1 locs1 g1 g2 g3 => ih _ _ (pc + ln) is l1 st1 h1 r rs h' hr p e R s m args below meth c Q ls1 H1 locs1 c0 s0 X hck2 g1 g2 g3 (by omega) (by omega) hcR hsR kk)
            · rename_i t l1 st1 h1 e1
              have m1 := am_s_mono e1
              have m2 := am_x_mono xs L _ _ _ _ _ _ _ _ hr
              dsimp only at m1 m2
              exact am_step X hd hok e1 hl hP hS hc0 hs0 (by omega) (by omega) (fun ls1 H1 locs1 g1 g2 g3 => ih _ _ t (am_j y t) l1 st1 h1 r rs h' hr p e R s m args below meth c Q ls1 H1 locs1 c0 s0 X (am_chk_j y t) g1 g2 g3 (by omega) (by omega) hcR hsR kk)
