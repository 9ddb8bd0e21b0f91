-- THE SIMULATION ITSELF
theorem am_ok_call {y pc ln op a b : Nat} {cc : Int} {j : Instr} (h : am_ok y pc (op, ln, a, b, cc) j = true) (hop : op = 60 ∨ op = 62 ∨ op = 63) : 0 < a ∧ a < 317 := by
  have key : ∀ {ix k1 k2 : Nat}, am_okm y a cc ix k1 k2 = true → k1 < 9 → k2 < 9 → 0 < a ∧ a < 317 := by
    intro ix k1 k2 hk q1 q2
    obtain ⟨kd, ps, hkd, hg⟩ := am_okm_get hk
    have hlt : kd < 9 := by rcases hkd with rfl | rfl <;> assumption
    simp only [am_gm] at hg
    rw [if_neg (show ¬ kd = 9 by omega), if_neg (show ¬ kd = 10 by omega), if_neg (show ¬ kd = 11 by omega)] at hg
    simp only [Bool.and_eq_true, decide_eq_true_eq] at hg
    exact ⟨hg.1.1.1.1, hg.1.1.1.2⟩
  rcases hop with rfl | rfl | rfl
  · obtain ⟨ix, -, -, hk⟩ := am_ok_60 h; exact key hk (by decide) (by decide)
  · obtain ⟨ix, -, -, hk⟩ := am_ok_62 h; exact key hk (by decide) (by decide)
  · obtain ⟨ix, -, -, hk⟩ := am_ok_63 h; exact key hk (by decide) (by decide)
/-- the law's own call of its method led: OPEN -/
theorem am_ledW {xs : Nat → Int32} {L : Nat} {G : am_G} {adV : Nat → Nat} {l : Launch} {n : Nat} (IH : am_Snd xs L G adV l n) {d y : Nat} {p : Program} {e : Env} {R : Room} {s : State} {m : MethodId} {args : Array Value} {below : List Frame} {meth : Method} {c : Code} {Q : State → Prop} (X : am_X G xs L adV p R s m args meth c y (d + 2)) {pc ln a b : Nat} {cc : Int} {j : Instr} (hd : decode (am_by y) pc = .ok (j, ln)) (hok : am_ok y pc (73, ln, a, b, cc) j = true)
    {o r on : Nat} {p0 : Int32} {rest fs : List Value} {f0 : Nat → Int64} {h h' : am_H} {i' : am_I} {rs : List Value} (ho : h.2.2 o = some (.inl (1, on, .inr (.inl f0)))) (hr : h.2.2 r = some (.inr (6, fs))) (hon : 1 ≤ on) (hcat : am_cats rest ≤ 8) (hx : am_x xs L n d 70 (am_j 70 0) (am_ent (am_ml 70) [.ref r, .int p0]) [] h = some (i', rs, h')) {on' : Nat} {f1 : Nat → Int64} (ho' : h'.2.2 o = some (.inl (1, on', .inr (.inl f1))))
    {ls : Array Slot} {H : Heap} {locs : List Loc} {c0 s0 : Nat} (hsz : ls.size = am_ml y) (hP : am_R G h H) (hS : va_S (am_O G) s.heap H locs) (hc0 : c0 ≤ h.1) (hs0 : s0 ≤ h.2.1) {h2 : am_H} {v : Int32} (hend : (i'.1 = 72 ∧ v = 1 ∧ h2 = am_new h' (.inr (9, [])) 6) ∨ ∃ z : Int32, am_rv i' rs = some (some (.int z)) ∧ 1 ≤ on' ∧ v = 0 ∧ h2 = am_set h' o (.inl (1, on', .inr (.inl (vp_updL f1 0 z.toInt64))))) (hcR : h2.1 - c0 ≤ R.cells) (hsR : h2.2.1 - s0 ≤ R.slots)
    (kk : ∀ (H1 : Heap) (locs1 : List Loc), am_R G h2 H1 → va_S (am_O G) s.heap H1 locs1 → W p l e R s m args below meth c H1 locs1 (h2.1 - c0) (h2.2.1 - s0) Q (F0 m (pc + ln) ls ((Value.int v :: rest).map (am_tv G)))) : W p l e R s m args below meth c H locs (h.1 - c0) (h.2.1 - s0) Q (F0 m pc ls ((Value.ref o :: .int p0 :: .ref r :: rest).map (am_tv G))) := sorry
set_option maxHeartbeats 1000000 in
theorem am_sound (xs : Nat → Int32) (L : Nat) (G : am_G) (adV : Nat → Nat) (l : Launch) : ∀ n, am_Snd xs L G adV l n := by
  intro n
  induction n with
  | zero => intro d y pc is lo st h r rs h' hr; cases hr
  | succ n ih =>
    intro d y pc is lo st h r rs h' hr p e R s m args below meth c Q ls H locs c0 s0 X hck hl hP hS hc0 hs0 hcR hsR kk
    cases is with
    | nil => cases hr
    | cons i is =>
      obtain ⟨⟨j, hd, hok⟩, hck2⟩ := am_chk_cons hck
      obtain ⟨op, ln, a, b, cc⟩ := i
      unfold am_x at hr
      split at hr
      · rename_i hop
        split at hr
        · cases hr
        · rename_i d'
          split at hr
          · rename_i hc
            obtain ⟨h1, h2, h3, h4, h5⟩ := hc
            dsimp only at h1 h2 h3 h4 h5 hr hop
            split at hr
            · cases hr
            · rename_i r1 rs1 hh e1
              split at hr
              · cases hr
              · rename_i v hv
                split at hr
                · rename_i hrk
                  obtain ⟨a0, a1⟩ := am_ok_call hok hop
                  have hM := am_met ih e1 hv hrk a0 a1 h5
                  have m1 := am_x_mono xs L _ _ _ _ _ _ _ _ e1
                  have m2 := am_x_mono xs L _ _ _ _ _ _ _ _ hr
                  dsimp only at m1 m2
                  have hst : st = ((st.take b).reverse).reverse ++ st.drop b := by rw [List.reverse_reverse, List.take_append_drop]
                  refine (am_call X hd hok hop hst (by rw [List.length_reverse, List.length_take, Nat.min_eq_left h1]; exact h2) h3 h4 hM hl.2.1 hP hS ⟨by omega, by omega⟩ (fun H1 locs1 g1 g2 => ?_)).2
                  have e3 : ln = 3 := by
                    rcases hop with rfl | rfl | rfl
                    · obtain ⟨_, _, z, _⟩ := am_ok_60 hok; exact z
                    · obtain ⟨_, _, z, _⟩ := am_ok_62 hok; exact z
                    · obtain ⟨_, _, z, _⟩ := am_ok_63 hok; exact z
                  have e4 : h.1 - c0 + (hh.1 - h.1) = hh.1 - c0 := by omega
                  have e5 : h.2.1 - s0 + (hh.2.1 - h.2.1) = hh.2.1 - s0 := by omega
                  rw [e4, e5]
                  subst e3
                  exact ih _ _ (pc + 3) is lo _ hh r rs h' hr p e R s m args below meth c Q ls H1 locs1 c0 s0 X hck2 hl g1 g2 (by omega) (by omega) hcR hsR kk
                · cases hr
          · cases hr
      · split at hr
        · rename_i hop
          have hop : op = 73 := hop
          subst hop
          split at hr
          · cases hr
          · cases hr
          · rename_i d'
            split at hr
            · rename_i o p0 q st0
              split at hr
              · rename_i on f0 fs ho hq
                split at hr
                · rename_i hc
                  split at hr
                  · cases hr
                  · rename_i i1 rs1 hh e1
                    split at hr
                    · rename_i on1 f1 ho1
                      have m1 := am_x_mono xs L _ _ _ _ _ _ _ _ e1
                      split at hr
                      · rename_i he
                        have m2 := am_x_mono xs L _ _ _ _ _ _ _ _ hr
                        dsimp only [am_new] at m1 m2
                        refine am_ledW ih X hd hok ho hq hc.1 hc.2 e1 ho1 hl.2.1 hP hS hc0 hs0 (Or.inl ⟨he, rfl, rfl⟩) (by dsimp only [am_new]; omega) (by dsimp only [am_new]; omega) (fun H1 locs1 g1 g2 => ?_)
                        exact ih _ _ _ is lo _ _ r rs h' hr p e R s m args below meth c Q ls H1 locs1 c0 s0 X hck2 hl g1 g2 (by dsimp only [am_new]; omega) (by dsimp only [am_new]; omega) hcR hsR kk
                      · split at hr
                        · rename_i z hz
                          split at hr
                          · rename_i hon
                            have m2 := am_x_mono xs L _ _ _ _ _ _ _ _ hr
                            dsimp only [am_set] at m1 m2
                            refine am_ledW ih X hd hok ho hq hc.1 hc.2 e1 ho1 hl.2.1 hP hS hc0 hs0 (Or.inr ⟨z, hz, hon, rfl, rfl⟩) (by dsimp only [am_set]; omega) (by dsimp only [am_set]; omega) (fun H1 locs1 g1 g2 => ?_)
                            exact ih _ _ _ is lo _ _ r rs h' hr p e R s m args below meth c Q ls H1 locs1 c0 s0 X hck2 hl g1 g2 (by dsimp only [am_set]; omega) (by dsimp only [am_set]; omega) hcR hsR kk
                          · cases hr
                        · cases hr
                    · cases hr
                · cases hr
              · cases hr
            · cases hr
        · split at hr
          · cases hr
            exact kk pc is ls H locs hck hl.2.1 hP hS
          · split at hr
            · cases hr
            · rename_i l1 st1 h1 e1
              have m1 := am_s_mono e1
              have m2 := am_x_mono xs L _ _ _ _ _ _ _ _ hr
              dsimp only at m1 m2
              exact am_step X hd hok e1 hl hP hS hc0 hs0 (by omega) (by omega) (fun ls1 H1 locs1 g1 g2 g3 => ih _ _ (pc + ln) is l1 st1 h1 r rs h' hr p e R s m args below meth c Q ls1 H1 locs1 c0 s0 X hck2 g1 g2 g3 (by omega) (by omega) hcR hsR kk)
            · rename_i t l1 st1 h1 e1
              have m1 := am_s_mono e1
              have m2 := am_x_mono xs L _ _ _ _ _ _ _ _ hr
              dsimp only at m1 m2
              exact am_step X hd hok e1 hl hP hS hc0 hs0 (by omega) (by omega) (fun ls1 H1 locs1 g1 g2 g3 => ih _ _ t (am_j y t) l1 st1 h1 r rs h' hr p e R s m args below meth c Q ls1 H1 locs1 c0 s0 X (am_chk_j y t) g1 g2 g3 (by omega) (by omega) hcR hsR kk)
