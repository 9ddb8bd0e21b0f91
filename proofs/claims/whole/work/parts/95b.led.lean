-- THE LAW'S OWN led, WHICH CATCHES
-- 1. where led throws its stack is empty
def am_dl : Nat → Option (Nat × Nat)
  | 0 => some (0, 1)
  | 2 => some (0, 1)
  | 4 => some (0, 1)
  | 5 => some (1, 0)
  | 8 => some (0, 0)
  | 10 => some (2, 1)
  | 15 => some (2, 1)
  | 18 => some (2, 1)
  | 20 => some (2, 1)
  | 39 => some (1, 0)
  | 40 => some (2, 0)
  | 41 => some (0, 0)
  | 45 => some (1, 1)
  | _ => none
def am_tg (t : Nat) : Bool := t == 31 || t == 60 || t == 63 || t == 69
def am_hc : Nat → List am_I → Bool
  | _, [] => true
  | k, i :: is =>
    if i.1 = 60 ∨ i.1 = 62 ∨ i.1 = 63 then am_hc ((if (am_rt i.2.2.1).isSome = true then 1 else 0) + (k - i.2.2.2.1)) is
    else if i.1 = 73 then false
    else if i.1 = 72 then k == 0
    else if 64 ≤ i.1 ∧ i.1 ≤ 67 then true
    else match am_dl i.1 with
      | none => false
      | some (a, b) => (if i.1 = 39 ∨ i.1 = 40 ∨ i.1 = 41 then (k - a + b == 0 && am_tg i.2.2.1) else true) && (i.1 == 41 || am_hc (k - a + b) is)
theorem am_s_len {xs : Nat → Int32} {L d op ln a b : Nat} {c : Int} {lo lo' : am_L} {st st' : List Value} {h h' : am_H} {t : Option Nat} (hs : am_s xs L d (op, ln, a, b, c) lo st h = some (t, lo', st', h')) {x y : Nat} (hd : am_dl op = some (x, y)) :
    st'.length = st.length - x + y ∧ ((t = none ∧ op ≠ 41) ∨ (t = some a ∧ (op = 39 ∨ op = 40 ∨ op = 41))) := by
  have hbr : ∀ {cd : Bool} {l0 : am_L} {s0 : List Value} {h0 : am_H}, (t, lo', st', h') = am_br cd a l0 s0 h0 → st' = s0 ∧ (t = none ∨ t = some a) := by
    intro cd l0 s0 h0 e
    cases cd
    · cases e; exact ⟨rfl, Or.inl rfl⟩
    · cases e; exact ⟨rfl, Or.inr rfl⟩
  unfold am_dl at hd
  split at hd <;> (try cases hd)
  · cases ai_0 hs; exact ⟨by simp, Or.inl ⟨rfl, by decide⟩⟩
  · obtain ⟨_, _, e⟩ := ai_2 hs; cases e; exact ⟨by simp, Or.inl ⟨rfl, by decide⟩⟩
  · obtain ⟨_, _, _, e⟩ := ai_4 hs; cases e; exact ⟨by simp, Or.inl ⟨rfl, by decide⟩⟩
  · obtain ⟨_, _, rfl, e⟩ := ai_5 hs; cases e; exact ⟨by simp, Or.inl ⟨rfl, by decide⟩⟩
  · obtain ⟨_, _, e⟩ := ai_8 hs; cases e; exact ⟨by simp, Or.inl ⟨rfl, by decide⟩⟩
  · obtain ⟨_, _, _, _, rfl, _, e⟩ := ai_10 hs; cases e; exact ⟨by simp, Or.inl ⟨rfl, by decide⟩⟩
  · obtain ⟨_, _, _, _, rfl, _, e⟩ := ai_15 hs; cases e; exact ⟨by simp, Or.inl ⟨rfl, by decide⟩⟩
  · obtain ⟨_, _, _, _, rfl, _, e⟩ := ai_18 hs; cases e; exact ⟨by simp, Or.inl ⟨rfl, by decide⟩⟩
  · obtain ⟨_, _, _, _, rfl, _, e⟩ := ai_20 hs; cases e; exact ⟨by simp, Or.inl ⟨rfl, by decide⟩⟩
  · obtain ⟨_, _, rfl, e⟩ := ai_39 hs
    obtain ⟨rfl, h2⟩ := hbr e
    exact ⟨by simp, h2.elim (fun z => Or.inl ⟨z, by decide⟩) (fun z => Or.inr ⟨z, by decide⟩)⟩
  · obtain ⟨_, _, _, rfl, e⟩ := ai_40 hs
    obtain ⟨rfl, h2⟩ := hbr e
    exact ⟨by simp, h2.elim (fun z => Or.inl ⟨z, by decide⟩) (fun z => Or.inr ⟨z, by decide⟩)⟩
  · cases ai_41 hs; exact ⟨by simp, Or.inr ⟨rfl, by decide⟩⟩
  · obtain ⟨_, _, _, _, rfl, _, _, e⟩ := ai_45 hs; cases e; exact ⟨by simp, Or.inl ⟨rfl, by decide⟩⟩
theorem am_rok_len {y : Nat} {v : Option Value} (h : am_rok y v = true) : v.toList.length = if (am_rt y).isSome = true then 1 else 0 := by
  unfold am_rok at h
  split at h <;> first | (rename_i e; simp [e]; done) | (rename_i e _; simp [e]; done) | (simp_all; done)
theorem am_hc_tg {t : Nat} (h : am_tg t = true) : am_hc 0 (am_j 70 t) = true := by
  simp only [am_tg, Bool.or_eq_true, beq_iff_eq] at h
  rcases h with ((rfl | rfl) | rfl) | rfl <;> (rw [am_j_eq]; decide +kernel)
theorem am_h72 (xs : Nat → Int32) (L : Nat) : ∀ (n d : Nat) (is : List am_I) (lo : am_L) (st : List Value) (h : am_H) (i : am_I) (rs : List Value) (h' : am_H), am_x xs L n d 70 is lo st h = some (i, rs, h') → i.1 = 72 → am_hc st.length is = true → rs = [] := by
  intro n
  induction n with
  | zero => intro d is lo st h i rs h' hr; cases hr
  | succ n ih =>
    intro d is lo st h i rs h' hr h72 hc
    cases is with
    | nil => cases hr
    | cons i0 is =>
      obtain ⟨op, ln, a, b, cc⟩ := i0
      unfold am_x at hr
      unfold am_hc at hc
      split at hr
      · rename_i hop
        rw [if_pos hop] at hc
        split at hr
        · cases hr
        · split at hr
          · split at hr
            · cases hr
            · split at hr
              · cases hr
              · split at hr
                · rename_i hrk
                  refine ih _ _ _ _ _ _ _ _ hr h72 ?_
                  rw [List.length_append, List.length_drop, am_rok_len hrk]
                  exact hc
                · cases hr
          · cases hr
      · rename_i hop
        rw [if_neg hop] at hc
        split at hr
        · rename_i h73
          rw [if_pos h73] at hc
          cases hc
        · rename_i h73
          rw [if_neg h73] at hc
          split at hr
          · cases hr
            rw [if_pos h72] at hc
            have : st.length = 0 := by simpa using hc
            exact List.length_eq_zero_iff.mp this
          · rename_i hend
            dsimp only at hend hc
            rw [if_neg (fun z => hend (Or.inr z)), if_neg (fun z => hend (Or.inl z))] at hc
            split at hc
            · cases hc
            · rename_i x y hdl
              simp only [Bool.and_eq_true, Bool.or_eq_true, beq_iff_eq] at hc
              split at hr
              · cases hr
              · rename_i l1 st1 h1 e1
                obtain ⟨k1, k2⟩ := am_s_len e1 hdl
                rcases k2 with ⟨-, k2⟩ | ⟨k2, -⟩
                · rcases hc.2 with z | z
                  · exact absurd z k2
                  · exact ih _ _ _ _ _ _ _ _ hr h72 (by rw [k1]; exact z)
                · cases k2
              · rename_i t l1 st1 h1 e1
                obtain ⟨k1, k2⟩ := am_s_len e1 hdl
                rcases k2 with ⟨k2, -⟩ | ⟨k2, k3⟩
                · cases k2
                · cases k2
                  have hc1 := hc.1
                  rw [if_pos k3] at hc1
                  simp only [Bool.and_eq_true, beq_iff_eq] at hc1
                  refine ih _ _ _ _ _ _ _ _ hr h72 ?_
                  rw [k1, hc1.1]
                  exact am_hc_tg hc1.2
theorem am_hc0 : am_hc 0 (am_j 70 0) = true := by rw [am_j_eq]; decide +kernel
-- 2. what led needs to throw
abbrev am_nse : String := "java/util/NoSuchElementException"
abbrev am_nsn : List String := ["java/lang/RuntimeException", "java/lang/Exception"]
def am_atp : List Nat := [129, 1202, 1211, 1213, 1216, 1218, 1203, 1204, 139, 140, 1205, 1210, 1214, 1230, 1192, 1231, 1194, 1232, 1196, 1206, 1208, 1198, 1220, 1221, 1222, 1223, 1183, 1223, 1224, 1225, 1226, 1185, 1226, 1227, 1228, 1203, 1187, 1219, 1181, 1182, 1189, 1190, 1191, 1193, 1195, 1197, 1201, 1200, 1199]
theorem am_at_eq : vx_at0 "GapLetter" 324 am_nse am_nsn = am_atp.filterMap (fun p => lw_tbl[p]?) := by decide +kernel
theorem am_at_gd : (vx_at0 "GapLetter" 324 am_nse am_nsn).all (fun w => (goodWord w || am_isN w) && vx_ot w) = true := by decide +kernel
theorem am_at_tb {w : Cond} (h : w ∈ vx_at0 "GapLetter" 324 am_nse am_nsn) : w ∈ lw_tbl := by
  rw [am_at_eq] at h
  obtain ⟨p, -, hp⟩ := List.mem_filterMap.mp h
  exact List.mem_of_getElem? hp
theorem am_hat {G : am_G} {xs : Nat → Int32} {L : Nat} {adV : Nat → Nat} {s : State} {H : Heap} {args : Array Value} (hts : ∀ w ∈ am_gw, w.before args s = true) (hE : am_E G xs L adV s H) : ∀ w ∈ vx_at0 "GapLetter" 324 am_nse am_nsn, w.before args s = true := by
  intro w hw
  have h1 := List.all_eq_true.mp am_at_gd w hw
  simp only [Bool.and_eq_true, Bool.or_eq_true] at h1
  rcases h1.1 with h2 | h2
  · exact hts w (am_gw_of ⟨am_at_tb hw, h2⟩)
  · exact va_Nw.use (am_isN_tab h2) (hE.2.1 w (am_at_tb hw) h2)
theorem aw_c322 : am_tb 1180 (.classLink "GapLetter" 322 am_nse) = true := by decide +kernel
theorem aw_ini : am_tb 132 (.initialized am_nse) = true := by decide +kernel
theorem aw_og : vx_ot (.classLink "GapLetter" 322 am_nse) = true ∧ vx_ot (.initialized am_nse) = true := by decide +kernel
theorem am_ok_72 {y pc ln a b : Nat} {cc : Int} {j : Instr} (h : am_ok y pc (72, ln, a, b, cc) j = true) : j = .new 322 ∧ ln = 3 ∧ pc = 69 := by
  cases j <;> simp [am_ok] at h
  exact ⟨by rw [h.2.2], h.1, h.2.1.2⟩
theorem aw_d69 : decode (am_by 70) 69 = .ok (.new 322, 3) ∧ decode (am_by 70) 72 = .ok (.dup, 1) ∧ decode (am_by 70) 73 = .ok (.invokespecial 324, 3) ∧ decode (am_by 70) 76 = .ok (.athrow, 1) := by decide +kernel
theorem aw_nm70 : am_nm 70 = ⟨"GapLetter", "led", "(I)I"⟩ ∧ am_rt 70 = some .int ∧ am_rc 70 = 6 := by decide +kernel
def am_XC (G : am_G) (h2 : am_H) : String → State → State → Prop := fun E st t => E = am_nse ∧ am_R G h2 t.heap ∧ va_F (am_O G) st t
theorem am_vled {xs : Nat → Int32} {L : Nat} {G : am_G} {adV : Nat → Nat} {l : Launch} (hlt : l.stackTraces = false) {n : Nat} (IH : am_Snd xs L G adV l n) {d : Nat} {av : List Value} {h h' : am_H} {i' : am_I} {rs : List Value} (hx : am_x xs L n d 70 (am_j 70 0) (am_ent (am_ml 70) av) [] h = some (i', rs, h')) (h72 : i'.1 = 72) (ha : (am_args av).length ≤ am_ml 70) :
    vx_Met l (am_nm 70) (am_ws 70) (am_rm d (h'.1 + 1 - h.1) (h'.2.1 + 6 - h.2.1)) (am_Pre G xs L adV av h) (fun _ _ _ _ => False) (am_XC G (am_new h' (.inr (9, [])) 6)) (h'.1 + 1 - h.1) (h'.2.1 + 6 - h.2.1) (am_O G) := by
  obtain ⟨hcode, hpl, hml20⟩ := am_code_in (y := 70) (by decide) (by decide)
  have hrs : rs = [] := am_h72 xs L n d _ _ [] h i' rs h' hx h72 am_hc0
  subst hrs
  have mono := am_x_mono xs L _ _ _ _ _ _ _ _ hx
  dsimp only at mono
  refine vx_ofW (cc := am_by 70) (maxL := am_ml 70) (ret := am_rt 70) hpl rfl ?_
  intro p e s m args below meth c s₁ B hml hexc hv'
  obtain ⟨rfl, hE, hR⟩ := hv'
  have hxx := B.exec
  have hb := B.bytes
  have hts0 := atoms_spec (ws := am_ws 70) B.pre
  have hts : ∀ w ∈ am_gw, w.before (av.map (am_tv G)).toArray s = true := fun w hw => hts0 w (List.mem_cons_of_mem _ hw)
  have hown : s.vm.findClass (am_nm 70).cls = some m.cls := findClass_of_methodNamed B.named
  have hlocks := B.notSynchronized
  have hini : meth.name = (am_nm 70).name := (name_of_methodNamed B.named B.method).1
  have hl := lv_entry (av.map (am_tv G)) (n := am_ml 70) (by rw [am_args_sl]; exact ha)
  rw [lg_entry_eq]
  generalize (lg_sl (av.map (am_tv G)) ++ List.replicate (am_ml 70 - (lg_sl (av.map (am_tv G))).length) Slot.unset).toArray = ls at hl ⊢
  have X : am_X G xs L adV p (am_rm d (h'.1 + 1 - h.1) (h'.2.1 + 6 - h.2.1)) s m (av.map (am_tv G)).toArray meth c 70 d := ⟨hxx, hb, hml, hown, hts, hE, fun z => hini.trans z, by rw [hR.1]; exact Nat.le_add_right _ _, Nat.le_refl _, Nat.le_refl _⟩
  have key := IH d 70 0 (am_j 70 0) _ [] h i' [] h' hx p e (am_rm d (h'.1 + 1 - h.1) (h'.2.1 + 6 - h.2.1)) s m (av.map (am_tv G)).toArray below meth c (vx_MQ below (fun _ _ _ _ => False) (am_XC G (am_new h' (.inr (9, [])) 6)) (av.map (am_tv G)).toArray s (h'.1 + 1 - h.1) (h'.2.1 + 6 - h.2.1) (am_O G)) ls s.heap [] h.1 h.2.1 X (am_chk_j 70 0) (am_ent_lr G ha hl) hR va_S.rf (Nat.le_refl _) (Nat.le_refl _) (by show _ ≤ h'.1 + 1 - h.1; omega) (by show _ ≤ h'.2.1 + 6 - h.2.1; omega) (fun pc' is' ls' H' locs' hck hsz hR' hS' => ?_)
  · rw [Nat.sub_self, Nat.sub_self] at key
    exact key
  · obtain ⟨⟨j, hd, hok⟩, -⟩ := am_chk_cons hck
    obtain ⟨op, ln, a, b, cc⟩ := i'
    have h72 : op = 72 := h72
    subst h72
    obtain ⟨rfl, rfl, rfl⟩ := am_ok_72 hok
    have hown2 : s.vm.findClass "GapLetter" = some m.cls := by rw [← show (am_nm 70).cls = "GapLetter" from by rw [aw_nm70.1]]; exact hown
    refine am_throw0 (own := "GapLetter") (cls := am_nse) (names := am_nsn) (ik := 322) (ic := 324) (A := am_O G) hxx hb hlt hown2 (by decide) (by decide) (hts _ (am_gw_tb aw_c322)) (hts _ (am_gw_tb aw_ini)) (am_hat hts hE) ?_ hE.2.2.2.2.2.2.2.2.2.1 hE.2.2.2.2.2.2.2.2.2.2 hS' (hsz.trans hml.symm) aw_d69.1 aw_d69.2.1 aw_d69.2.2.1 aw_d69.2.2.2 (fun x hx => (hexc x hx).elim) ?_ ?_ ?_ ?_ hlocks ?_ hS'.2.2 ?_ ?_
    · intro w hw
      rcases List.mem_cons.mp hw with rfl | hw
      · exact aw_og.1
      · rcases List.mem_cons.mp hw with rfl | hw
        · exact aw_og.2
        · have h1 := List.all_eq_true.mp am_at_gd w hw
          simp only [Bool.and_eq_true] at h1
          exact h1.2
    · show 2 + 3 < d + 8; omega
    · show 0 + (13 * (2 + 1) + 42) ≤ 60 * (d + 8); omega
    · show h'.1 - h.1 + 1 ≤ h'.1 + 1 - h.1; omega
    · show h'.2.1 - h.2.1 + 6 ≤ h'.2.1 + 6 - h.2.1; omega
    · intro t hal hz ho hcell
      obtain ⟨ce, c1, c2, c3⟩ := hcell
      refine ⟨rfl, hR'.new hz ho ⟨_, rfl, ce, ?_, ?_, c2, fun k hk => absurd hk (Nat.not_lt_zero k)⟩, ?_, fun q h1 h2 => ?_⟩
      · show t.heap[G.2.2.1 + h'.1]? = some ce
        rw [← hR'.1]; exact c1
      · exact Option.some.inj (c3.symm.trans (hE.1.1 9 _ rfl).2.1)
      · rw [hz]; exact Nat.le_succ_of_le hS'.1
      · rw [ho q (Nat.lt_of_lt_of_le h1 hS'.1)]; exact hS'.2.1 q h1 h2
    · show h'.1 - h.1 + 1 ≤ h'.1 + 1 - h.1; omega
    · show h'.2.1 - h.2.1 + 6 ≤ h'.2.1 + 6 - h.2.1; omega
-- 3. the law's led
abbrev am_ll : MethodName := ⟨"GapLetterLaw", "led", "(LGapLetter;I[J)I"⟩
theorem ax_0 : am_tb 1172 (.methodLink "GapLetterLaw" 222 am_ll) = true := by decide +kernel
theorem ax_1 : am_tb 1173 (.static am_ll) = true := by decide +kernel
theorem ax_2 : am_tb 1174 (.codeWith am_ll method_3_code 4 (some .int) [(0, 9, 12, 13)]) = true := by decide +kernel
theorem ax_3 : am_tb 1175 (.classLink "GapLetterLaw" 13 am_nse) = true := by decide +kernel
theorem ax_4 : am_tb 1176 (.methodLink "GapLetterLaw" 7 (am_nm 70)) = true := by decide +kernel
theorem ax_5 : am_tb 1177 (.instanceMethod (am_nm 70)) = true := by decide +kernel
theorem ax_6 : am_tb 1178 (.selects "GapLetter" (am_nm 70) (am_nm 70)) = true := by decide +kernel
theorem ax_7 : lw_tbl[1182]? = some (.castable am_nse am_nse) := by decide +kernel
theorem ax_8 : am_tb 107 (.initialized "GapLetterLaw") = true := by decide +kernel
theorem ax_9 : am_tb 108 (.initialized (am_nm 70).cls) = true := by decide +kernel
theorem ax_d0 : decode method_3_code 0 = .ok (.aload_n 2, 1) ∧ decode method_3_code 1 = .ok (.iconst 0, 1) ∧ decode method_3_code 2 = .ok (.aload_n 0, 1) ∧ decode method_3_code 3 = .ok (.iload_n 1, 1) ∧ decode method_3_code 4 = .ok (.invokevirtual 7, 3) := by decide +kernel
theorem ax_d7 : decode method_3_code 7 = .ok (.i2l, 1) ∧ decode method_3_code 8 = .ok (.lastore, 1) ∧ decode method_3_code 9 = .ok (.goto 6, 3) ∧ decode method_3_code 15 = .ok (.iconst 0, 1) ∧ decode method_3_code 16 = .ok (.ireturn, 1) := by decide +kernel
theorem ax_d12 : decode method_3_code 12 = .ok (.astore_n 3, 1) ∧ decode method_3_code 13 = .ok (.iconst 1, 1) ∧ decode method_3_code 14 = .ok (.ireturn, 1) := by decide +kernel
theorem ax_md : (parseMethodDescriptor (am_nm 70).desc).map (fun d => d.parameters.length) = some 1 ∧ (am_nm 70).cls = "GapLetter" := by decide +kernel
def am_lws : List Cond := .codeWith am_ll method_3_code 4 (some .int) [(0, 9, 12, 13)] :: am_gw
section AML
variable {p : Program} {l : Launch} {e : Env} {R : Room} {s : State} {m : MethodId} {args : Array Value} {below : List Frame} {meth : Method} {c : Code} {H : Heap} {locs : List Loc} {cells slots : Nat} {Q : State → Prop}
theorem am_goX {G : am_G} {h2 : am_H} {pc mc ms : Nat} {ls : Array Slot} {st0 rest : List Value} (hr : vx_Run p l e R s m args below meth c H locs cells slots mc ms (F0 m pc ls st0) rest (fun _ _ _ => False) (am_XC G h2) (am_O G)) (hS : va_S (am_O G) s.heap H locs)
    (kx : ∀ (ce : Cell) (q : Addr) (H1 : Heap) (locs1 : List Loc), am_R G h2 H1 → va_S (am_O G) s.heap H1 locs1 → H1[q]? = some ce → ce.vm = .none → s.vm.findClass am_nse = some ce.cls → vx_W p l e R s m args below meth c H1 locs1 (cells + mc) (slots + ms) Q (F0 m pc ls rest) q) : W p l e R s m args below meth c H locs cells slots Q (F0 m pc ls st0) := by
  intro T hT X
  rcases hr T hT X with ⟨v, st₀, t, T', L, h0, X', hL, e1, e2, hf, st⟩ | ⟨q, st₀, t, T', L, E, ce, h0, X', hL, e1, e2, ⟨hE, hR, hz, hk⟩, hce, hcv, hcl, st⟩
  · exact hf.elim
  · subst hE
    rw [h0] at hz hk
    obtain ⟨t2, a1, b1⟩ := kx ce q T'.heap (locs ++ L) (by rw [e1]; exact hR)
      ⟨Nat.le_trans hS.1 (by rw [e1]; exact hz), fun q h1 h2 => by rw [e1, hk q (Nat.lt_of_lt_of_le h1 hS.1) h2]; exact hS.2.1 q h1 h2, fun q hq => by
        rcases List.mem_append.mp hq with h | h
        · exact hS.2.2 q h
        · exact hL q h⟩ (by rw [e1]; exact hce) hcv hcl T' rfl X'
    exact ⟨t2, st.trans a1, b1⟩
end AML
/-- led answers -/
theorem am_ll0 {xs : Nat → Int32} {L : Nat} {G : am_G} {adV : Nat → Nat} {l : Launch} {n : Nat} (IH : am_Snd xs L G adV l n) {d : Nat} {o r : Nat} {p0 : Int32} {fs : List Value} {h h' : am_H} {i' : am_I} {rs : List Value} (hr6 : h.2.2 r = some (.inr (6, fs))) (hx : am_x xs L n d 70 (am_j 70 0) (am_ent (am_ml 70) [.ref r, .int p0]) [] h = some (i', rs, h')) {on' : Nat} {f1 : Nat → Int64} (ho' : h'.2.2 o = some (.inl (1, on', .inr (.inl f1)))) {z : Int32} (hv : am_rv i' rs = some (some (.int z))) (hon : 1 ≤ on') :
    Met l am_ll am_lws (am_rm (d + 1) (h'.1 - h.1) (h'.2.1 - h.2.1)) (am_Pre G xs L adV [.ref r, .int p0, .ref o] h) (am_Post G (some (.int 0)) (am_set h' o (.inl (1, on', .inr (.inl (vp_updL f1 0 z.toInt64)))))) (h'.1 - h.1) (h'.2.1 - h.2.1) (am_O G) := by
  have hM := am_met IH (d := d) (y := 70) hx hv (by unfold am_rok; rw [aw_nm70.2.1]) (by decide) (by decide) (by show 2 ≤ am_ml 70; decide +kernel)
  refine va_MetW (cc := method_3_code) (maxL := 4) (ret := some .int) (hh := [(0, 9, 12, 13)]) (by decide) rfl ?_
  intro p e s m args below meth c s₁ B hml hv'
  obtain ⟨rfl, hE, hR⟩ := hv'
  have hxx := B.exec
  have hb := B.bytes
  have hrt := B.returns
  have hts0 := atoms_spec (ws := am_lws) B.pre
  have hts : ∀ w ∈ am_gw, w.before (([.ref r, .int p0, .ref o] : List Value).map (am_tv G)).toArray s = true := fun w hw => hts0 w (List.mem_cons_of_mem _ hw)
  have hown : s.vm.findClass "GapLetterLaw" = some m.cls := findClass_of_methodNamed B.named
  have hlocks := B.notSynchronized
  have hl := lv_entry (([.ref r, .int p0, .ref o] : List Value).map (am_tv G)) (n := 4) (by show 3 ≤ 4; decide)
  rw [lg_entry_eq]
  generalize (lg_sl (([.ref r, .int p0, .ref o] : List Value).map (am_tv G)) ++ List.replicate (4 - (lg_sl (([.ref r, .int p0, .ref o] : List Value).map (am_tv G))).length) Slot.unset).toArray = ls at hl ⊢
  refine lv_aload_n hxx hb ax_d0.1 rfl (lv_at hl 2 rfl) ?_
  refine lv_iconst (v := 0) hxx hb ax_d0.2.1 rfl ?_
  refine lv_aload_n hxx hb ax_d0.2.2.1 rfl (lv_at hl 0 rfl) ?_
  refine lv_iload_n hxx hb ax_d0.2.2.2.1 rfl (lv_at hl 1 rfl) ?_
  have hat : va_at G.1 am_cl (G.2.2.1 + r, .inr (6, fs.map (am_tv G))) s.heap := (hR.2 r _ hr6).2
  have pre : ∀ U : State, U.heap = s.heap → s.WarmedH U.vm → am_E G xs L adV U U.heap ∧ am_R G h U.heap := fun U hU hW => by rw [hU]; exact ⟨hE.warm hW, hR⟩
  have hrecv := va_recv hE.1 (aw_one hat) (show am_cl[6]? = some _ from rfl) (q0 := 0) rfl
  obtain ⟨k1, k2, k3⟩ := am_code_in (y := 70) (by decide) (by decide)
  refine am_go (va_runV (C := "GapLetter") (nL := 4) (As := [.int p0]) (rest := [.int 0, .ref (G.2.2.1 + o)]) (index := 7) (n := 1) ⟨hxx, hb, hml, hown, hts⟩ hM ⟨⟨rfl, rfl, am_arf (Nat.le_refl _), am_arl k3 (Nat.le_refl _), pay_in hts (am_ws_in (by decide) (by decide)), List.mem_cons_self, hts _ k1, hts _ (am_gw_tb ax_9), by rw [ax_md.2]; decide, fun sig hs => by have h9 := ax_md.1; rw [hs] at h9; exact (Option.some.inj h9).symm, hts _ (am_gw_tb ax_4)⟩, hts _ (am_gw_tb ax_5), hts _ (am_gw_tb ax_6)⟩ ⟨am_Pre_blind G xs L adV _ h, hrecv, fun U hU hW => ⟨rfl, pre U hU hW⟩⟩ rfl rfl hl.1 rfl (by exact Nat.le_of_ble_eq_true rfl) ax_d0.2.2.2.2 ⟨by show 0 + _ ≤ h'.1 - h.1; omega, by show 0 + _ ≤ h'.2.1 - h.2.1; omega⟩) va_S.rf (fun H1 locs1 hR1 hS1 => ?_)
  rw [Nat.zero_add, Nat.zero_add]
  refine lv_i2l hxx hb ax_d7.1 rfl ?_
  have hat1 : va_at G.1 am_cl (G.2.2.1 + o, .inl (G.2.1 1, on', .inr (.inl f1))) H1 := (hR1.2 o _ ho').2
  refine aw_last hxx hb hE.1 1 hat1 rfl (fun q => q.elim (by decide) (fun q => by have : on' ≤ 0 := q; omega)) ax_d7.2.1 (fun H2 i2 g1 g2 g3 => ?_)
  have hR2 := hR1.set (c1 := .inl (1, on', .inr (.inl (vp_updL f1 0 z.toInt64)))) ho' g2 g3 g1
  have hS2 := hS1.put (k := i2) g2 g3 (Nat.le_add_right _ _)
  refine lv_goto (tgt := 15) hxx hb ax_d7.2.2.1 rfl ?_
  refine lv_iconst (v := 0) hxx hb ax_d7.2.2.2.1 rfl ?_
  exact W.iret hxx hb hrt (fun t ht _ => ⟨rfl, by rw [ht]; exact hR2, hS2.F ht⟩) hS2.2.2 ax_d7.2.2.2.2
/-- led throws -/
theorem am_ll1 {xs : Nat → Int32} {L : Nat} {G : am_G} {adV : Nat → Nat} {l : Launch} (hlt : l.stackTraces = false) {n : Nat} (IH : am_Snd xs L G adV l n) {d : Nat} {o r : Nat} {p0 : Int32} {fs : List Value} {h h' : am_H} {i' : am_I} {rs : List Value} (hr6 : h.2.2 r = some (.inr (6, fs))) (hx : am_x xs L n d 70 (am_j 70 0) (am_ent (am_ml 70) [.ref r, .int p0]) [] h = some (i', rs, h')) (h72 : i'.1 = 72) :
    Met l am_ll am_lws (am_rm (d + 1) (h'.1 + 1 - h.1) (h'.2.1 + 6 - h.2.1)) (am_Pre G xs L adV [.ref r, .int p0, .ref o] h) (am_Post G (some (.int 1)) (am_new h' (.inr (9, [])) 6)) (h'.1 + 1 - h.1) (h'.2.1 + 6 - h.2.1) (am_O G) := by
  have hM := am_vled hlt IH (d := d) hx h72 (by show 2 ≤ am_ml 70; decide +kernel)
  refine va_MetW (cc := method_3_code) (maxL := 4) (ret := some .int) (hh := [(0, 9, 12, 13)]) (by decide) rfl ?_
  intro p e s m args below meth c s₁ B hml hv'
  obtain ⟨rfl, hE, hR⟩ := hv'
  have hxx := B.exec
  have hb := B.bytes
  have hrt := B.returns
  have hts0 := atoms_spec (ws := am_lws) B.pre
  have hts : ∀ w ∈ am_gw, w.before (([.ref r, .int p0, .ref o] : List Value).map (am_tv G)).toArray s = true := fun w hw => hts0 w (List.mem_cons_of_mem _ hw)
  have hown : s.vm.findClass "GapLetterLaw" = some m.cls := findClass_of_methodNamed B.named
  have hlocks := B.notSynchronized
  have htab : c.exceptionTable.toList = [(⟨0, 9, 12, 13⟩ : ExceptionTableEntry)] := vx_table (x := am_ll) B (hts0 _ List.mem_cons_self)
  have hl := lv_entry (([.ref r, .int p0, .ref o] : List Value).map (am_tv G)) (n := 4) (by show 3 ≤ 4; decide)
  rw [lg_entry_eq]
  generalize (lg_sl (([.ref r, .int p0, .ref o] : List Value).map (am_tv G)) ++ List.replicate (4 - (lg_sl (([.ref r, .int p0, .ref o] : List Value).map (am_tv G))).length) Slot.unset).toArray = ls at hl ⊢
  refine lv_aload_n hxx hb ax_d0.1 rfl (lv_at hl 2 rfl) ?_
  refine lv_iconst (v := 0) hxx hb ax_d0.2.1 rfl ?_
  refine lv_aload_n hxx hb ax_d0.2.2.1 rfl (lv_at hl 0 rfl) ?_
  refine lv_iload_n hxx hb ax_d0.2.2.2.1 rfl (lv_at hl 1 rfl) ?_
  have hat : va_at G.1 am_cl (G.2.2.1 + r, .inr (6, fs.map (am_tv G))) s.heap := (hR.2 r _ hr6).2
  have pre : ∀ U : State, U.heap = s.heap → s.WarmedH U.vm → am_E G xs L adV U U.heap ∧ am_R G h U.heap := fun U hU hW => by rw [hU]; exact ⟨hE.warm hW, hR⟩
  have hrecv := va_recv hE.1 (aw_one hat) (show am_cl[6]? = some _ from rfl) (q0 := 0) rfl
  obtain ⟨k1, k2, k3⟩ := am_code_in (y := 70) (by decide) (by decide)
  refine am_goX (vx_runV (C := "GapLetter") (nL := 4) (As := [.int p0]) (rest := [.int 0, .ref (G.2.2.1 + o)]) (index := 7) (n := 1) ⟨hxx, hb, hml, hown, hts⟩ hM ⟨⟨rfl, rfl, am_arf (Nat.le_refl _), am_arl k3 (Nat.le_refl _), pay_in hts (am_ws_in (by decide) (by decide)), List.mem_cons_self, hts _ k1, hts _ (am_gw_tb ax_9), by rw [ax_md.2]; decide, fun sig hs => by have h9 := ax_md.1; rw [hs] at h9; exact (Option.some.inj h9).symm, hts _ (am_gw_tb ax_4)⟩, hts _ (am_gw_tb ax_5), hts _ (am_gw_tb ax_6)⟩ ⟨am_Pre_blind G xs L adV _ h, hrecv, fun U hU hW => ⟨rfl, pre U hU hW⟩⟩ rfl rfl hl.1 rfl (by exact Nat.le_of_ble_eq_true rfl) ax_d0.2.2.2.2 ⟨by show 0 + _ ≤ h'.1 + 1 - h.1; omega, by show 0 + _ ≤ h'.2.1 + 6 - h.2.1; omega⟩) va_S.rf (fun ce q H1 locs1 hR1 hS1 hc1 hc2 hc3 => ?_)
  rw [Nat.zero_add, Nat.zero_add]
  refine am_catch (own := "GapLetterLaw") (name := am_nse) (E := am_nse) hown ⟨0, 9, 12, 13⟩ htab (by decide) (by decide) (hts _ (am_gw_tb ax_3)) (va_Nw.use rfl (hE.2.1 _ (List.mem_of_getElem? ax_7) rfl)) hc1 hc2 hc3 ?_
  refine lv_astore_n hxx hb ax_d12.1 rfl hl (by decide) rfl (fun ls1 h1 => ?_)
  refine lv_iconst (v := 1) hxx hb ax_d12.2.1 rfl ?_
  exact W.iret hxx hb hrt (fun t ht _ => ⟨rfl, by rw [ht]; exact hR1, hS1.F ht⟩) hS1.2.2 ax_d12.2.2
