-- ONE STEP OF THE AM IS THE MACHINE'S
section AMS
variable {p : Program} {l : Launch} {e : Env} {R : Room} {s : State} {m : MethodId} {args : Array Value} {below : List Frame} {meth : Method} {c : Code} {Q : State → Prop}
/-- a method's walk: the machine, the code, the tables' words, what lies beside its cells, its room -/
def am_X (G : am_G) (xs : Nat → Int32) (L : Nat) (adV : Nat → Nat) (p : Program) (R : Room) (s : State) (m : MethodId) (args : Array Value) (meth : Method) (c : Code) (y d : Nat) : Prop :=
  p.tables.exec = Jvm.exec ∧ c.code = am_by y ∧ c.maxLocals = am_ml y ∧ s.vm.findClass (am_cn (am_ow y)) = some m.cls ∧ (∀ w ∈ am_gw, w.before args s = true) ∧ am_E G xs L adV s s.heap ∧ ((am_nm y).name = "<init>" → meth.name = "<init>") ∧ G.2.2.1 ≤ s.heap.size ∧ d + 8 ≤ R.frames ∧ 60 * (d + 8) ≤ R.locals
theorem am_inB_iff {i : Int32} {n : Nat} (h : am_inB i n = true) : vp_in i n := by
  simp only [am_inB, Bool.not_eq_true', Bool.or_eq_false_iff, decide_eq_false_iff_not] at h
  exact fun q => q.elim h.1 h.2
theorem am_fit_ok {G : am_G} {ty : FieldType} {v : Value} (h : am_fit ty v = true) : narrow ty (am_tv G v) = am_tv G v ∧ fits ty (am_tv G v) = true := by
  cases ty <;> cases v <;> first | exact ⟨rfl, rfl⟩ | (simp [am_fit] at h; done) | skip
  rename_i x
  simp only [am_fit, Bool.or_eq_true, beq_iff_eq] at h
  rcases h with rfl | rfl <;> exact ⟨rfl, rfl⟩
theorem am_strlen {G : am_G} {xs : Nat → Int32} {L : Nat} {adV : Nat → Nat} {y d : Nat} (hx : p.tables.exec = Jvm.exec) (hb : c.code = am_by y) (hml : c.maxLocals = am_ml y) (hown : s.vm.findClass (am_cn (am_ow y)) = some m.cls) (hts : ∀ w ∈ am_gw, w.before args s = true) (hE : am_E G xs L adV s s.heap) (hbs : G.2.2.1 ≤ s.heap.size) (hdR : d + 8 ≤ R.frames) (hdL : 60 * (d + 8) ≤ R.locals) {pc a b ix : Nat} {cc : Int} (hd : decode (am_by y) pc = .ok (.invokevirtual ix, 3)) (hk : am_okm y 0 cc ix 10 10 = true) {lo lo' : am_L} {st st' : List Value} {h h' : am_H} {t : Option Nat} (hs : am_s xs L d (69, 3, a, b, cc) lo st h = some (t, lo', st', h')) {ls : Array Slot} {H : Heap} {locs : List Loc} (hl : am_lr G y ls lo) (hP : am_R G h H) (hS : va_S (am_O G) s.heap H locs) {c0 s0 : Nat} (hcR : h'.1 - c0 ≤ R.cells) (hsR : h'.2.1 - s0 ≤ R.slots)
    (kk : ∀ (ls' : Array Slot) (H' : Heap) (locs' : List Loc), am_lr G y ls' lo' → am_R G h' H' → va_S (am_O G) s.heap H' locs' → W p l e R s m args below meth c H' locs' (h'.1 - c0) (h'.2.1 - s0) Q (F0 m (t.getD (pc + 3)) ls' (st'.map (am_tv G)))) : W p l e R s m args below meth c H locs (h.1 - c0) (h.2.1 - s0) Q (F0 m pc ls (st.map (am_tv G))) := by
  obtain ⟨u, st0, rfl, ⟨hu, hd3, hcat⟩, e2⟩ := ai_69 hs
  cases e2
  have hEH : am_E G xs L adV s H := hE.kept hbs (fun q h1 h2 => hS.2.1 q h1 h2)
  have pre : ∀ U : State, U.heap = H → s.WarmedH U.vm → am_E G xs L adV U U.heap := fun U hU hW => by rw [hU]; exact hEH.warm hW
  obtain ⟨cB, q1, q2, q3, -⟩ := (hEH.2.2.2.2.2.2.1 u.toNat hu).1
  have hroom : 2 * (F0 m pc ls ((Value.float u :: st0).map (am_tv G))).monitorRoom + ((st0.map (am_tv G)).map fun v => v.category).sum ≤ 8 := by
    show 2 * 0 + _ ≤ 8
    rw [am_cats_map]; omega
  exact js_go (va_runV (C := "java/lang/String") (As := []) (rest := st0.map (am_tv G)) (nL := am_ml y) ⟨hx, hb, hml, hown, hts⟩ (js_length (l := l) (G := G) (xs := xs) (L := L) (adV := adV) hu) ⟨js_cb hts (am_gw_tb jw_len3) (am_gw_tb jw_i0) (am_okls_spec hk) (by decide) (n := 0) (by decide +kernel) (by omega) (by omega) (by decide), hts _ (am_gw_tb jw_len1), hts _ (am_gw_tb jw_len2)⟩ ⟨am_Pj_blind G xs L adV _, ⟨cB, q1, q2, q3⟩, fun U hU hW => ⟨rfl, pre U hU hW⟩⟩ rfl rfl hl.2.1 rfl hroom hd ⟨hcR, hsR⟩) hS (fun locs1 hS1 => kk ls H locs1 hl hP hS1)
theorem am_charat {G : am_G} {xs : Nat → Int32} {L : Nat} {adV : Nat → Nat} {y d : Nat} (hx : p.tables.exec = Jvm.exec) (hb : c.code = am_by y) (hml : c.maxLocals = am_ml y) (hown : s.vm.findClass (am_cn (am_ow y)) = some m.cls) (hts : ∀ w ∈ am_gw, w.before args s = true) (hE : am_E G xs L adV s s.heap) (hbs : G.2.2.1 ≤ s.heap.size) (hdR : d + 8 ≤ R.frames) (hdL : 60 * (d + 8) ≤ R.locals) {pc a b ix : Nat} {cc : Int} (hd : decode (am_by y) pc = .ok (.invokevirtual ix, 3)) (hk : am_okm y 1 cc ix 10 10 = true) {lo lo' : am_L} {st st' : List Value} {h h' : am_H} {t : Option Nat} (hs : am_s xs L d (70, 3, a, b, cc) lo st h = some (t, lo', st', h')) {ls : Array Slot} {H : Heap} {locs : List Loc} (hl : am_lr G y ls lo) (hP : am_R G h H) (hS : va_S (am_O G) s.heap H locs) {c0 s0 : Nat} (hcR : h'.1 - c0 ≤ R.cells) (hsR : h'.2.1 - s0 ≤ R.slots)
    (kk : ∀ (ls' : Array Slot) (H' : Heap) (locs' : List Loc), am_lr G y ls' lo' → am_R G h' H' → va_S (am_O G) s.heap H' locs' → W p l e R s m args below meth c H' locs' (h'.1 - c0) (h'.2.1 - s0) Q (F0 m (t.getD (pc + 3)) ls' (st'.map (am_tv G)))) : W p l e R s m args below meth c H locs (h.1 - c0) (h.2.1 - s0) Q (F0 m pc ls (st.map (am_tv G))) := by
  obtain ⟨j, u, st0, rfl, ⟨hu, hd3, hcat, hj⟩, e2⟩ := ai_70 hs
  cases e2
  have hEH : am_E G xs L adV s H := hE.kept hbs (fun q h1 h2 => hS.2.1 q h1 h2)
  have pre : ∀ U : State, U.heap = H → s.WarmedH U.vm → am_E G xs L adV U U.heap := fun U hU hW => by rw [hU]; exact hEH.warm hW
  obtain ⟨cB, q1, q2, q3, -⟩ := (hEH.2.2.2.2.2.2.1 u.toNat hu).1
  have hroom : 2 * (F0 m pc ls ((Value.int j :: Value.float u :: st0).map (am_tv G))).monitorRoom + ((st0.map (am_tv G)).map fun v => v.category).sum ≤ 8 := by
    show 2 * 0 + _ ≤ 8
    rw [am_cats_map]; omega
  exact js_go (va_runV (C := "java/lang/String") (As := [.int j]) (rest := st0.map (am_tv G)) (nL := am_ml y) ⟨hx, hb, hml, hown, hts⟩ (js_charAt (l := l) (G := G) (xs := xs) (L := L) (adV := adV) hu hj) ⟨js_cb hts (am_gw_tb jw_cha3) (am_gw_tb jw_i0) (am_okca_spec hk) (by decide) (n := 1) (by decide +kernel) (by omega) (by omega) (by decide), hts _ (am_gw_tb jw_cha1), hts _ (am_gw_tb jw_cha2)⟩ ⟨am_Pj_blind G xs L adV _, ⟨cB, q1, q2, q3⟩, fun U hU hW => ⟨rfl, pre U hU hW⟩⟩ rfl rfl hl.2.1 rfl hroom hd ⟨hcR, hsR⟩) hS (fun locs1 hS1 => kk ls H locs1 hl hP hS1)
set_option maxHeartbeats 4000000 in
theorem am_step {G : am_G} {xs : Nat → Int32} {L : Nat} {adV : Nat → Nat} {y d : Nat} (X : am_X G xs L adV p R s m args meth c y d) {pc ln op a b : Nat} {cc : Int} {j : Instr} (hd : decode (am_by y) pc = .ok (j, ln)) (hok : am_ok y pc (op, ln, a, b, cc) j = true) {lo lo' : am_L} {st st' : List Value} {h h' : am_H} {t : Option Nat} (hs : am_s xs L d (op, ln, a, b, cc) lo st h = some (t, lo', st', h')) {ls : Array Slot} {H : Heap} {locs : List Loc} (hl : am_lr G y ls lo) (hP : am_R G h H) (hS : va_S (am_O G) s.heap H locs) {c0 s0 : Nat} (hc0 : c0 ≤ h.1) (hs0 : s0 ≤ h.2.1) (hcR : h'.1 - c0 ≤ R.cells) (hsR : h'.2.1 - s0 ≤ R.slots)
    (kk : ∀ (ls' : Array Slot) (H' : Heap) (locs' : List Loc), am_lr G y ls' lo' → am_R G h' H' → va_S (am_O G) s.heap H' locs' → W p l e R s m args below meth c H' locs' (h'.1 - c0) (h'.2.1 - s0) Q (F0 m (t.getD (pc + ln)) ls' (st'.map (am_tv G)))) : W p l e R s m args below meth c H locs (h.1 - c0) (h.2.1 - s0) Q (F0 m pc ls (st.map (am_tv G))) := by
  obtain ⟨hx, hb, hml, hown, hts, hE, hini, hbs, hdR8, hdL8⟩ := X
  have hdR : d ≤ R.frames := by omega
  have hdL : 60 * d ≤ R.locals := by omega
  have hK := hE.1
  have hA : ∀ q : Nat, s.heap.size ≤ q → am_O G q := fun q z => Nat.le_trans hbs z
  have hH : G.2.2.1 ≤ H.size := by rw [hP.1]; exact Nat.le_add_right _ _
  cases j
  case iconst n =>
    simp only [am_ok, Bool.and_eq_true, beq_iff_eq, decide_eq_true_eq] at hok
    obtain ⟨⟨rfl, rfl⟩, hv⟩ := hok
    cases ai_0 hs
    exact lv_iconst hx hb hd hv (kk ls H locs hl hP hS)
  case bipush n =>
    simp only [am_ok, Bool.and_eq_true, beq_iff_eq, decide_eq_true_eq] at hok
    obtain ⟨⟨rfl, rfl⟩, hv⟩ := hok
    cases ai_0 hs
    exact lv_bipush hx hb hd hv (kk ls H locs hl hP hS)
  case sipush n =>
    simp only [am_ok, Bool.and_eq_true, beq_iff_eq, decide_eq_true_eq] at hok
    obtain ⟨⟨rfl, rfl⟩, hv⟩ := hok
    cases ai_0 hs
    exact lv_sipush hx hb hd hv (kk ls H locs hl hP hS)
  case lconst n =>
    simp only [am_ok, Bool.and_eq_true, beq_iff_eq, decide_eq_true_eq] at hok
    obtain ⟨⟨rfl, rfl⟩, hv⟩ := hok
    cases ai_1 hs
    exact lv_lconst hx hb hd hv (kk ls H locs hl hP hS)
  case ldc ix =>
    simp only [am_ok, Bool.and_eq_true, Bool.or_eq_true, beq_iff_eq] at hok
    obtain ⟨rfl, ⟨rfl, hk⟩ | ⟨rfl, hk⟩⟩ := hok
    · cases ai_0 hs
      have hw := am_okk_spec hk
      rw [if_pos rfl] at hw
      exact lv_ldc hx hb hown (hts _ hw) hd (kk ls H locs hl hP hS)
    · cases ai_68 hs
      unfold am_oks at hk
      cases he : am_ps[b]? with
      | none => rw [he] at hk; cases hk
      | some e0 =>
        obtain ⟨o, ix2, k, q⟩ := e0
        rw [he] at hk
        simp only [Bool.and_eq_true, beq_iff_eq] at hk
        obtain ⟨⟨rfl, rfl⟩, rfl⟩ := hk
        have hz := hE.2.2.2.2.2.1 _ (List.mem_of_getElem? he)
        refine va_ldcS hx hb hown hz hd ?_
        have hk2 := kk ls H locs hl hP hS
        have hlt : k < 4294967296 := Nat.lt_of_lt_of_le (am_ps_lt _ (List.mem_of_getElem? he)) (by decide)
        have e1 : am_tv G (.float (UInt32.ofNat k)) = .ref (G.2.2.2 k) := by show Value.ref (G.2.2.2 (UInt32.ofNat k).toNat) = _; rw [show (UInt32.ofNat k).toNat = k from Nat.mod_eq_of_lt hlt]
        rw [List.map_cons, e1] at hk2
        exact hk2
  case ldc_w ix =>
    simp only [am_ok, Bool.and_eq_true, beq_iff_eq, decide_eq_true_eq] at hok
    obtain ⟨⟨rfl, rfl⟩, hk⟩ := hok
    cases ai_0 hs
    have hw := am_okk_spec hk
    rw [if_pos rfl] at hw
    exact lv_ldcw hx hb hown (hts _ hw) hd (kk ls H locs hl hP hS)
  case ldc2_w ix =>
    simp only [am_ok, Bool.and_eq_true, beq_iff_eq, decide_eq_true_eq] at hok
    obtain ⟨⟨rfl, rfl⟩, hk⟩ := hok
    cases ai_1 hs
    have hw := am_okk_spec hk
    rw [if_neg (by decide)] at hw
    exact lv_ldc2 hx hb hown (hts _ hw) hd (kk ls H locs hl hP hS)
  case iload_n k =>
    simp only [am_ok, Bool.and_eq_true, beq_iff_eq, decide_eq_true_eq] at hok
    obtain ⟨⟨rfl, rfl⟩, rfl⟩ := hok
    obtain ⟨x, e1, e2⟩ := ai_2 hs
    cases e2
    exact lv_iload_n hx hb hd rfl (hl.at e1) (kk ls H locs hl hP hS)
  case iload k =>
    simp only [am_ok, Bool.and_eq_true, beq_iff_eq, decide_eq_true_eq] at hok
    obtain ⟨⟨rfl, rfl⟩, rfl⟩ := hok
    obtain ⟨x, e1, e2⟩ := ai_2 hs
    cases e2
    exact lv_iload hx hb hd (hl.at e1) (kk ls H locs hl hP hS)
  case lload_n k =>
    simp only [am_ok, Bool.and_eq_true, beq_iff_eq, decide_eq_true_eq] at hok
    obtain ⟨⟨rfl, rfl⟩, rfl⟩ := hok
    obtain ⟨x, e1, e2⟩ := ai_3 hs
    cases e2
    exact lv_lload_n hx hb hd rfl (hl.at e1) (kk ls H locs hl hP hS)
  case lload k =>
    simp only [am_ok, Bool.and_eq_true, beq_iff_eq, decide_eq_true_eq] at hok
    obtain ⟨⟨rfl, rfl⟩, rfl⟩ := hok
    obtain ⟨x, e1, e2⟩ := ai_3 hs
    cases e2
    exact lv_lload hx hb hd (hl.at e1) (kk ls H locs hl hP hS)
  case aload_n k =>
    simp only [am_ok, Bool.and_eq_true, beq_iff_eq, decide_eq_true_eq] at hok
    obtain ⟨⟨rfl, rfl⟩, rfl⟩ := hok
    obtain ⟨v, e1, hv, e2⟩ := ai_4 hs
    cases e2
    rcases hv with ⟨x, rfl⟩ | rfl | ⟨x, rfl⟩
    · exact lv_aload_n hx hb hd rfl (hl.at e1) (kk ls H locs hl hP hS)
    · exact lv_aload_nN hx hb hd rfl (hl.at e1) (kk ls H locs hl hP hS)
    · exact lv_aload_n hx hb hd rfl (hl.at e1) (kk ls H locs hl hP hS)
  case aload k =>
    simp only [am_ok, Bool.and_eq_true, beq_iff_eq, decide_eq_true_eq] at hok
    obtain ⟨⟨rfl, rfl⟩, rfl⟩ := hok
    obtain ⟨v, e1, hv, e2⟩ := ai_4 hs
    cases e2
    rcases hv with ⟨x, rfl⟩ | rfl | ⟨x, rfl⟩
    · exact lv_aload hx hb hd (hl.at e1) (kk ls H locs hl hP hS)
    · exact lv_aloadN hx hb hd (hl.at e1) (kk ls H locs hl hP hS)
    · exact lv_aload hx hb hd (hl.at e1) (kk ls H locs hl hP hS)
  case istore_n k =>
    simp only [am_ok, Bool.and_eq_true, beq_iff_eq, decide_eq_true_eq] at hok
    obtain ⟨⟨⟨rfl, rfl⟩, rfl⟩, ha⟩ := hok
    obtain ⟨x, st0, rfl, e2⟩ := ai_5 hs
    cases e2
    exact lv_istore_n hx hb hd rfl hl.2 ha rfl (fun ls1 h1 => kk ls1 H locs (hl.st1 h1) hP hS)
  case istore k =>
    simp only [am_ok, Bool.and_eq_true, beq_iff_eq, decide_eq_true_eq] at hok
    obtain ⟨⟨⟨rfl, rfl⟩, rfl⟩, ha⟩ := hok
    obtain ⟨x, st0, rfl, e2⟩ := ai_5 hs
    cases e2
    exact lv_istore hx hb hd hl.2 ha rfl (fun ls1 h1 => kk ls1 H locs (hl.st1 h1) hP hS)
  case lstore_n k =>
    simp only [am_ok, Bool.and_eq_true, beq_iff_eq, decide_eq_true_eq] at hok
    obtain ⟨⟨⟨rfl, rfl⟩, rfl⟩, ha⟩ := hok
    obtain ⟨x, st0, rfl, e2⟩ := ai_6 hs
    cases e2
    exact lv_lstore_n hx hb hd rfl hl.2 ha rfl (fun ls1 h1 => kk ls1 H locs (hl.st2 h1) hP hS)
  case lstore k =>
    simp only [am_ok, Bool.and_eq_true, beq_iff_eq, decide_eq_true_eq] at hok
    obtain ⟨⟨⟨rfl, rfl⟩, rfl⟩, ha⟩ := hok
    obtain ⟨x, st0, rfl, e2⟩ := ai_6 hs
    cases e2
    exact lv_lstore hx hb hd hl.2 ha rfl (fun ls1 h1 => kk ls1 H locs (hl.st2 h1) hP hS)
  case astore_n k =>
    simp only [am_ok, Bool.and_eq_true, beq_iff_eq, decide_eq_true_eq] at hok
    obtain ⟨⟨⟨rfl, rfl⟩, rfl⟩, ha⟩ := hok
    obtain ⟨v, st0, rfl, hv, e2⟩ := ai_7 hs
    cases e2
    rcases hv with ⟨x, rfl⟩ | rfl
    · exact lv_astore_n hx hb hd rfl hl.2 ha rfl (fun ls1 h1 => kk ls1 H locs (hl.st1 h1) hP hS)
    · exact lv_astore_nN hx hb hd rfl hl.2 ha rfl (fun ls1 h1 => kk ls1 H locs (hl.st1 h1) hP hS)
  case astore k =>
    simp only [am_ok, Bool.and_eq_true, beq_iff_eq, decide_eq_true_eq] at hok
    obtain ⟨⟨⟨rfl, rfl⟩, rfl⟩, ha⟩ := hok
    obtain ⟨v, st0, rfl, hv, e2⟩ := ai_7 hs
    cases e2
    rcases hv with ⟨x, rfl⟩ | rfl
    · exact lv_astore hx hb hd hl.2 ha rfl (fun ls1 h1 => kk ls1 H locs (hl.st1 h1) hP hS)
    · exact lv_astoreN hx hb hd hl.2 ha rfl (fun ls1 h1 => kk ls1 H locs (hl.st1 h1) hP hS)
  case iinc k n =>
    simp only [am_ok, Bool.and_eq_true, beq_iff_eq, decide_eq_true_eq] at hok
    obtain ⟨⟨⟨⟨rfl, rfl⟩, rfl⟩, rfl⟩, ha⟩ := hok
    obtain ⟨x, e1, e2⟩ := ai_8 hs
    cases e2
    have e3 : (a, Value.int x) ∈ am_lv G 0 lo := by
      refine (am_lv_mem G lo 0 _).mpr ⟨a, .int x, by rw [Nat.zero_add]; rfl, ?_⟩
      unfold am_ld at e1
      cases hk : lo[a]? with
      | none => rw [hk] at e1; cases e1
      | some z => rw [hk] at e1; rw [show z = some (.int x) from e1]
    obtain ⟨k0, hk0⟩ := List.getElem?_of_mem e3
    exact lv_iinc hx hb hd hl.2 hk0 rfl ha rfl (fun ls1 h1 => kk ls1 H locs (hl.st1 h1) hP hS)
  case iadd =>
    simp only [am_ok, Bool.and_eq_true, beq_iff_eq, decide_eq_true_eq] at hok
    obtain ⟨rfl, rfl⟩ := hok
    obtain ⟨x, z, st0, w, rfl, e1, e2⟩ := ai_9 hs
    cases e2
    cases (Option.some.inj e1)
    exact lv_iadd hx hb hd (kk ls H locs hl hP hS)
  case isub =>
    simp only [am_ok, Bool.and_eq_true, beq_iff_eq, decide_eq_true_eq] at hok
    obtain ⟨rfl, rfl⟩ := hok
    obtain ⟨x, z, st0, w, rfl, e1, e2⟩ := ai_10 hs
    cases e2
    cases (Option.some.inj e1)
    exact lv_isub hx hb hd (kk ls H locs hl hP hS)
  case imul =>
    simp only [am_ok, Bool.and_eq_true, beq_iff_eq, decide_eq_true_eq] at hok
    obtain ⟨rfl, rfl⟩ := hok
    obtain ⟨x, z, st0, w, rfl, e1, e2⟩ := ai_11 hs
    cases e2
    cases (Option.some.inj e1)
    exact lv_imul hx hb hd (kk ls H locs hl hP hS)
  case ishl =>
    simp only [am_ok, Bool.and_eq_true, beq_iff_eq, decide_eq_true_eq] at hok
    obtain ⟨rfl, rfl⟩ := hok
    obtain ⟨x, z, st0, w, rfl, e1, e2⟩ := ai_15 hs
    cases e2
    cases (Option.some.inj e1)
    exact lv_ishl hx hb hd (kk ls H locs hl hP hS)
  case ishr =>
    simp only [am_ok, Bool.and_eq_true, beq_iff_eq, decide_eq_true_eq] at hok
    obtain ⟨rfl, rfl⟩ := hok
    obtain ⟨x, z, st0, w, rfl, e1, e2⟩ := ai_16 hs
    cases e2
    cases (Option.some.inj e1)
    exact lv_ishr hx hb hd (kk ls H locs hl hP hS)
  case iand =>
    simp only [am_ok, Bool.and_eq_true, beq_iff_eq, decide_eq_true_eq] at hok
    obtain ⟨rfl, rfl⟩ := hok
    obtain ⟨x, z, st0, w, rfl, e1, e2⟩ := ai_18 hs
    cases e2
    cases (Option.some.inj e1)
    exact lv_iand hx hb hd (kk ls H locs hl hP hS)
  case ior =>
    simp only [am_ok, Bool.and_eq_true, beq_iff_eq, decide_eq_true_eq] at hok
    obtain ⟨rfl, rfl⟩ := hok
    obtain ⟨x, z, st0, w, rfl, e1, e2⟩ := ai_19 hs
    cases e2
    cases (Option.some.inj e1)
    exact lv_ior hx hb hd (kk ls H locs hl hP hS)
  case ixor =>
    simp only [am_ok, Bool.and_eq_true, beq_iff_eq, decide_eq_true_eq] at hok
    obtain ⟨rfl, rfl⟩ := hok
    obtain ⟨x, z, st0, w, rfl, e1, e2⟩ := ai_20 hs
    cases e2
    cases (Option.some.inj e1)
    exact lv_ixor hx hb hd (kk ls H locs hl hP hS)
  case ladd =>
    simp only [am_ok, Bool.and_eq_true, beq_iff_eq, decide_eq_true_eq] at hok
    obtain ⟨rfl, rfl⟩ := hok
    obtain ⟨x, z, st0, w, rfl, e1, e2⟩ := ai_21 hs
    cases e2
    cases (Option.some.inj e1)
    exact lv_ladd hx hb hd (kk ls H locs hl hP hS)
  case lsub =>
    simp only [am_ok, Bool.and_eq_true, beq_iff_eq, decide_eq_true_eq] at hok
    obtain ⟨rfl, rfl⟩ := hok
    obtain ⟨x, z, st0, w, rfl, e1, e2⟩ := ai_22 hs
    cases e2
    cases (Option.some.inj e1)
    exact lv_lsub hx hb hd (kk ls H locs hl hP hS)
  case lmul =>
    simp only [am_ok, Bool.and_eq_true, beq_iff_eq, decide_eq_true_eq] at hok
    obtain ⟨rfl, rfl⟩ := hok
    obtain ⟨x, z, st0, w, rfl, e1, e2⟩ := ai_23 hs
    cases e2
    cases (Option.some.inj e1)
    exact lv_lmul hx hb hd (kk ls H locs hl hP hS)
  case land =>
    simp only [am_ok, Bool.and_eq_true, beq_iff_eq, decide_eq_true_eq] at hok
    obtain ⟨rfl, rfl⟩ := hok
    obtain ⟨x, z, st0, w, rfl, e1, e2⟩ := ai_26 hs
    cases e2
    cases (Option.some.inj e1)
    exact lv_land hx hb hd (kk ls H locs hl hP hS)
  case lor =>
    simp only [am_ok, Bool.and_eq_true, beq_iff_eq, decide_eq_true_eq] at hok
    obtain ⟨rfl, rfl⟩ := hok
    obtain ⟨x, z, st0, w, rfl, e1, e2⟩ := ai_27 hs
    cases e2
    cases (Option.some.inj e1)
    exact lv_lor hx hb hd (kk ls H locs hl hP hS)
  case iushr =>
    simp only [am_ok, Bool.and_eq_true, beq_iff_eq, decide_eq_true_eq] at hok
    obtain ⟨rfl, rfl⟩ := hok
    obtain ⟨x, z, st0, w, rfl, e1, e2⟩ := ai_17 hs
    cases e2
    cases (Option.some.inj e1)
    exact lv_iushr hx hb hd rfl (kk ls H locs hl hP hS)
  case lshl =>
    simp only [am_ok, Bool.and_eq_true, beq_iff_eq, decide_eq_true_eq] at hok
    obtain ⟨rfl, rfl⟩ := hok
    obtain ⟨x, z, st0, w, rfl, e1, e2⟩ := ai_28 hs
    cases e2
    cases (Option.some.inj e1)
    exact lv_lshl hx hb hd rfl (kk ls H locs hl hP hS)
  case lshr =>
    simp only [am_ok, Bool.and_eq_true, beq_iff_eq, decide_eq_true_eq] at hok
    obtain ⟨rfl, rfl⟩ := hok
    obtain ⟨x, z, st0, w, rfl, e1, e2⟩ := ai_29 hs
    cases e2
    cases (Option.some.inj e1)
    exact lv_lshr hx hb hd rfl (kk ls H locs hl hP hS)
  case lushr =>
    simp only [am_ok, Bool.and_eq_true, beq_iff_eq, decide_eq_true_eq] at hok
    obtain ⟨rfl, rfl⟩ := hok
    obtain ⟨x, z, st0, w, rfl, e1, e2⟩ := ai_30 hs
    cases e2
    cases (Option.some.inj e1)
    exact lv_lushr hx hb hd rfl (kk ls H locs hl hP hS)
  case idiv =>
    simp only [am_ok, Bool.and_eq_true, beq_iff_eq, decide_eq_true_eq] at hok
    obtain ⟨rfl, rfl⟩ := hok
    obtain ⟨x, z, st0, w, rfl, e1, e2⟩ := ai_12 hs
    cases e2
    have e1 : (if z = 0 then none else some (x / z)) = some w := e1
    by_cases hz : z = 0
    · rw [if_pos hz] at e1; cases e1
    · rw [if_neg hz] at e1
      cases e1
      exact lv_idiv hx hb hd hz (kk ls H locs hl hP hS)
  case irem =>
    simp only [am_ok, Bool.and_eq_true, beq_iff_eq, decide_eq_true_eq] at hok
    obtain ⟨rfl, rfl⟩ := hok
    obtain ⟨x, z, st0, w, rfl, e1, e2⟩ := ai_13 hs
    cases e2
    have e1 : (if z = 0 then none else some (x - x / z * z)) = some w := e1
    by_cases hz : z = 0
    · rw [if_pos hz] at e1; cases e1
    · rw [if_neg hz] at e1
      cases e1
      exact lv_irem hx hb hd hz (kk ls H locs hl hP hS)
  case ldiv =>
    simp only [am_ok, Bool.and_eq_true, beq_iff_eq, decide_eq_true_eq] at hok
    obtain ⟨rfl, rfl⟩ := hok
    obtain ⟨x, z, st0, w, rfl, e1, e2⟩ := ai_24 hs
    cases e2
    have e1 : (if z = 0 then none else some (x / z)) = some w := e1
    by_cases hz : z = 0
    · rw [if_pos hz] at e1; cases e1
    · rw [if_neg hz] at e1
      cases e1
      exact lv_ldiv hx hb hd hz (kk ls H locs hl hP hS)
  case lrem =>
    simp only [am_ok, Bool.and_eq_true, beq_iff_eq, decide_eq_true_eq] at hok
    obtain ⟨rfl, rfl⟩ := hok
    obtain ⟨x, z, st0, w, rfl, e1, e2⟩ := ai_25 hs
    cases e2
    have e1 : (if z = 0 then none else some (x - x / z * z)) = some w := e1
    by_cases hz : z = 0
    · rw [if_pos hz] at e1; cases e1
    · rw [if_neg hz] at e1
      cases e1
      exact lv_lrem hx hb hd hz (kk ls H locs hl hP hS)
  case lcmp =>
    simp only [am_ok, Bool.and_eq_true, beq_iff_eq, decide_eq_true_eq] at hok
    obtain ⟨rfl, rfl⟩ := hok
    obtain ⟨x, z, st0, rfl, e2⟩ := ai_31 hs
    cases e2
    exact W.lcmp hx hb hd (kk ls H locs hl hP hS)
  case i2l =>
    simp only [am_ok, Bool.and_eq_true, beq_iff_eq, decide_eq_true_eq] at hok
    obtain ⟨rfl, rfl⟩ := hok
    obtain ⟨x, st0, rfl, e2⟩ := ai_32 hs
    cases e2
    exact lv_i2l hx hb hd rfl (kk ls H locs hl hP hS)
  case l2i =>
    simp only [am_ok, Bool.and_eq_true, beq_iff_eq, decide_eq_true_eq] at hok
    obtain ⟨rfl, rfl⟩ := hok
    obtain ⟨x, st0, rfl, e2⟩ := ai_33 hs
    cases e2
    exact lv_l2i hx hb hd rfl (kk ls H locs hl hP hS)
  case i2b =>
    simp only [am_ok, Bool.and_eq_true, beq_iff_eq, decide_eq_true_eq] at hok
    obtain ⟨rfl, rfl⟩ := hok
    obtain ⟨x, st0, rfl, e2⟩ := ai_34 hs
    cases e2
    exact lv_i2b hx hb hd rfl (kk ls H locs hl hP hS)
  case i2c =>
    simp only [am_ok, Bool.and_eq_true, beq_iff_eq, decide_eq_true_eq] at hok
    obtain ⟨rfl, rfl⟩ := hok
    obtain ⟨x, st0, rfl, e2⟩ := ai_35 hs
    cases e2
    exact lv_i2c hx hb hd rfl (kk ls H locs hl hP hS)
  case dup =>
    simp only [am_ok, Bool.and_eq_true, beq_iff_eq, decide_eq_true_eq] at hok
    obtain ⟨rfl, rfl⟩ := hok
    obtain ⟨v, st0, rfl, hv, e2⟩ := ai_36 hs
    cases e2
    exact lv_dup hx hb hd ((am_tv_cat G v).trans hv) (kk ls H locs hl hP hS)
  case pop =>
    simp only [am_ok, Bool.and_eq_true, beq_iff_eq, decide_eq_true_eq] at hok
    obtain ⟨rfl, rfl⟩ := hok
    obtain ⟨v, st0, rfl, hv, e2⟩ := ai_37 hs
    cases e2
    exact lv_pop hx hb hd ((am_tv_cat G v).trans hv) (kk ls H locs hl hP hS)
  case dup2 =>
    simp only [am_ok, Bool.and_eq_true, beq_iff_eq, decide_eq_true_eq] at hok
    obtain ⟨rfl, rfl⟩ := hok
    obtain ⟨v, w, st0, rfl, hv, hw, e2⟩ := ai_38 hs
    cases e2
    exact lv_dup2_11 hx hb hd ((am_tv_cat G v).trans hv) ((am_tv_cat G w).trans hw) (kk ls H locs hl hP hS)
  case ifCond cd off =>
    simp only [am_ok, Bool.and_eq_true, beq_iff_eq, decide_eq_true_eq] at hok
    obtain ⟨⟨⟨rfl, rfl⟩, rfl⟩, ht⟩ := hok
    obtain ⟨x, st0, rfl, e2⟩ := ai_39 hs
    cases cd
    case eq =>
      by_cases hq : x = 0
      · have e3 : am_br (am_cndD (am_cdn .eq) x 0) a lo st0 h = (some a, lo, st0, h) := by simp [am_br, am_cndD, am_cdn, hq]
        rw [e3] at e2
        cases e2
        exact lv_if_eq hx hb hd ht (fun _ => kk ls H locs hl hP hS) (fun z => absurd hq z)
      · have e3 : am_br (am_cndD (am_cdn .eq) x 0) a lo st0 h = (none, lo, st0, h) := by simp [am_br, am_cndD, am_cdn, hq]
        rw [e3] at e2
        cases e2
        exact lv_if_eq hx hb hd ht (fun z => absurd z hq) (fun _ => kk ls H locs hl hP hS)
    case ne =>
      by_cases hq : ¬ x = 0
      · have e3 : am_br (am_cndD (am_cdn .ne) x 0) a lo st0 h = (some a, lo, st0, h) := by simp [am_br, am_cndD, am_cdn, hq]
        rw [e3] at e2
        cases e2
        exact lv_if_ne hx hb hd ht (fun _ => kk ls H locs hl hP hS) (fun z => absurd z hq)
      · have e3 : am_br (am_cndD (am_cdn .ne) x 0) a lo st0 h = (none, lo, st0, h) := by simp [am_br, am_cndD, am_cdn, hq]
        rw [e3] at e2
        cases e2
        exact lv_if_ne hx hb hd ht (fun z => absurd z hq) (fun _ => kk ls H locs hl hP hS)
    case lt =>
      by_cases hq : x < 0
      · have e3 : am_br (am_cndD (am_cdn .lt) x 0) a lo st0 h = (some a, lo, st0, h) := by simp [am_br, am_cndD, am_cdn, hq]
        rw [e3] at e2
        cases e2
        exact lv_if_lt hx hb hd ht (fun _ => kk ls H locs hl hP hS) (fun z => absurd hq z)
      · have e3 : am_br (am_cndD (am_cdn .lt) x 0) a lo st0 h = (none, lo, st0, h) := by simp [am_br, am_cndD, am_cdn, hq]
        rw [e3] at e2
        cases e2
        exact lv_if_lt hx hb hd ht (fun z => absurd z hq) (fun _ => kk ls H locs hl hP hS)
    case ge =>
      by_cases hq : 0 ≤ x
      · have e3 : am_br (am_cndD (am_cdn .ge) x 0) a lo st0 h = (some a, lo, st0, h) := by simp [am_br, am_cndD, am_cdn, hq]
        rw [e3] at e2
        cases e2
        exact lv_if_ge hx hb hd ht (fun _ => kk ls H locs hl hP hS) (fun z => absurd hq z)
      · have e3 : am_br (am_cndD (am_cdn .ge) x 0) a lo st0 h = (none, lo, st0, h) := by simp [am_br, am_cndD, am_cdn, hq]
        rw [e3] at e2
        cases e2
        exact lv_if_ge hx hb hd ht (fun z => absurd z hq) (fun _ => kk ls H locs hl hP hS)
    case gt =>
      by_cases hq : 0 < x
      · have e3 : am_br (am_cndD (am_cdn .gt) x 0) a lo st0 h = (some a, lo, st0, h) := by simp [am_br, am_cndD, am_cdn, hq]
        rw [e3] at e2
        cases e2
        exact lv_if_gt hx hb hd ht (fun _ => kk ls H locs hl hP hS) (fun z => absurd hq z)
      · have e3 : am_br (am_cndD (am_cdn .gt) x 0) a lo st0 h = (none, lo, st0, h) := by simp [am_br, am_cndD, am_cdn, hq]
        rw [e3] at e2
        cases e2
        exact lv_if_gt hx hb hd ht (fun z => absurd z hq) (fun _ => kk ls H locs hl hP hS)
    case le =>
      by_cases hq : x ≤ 0
      · have e3 : am_br (am_cndD (am_cdn .le) x 0) a lo st0 h = (some a, lo, st0, h) := by simp [am_br, am_cndD, am_cdn, hq]
        rw [e3] at e2
        cases e2
        exact lv_if_le hx hb hd ht (fun _ => kk ls H locs hl hP hS) (fun z => absurd hq z)
      · have e3 : am_br (am_cndD (am_cdn .le) x 0) a lo st0 h = (none, lo, st0, h) := by simp [am_br, am_cndD, am_cdn, hq]
        rw [e3] at e2
        cases e2
        exact lv_if_le hx hb hd ht (fun z => absurd z hq) (fun _ => kk ls H locs hl hP hS)
  case if_icmp cd off =>
    simp only [am_ok, Bool.and_eq_true, beq_iff_eq, decide_eq_true_eq] at hok
    obtain ⟨⟨⟨rfl, rfl⟩, rfl⟩, ht⟩ := hok
    obtain ⟨x, z, st0, rfl, e2⟩ := ai_40 hs
    cases cd
    case eq =>
      by_cases hq : x = z
      · have e3 : am_br (am_cndD (am_cdn .eq) x z) a lo st0 h = (some a, lo, st0, h) := by simp [am_br, am_cndD, am_cdn, hq]
        rw [e3] at e2
        cases e2
        exact lv_icmp_eq hx hb hd ht (fun _ => kk ls H locs hl hP hS) (fun z => absurd hq z)
      · have e3 : am_br (am_cndD (am_cdn .eq) x z) a lo st0 h = (none, lo, st0, h) := by simp [am_br, am_cndD, am_cdn, hq]
        rw [e3] at e2
        cases e2
        exact lv_icmp_eq hx hb hd ht (fun z => absurd z hq) (fun _ => kk ls H locs hl hP hS)
    case ne =>
      by_cases hq : ¬ x = z
      · have e3 : am_br (am_cndD (am_cdn .ne) x z) a lo st0 h = (some a, lo, st0, h) := by simp [am_br, am_cndD, am_cdn, hq]
        rw [e3] at e2
        cases e2
        exact lv_icmp_ne hx hb hd ht (fun _ => kk ls H locs hl hP hS) (fun z => absurd z hq)
      · have e3 : am_br (am_cndD (am_cdn .ne) x z) a lo st0 h = (none, lo, st0, h) := by simp [am_br, am_cndD, am_cdn, hq]
        rw [e3] at e2
        cases e2
        exact lv_icmp_ne hx hb hd ht (fun z => absurd z hq) (fun _ => kk ls H locs hl hP hS)
    case lt =>
      by_cases hq : x < z
      · have e3 : am_br (am_cndD (am_cdn .lt) x z) a lo st0 h = (some a, lo, st0, h) := by simp [am_br, am_cndD, am_cdn, hq]
        rw [e3] at e2
        cases e2
        exact lv_icmp_lt hx hb hd ht (fun _ => kk ls H locs hl hP hS) (fun z => absurd hq z)
      · have e3 : am_br (am_cndD (am_cdn .lt) x z) a lo st0 h = (none, lo, st0, h) := by simp [am_br, am_cndD, am_cdn, hq]
        rw [e3] at e2
        cases e2
        exact lv_icmp_lt hx hb hd ht (fun z => absurd z hq) (fun _ => kk ls H locs hl hP hS)
    case ge =>
      by_cases hq : z ≤ x
      · have e3 : am_br (am_cndD (am_cdn .ge) x z) a lo st0 h = (some a, lo, st0, h) := by simp [am_br, am_cndD, am_cdn, hq]
        rw [e3] at e2
        cases e2
        exact lv_icmp_ge hx hb hd ht (fun _ => kk ls H locs hl hP hS) (fun z => absurd hq z)
      · have e3 : am_br (am_cndD (am_cdn .ge) x z) a lo st0 h = (none, lo, st0, h) := by simp [am_br, am_cndD, am_cdn, hq]
        rw [e3] at e2
        cases e2
        exact lv_icmp_ge hx hb hd ht (fun z => absurd z hq) (fun _ => kk ls H locs hl hP hS)
    case gt =>
      by_cases hq : z < x
      · have e3 : am_br (am_cndD (am_cdn .gt) x z) a lo st0 h = (some a, lo, st0, h) := by simp [am_br, am_cndD, am_cdn, hq]
        rw [e3] at e2
        cases e2
        exact lv_icmp_gt hx hb hd ht (fun _ => kk ls H locs hl hP hS) (fun z => absurd hq z)
      · have e3 : am_br (am_cndD (am_cdn .gt) x z) a lo st0 h = (none, lo, st0, h) := by simp [am_br, am_cndD, am_cdn, hq]
        rw [e3] at e2
        cases e2
        exact lv_icmp_gt hx hb hd ht (fun z => absurd z hq) (fun _ => kk ls H locs hl hP hS)
    case le =>
      by_cases hq : x ≤ z
      · have e3 : am_br (am_cndD (am_cdn .le) x z) a lo st0 h = (some a, lo, st0, h) := by simp [am_br, am_cndD, am_cdn, hq]
        rw [e3] at e2
        cases e2
        exact lv_icmp_le hx hb hd ht (fun _ => kk ls H locs hl hP hS) (fun z => absurd hq z)
      · have e3 : am_br (am_cndD (am_cdn .le) x z) a lo st0 h = (none, lo, st0, h) := by simp [am_br, am_cndD, am_cdn, hq]
        rw [e3] at e2
        cases e2
        exact lv_icmp_le hx hb hd ht (fun z => absurd z hq) (fun _ => kk ls H locs hl hP hS)
  case goto off =>
    simp only [am_ok, Bool.and_eq_true, beq_iff_eq, decide_eq_true_eq] at hok
    obtain ⟨⟨rfl, rfl⟩, ht⟩ := hok
    cases ai_41 hs
    exact lv_goto hx hb hd ht (kk ls H locs hl hP hS)
  case ifnull off =>
    simp only [am_ok, Bool.and_eq_true, beq_iff_eq, decide_eq_true_eq] at hok
    obtain ⟨⟨rfl, rfl⟩, ht⟩ := hok
    rcases ai_42 hs with ⟨st0, rfl, e2⟩ | ⟨x, st0, rfl, e2⟩
    · cases e2; exact lv_ifnullN hx hb hd ht (kk ls H locs hl hP hS)
    · cases e2; exact lv_ifnull hx hb hd (kk ls H locs hl hP hS)
  case ifnonnull off =>
    simp only [am_ok, Bool.and_eq_true, beq_iff_eq, decide_eq_true_eq] at hok
    obtain ⟨⟨rfl, rfl⟩, ht⟩ := hok
    rcases ai_43 hs with ⟨st0, rfl, e2⟩ | ⟨x, st0, rfl, e2⟩
    · cases e2; exact lv_ifnonnullN hx hb hd (kk ls H locs hl hP hS)
    · cases e2; exact lv_ifnonnull hx hb hd ht (kk ls H locs hl hP hS)
  case tableswitch df lw hg offs =>
    simp only [am_ok, am_swk, Bool.and_eq_true, beq_iff_eq, decide_eq_true_eq] at hok
    obtain ⟨rfl, ⟨⟨e1, e2⟩, e3⟩, e4⟩ := hok
    obtain ⟨x, st0, rfl, e5⟩ := ai_44 hs
    have hlen : (am_swt a).2.2.length = offs.toList.length := by have := congrArg List.length e3; simpa using this.symm
    by_cases h1 : x.toInt < lw
    · have e6 : am_sw (am_swt a) x = (am_swt a).2.1 := by unfold am_sw; rw [if_pos (by rw [e1]; exact h1)]
      rw [e6] at e5
      cases e5
      exact lv_tableOut hx hb hd (Or.inl h1) e2 (kk ls H locs hl hP hS)
    · have e6 : am_sw (am_swt a) x = (((am_swt a).2.2[(x.toInt - lw).toNat]?).getD (am_swt a).2.1) := by unfold am_sw; rw [if_neg (by rw [e1]; exact h1), e1]
      by_cases h2 : hg < x.toInt
      · rw [List.getElem?_eq_none (by rw [hlen]; omega)] at e6
        rw [e6] at e5
        cases e5
        exact lv_tableOut hx hb hd (Or.inr h2) e2 (kk ls H locs hl hP hS)
      · have hi : (x.toInt - lw).toNat < offs.toList.length := by omega
        have h3 : (offs.toList.map (fun o => (pc : Int) + o))[(x.toInt - lw).toNat]? = some ((pc : Int) + offs.toList[(x.toInt - lw).toNat]) := by rw [List.getElem?_map, List.getElem?_eq_getElem hi]; rfl
        rw [e3, List.getElem?_map, List.getElem?_eq_getElem (by rw [hlen]; exact hi)] at h3
        rw [List.getElem?_eq_getElem (by rw [hlen]; exact hi)] at e6
        rw [e6] at e5
        cases e5
        exact lv_tableIn hx hb hd h1 h2 (by rw [← Array.getElem?_toList, List.getElem?_eq_getElem hi]) (Option.some.inj h3).symm (kk ls H locs hl hP hS)
  case getfield ix =>
    simp only [am_ok, Bool.and_eq_true, beq_iff_eq, decide_eq_true_eq] at hok
    obtain ⟨⟨rfl, rfl⟩, hk⟩ := hok
    obtain ⟨q, fs, v, st0, rfl, hq, hv, e2⟩ := ai_45 hs
    cases e2
    obtain ⟨C, T, N, hc, hN, hdc, hw⟩ := am_okf_spec hk
    have hat : va_at G.1 am_cl (G.2.2.1 + q, .inr (b, fs.map (am_tv G))) H := (hP.2 q _ hq).2
    have hv2 : (fs.map (am_tv G))[a]? = some (am_tv G v) := by rw [List.getElem?_map, hv]; rfl
    rcases hw with hw | ⟨host, hw⟩
    · exact va_get hx hb hts (am_uws hc) hown hK (aw_one hat) 0 rfl hc a hN (hts _ hw) (by rw [hdc]; exact fun _ z => z) hv2 hd (kk ls H locs hl hP hS)
    · exact va_getN hx hb hts (am_uws hc) hown hK (aw_one hat) 0 rfl hc a hN (va_Nw.use rfl (hE.2.1 _ hw rfl)) (by rw [hdc]; exact fun _ z => z) hv2 hd (kk ls H locs hl hP hS)
  case putfield ix =>
    simp only [am_ok, Bool.and_eq_true, Bool.or_eq_true, beq_iff_eq, decide_eq_true_eq, Bool.not_eq_true'] at hok
    obtain ⟨⟨hop, rfl⟩, hk⟩ := hok
    obtain ⟨C, T, N, hc, hN, hdc, hw⟩ := am_okf_spec hk
    obtain ⟨q, fs, v, st0, rfl, hq, hlen, hfit, e2⟩ : ∃ q fs v st0, st = v :: .ref q :: st0 ∧ h.2.2 q = some (.inr (b, fs)) ∧ a < fs.length ∧ am_fit (am_fty b a) v = true ∧ (t, lo', st', h') = (none, lo, st0, am_set h q (.inr (b, fs.set a v))) := by
      rcases hop with ⟨rfl, -⟩ | ⟨⟨⟨rfl, -⟩, -⟩, -⟩
      · exact ai_46 hs
      · exact ai_47 hs
    cases e2
    have hat : va_at G.1 am_cl (G.2.2.1 + q, .inr (b, fs.map (am_tv G))) H := (hP.2 q _ hq).2
    obtain ⟨f1, f2⟩ := am_fit_ok (G := G) hfit
    have hl2 : a < (fs.map (am_tv G)).length := by rw [List.length_map]; exact hlen
    have fin : ∀ (H1 : Heap) (i : Nat), va_at G.1 am_cl (G.2.2.1 + q, .inr (b, (fs.map (am_tv G)).set a (am_tv G v))) H1 → H1.size = H.size → (∀ z : Nat, z ≠ G.2.2.1 + q → H1[z]? = H[z]?) → W p l e R s m args below meth c H1 (locs ++ [⟨G.2.2.1 + q, i⟩]) (h.1 - c0) (h.2.1 - s0) Q (F0 m (pc + 3) ls (st'.map (am_tv G))) := by
      intro H1 i g1 g2 g3
      rw [← List.map_set] at g1
      exact kk ls H1 _ hl (hP.set hq g2 g3 g1) (hS.put g2 g3 (Nat.le_add_right _ _))
    rcases hop with ⟨rfl, hf⟩ | ⟨⟨⟨rfl, hf⟩, hn⟩, ho⟩
    · have hf2 : (T a).2.2.2 = false := by simpa [am_fin, hc] using hf
      rcases hw with hw | ⟨host, hw⟩
      · exact aw_put hx hb hts (am_uws hc) (am_fty b) (am_cls hc).1 (am_cls hc).2 hown hK hat hc a hN (hts _ hw) hdc hf2 f1 f2 hl2 hd fin
      · exact aw_putN hx hb hts (am_uws hc) (am_fty b) (am_cls hc).1 (am_cls hc).2 hown hK hat hc a hN (va_Nw.use rfl (hE.2.1 _ hw rfl)) hdc hf2 f1 f2 hl2 hd fin
    · have hf2 : (T a).2.2.2 = true := by simpa [am_fin, hc] using hf
      have ho2 : C = am_cn (am_ow y) := by rw [hc] at ho; simpa using ho
      exact aw_putF hx hb hts (am_uws hc) (am_fty b) (am_cls hc).1 (am_cls hc).2 hown hK hat hc a hN (hts _ (am_okf_own hk hc ho2)) hdc hf2 (hini hn) ho2 f1 f2 hl2 hd fin
  case iaload =>
    simp only [am_ok, Bool.and_eq_true, beq_iff_eq, decide_eq_true_eq] at hok
    obtain ⟨rfl, rfl⟩ := hok
    rcases ai_48 hs with ⟨i, q, n, f, st0, rfl, hq, hi, e2⟩ | ⟨i, st0, rfl, hi, e2⟩
    · cases e2
      have hat : va_at G.1 am_cl (G.2.2.1 + q, .inl (G.2.1 0, n, .inl f)) H := (hP.2 q _ hq).2
      exact va_iald hx hb hK (aw_one hat) 0 0 rfl rfl (am_inB_iff hi) hd (kk ls H locs hl hP hS)
    · cases e2
      exact va_sld (A := am_O G) hx hb hE.2.2.2.1 (Nat.lt_of_lt_of_le hE.2.2.2.2.1 hbs) (Nat.not_le.mpr hE.2.2.2.2.1) hS (am_inB_iff hi) hd (kk ls H locs hl hP hS)
  case laload =>
    simp only [am_ok, Bool.and_eq_true, beq_iff_eq, decide_eq_true_eq] at hok
    obtain ⟨rfl, rfl⟩ := hok
    obtain ⟨i, q, n, f, st0, rfl, hq, hi, e2⟩ := ai_49 hs
    cases e2
    have hat : va_at G.1 am_cl (G.2.2.1 + q, .inl (G.2.1 1, n, .inr (.inl f))) H := (hP.2 q _ hq).2
    exact va_lald hx hb hK (aw_one hat) 0 1 rfl rfl (am_inB_iff hi) hd (kk ls H locs hl hP hS)
  case baload =>
    simp only [am_ok, Bool.and_eq_true, beq_iff_eq, decide_eq_true_eq] at hok
    obtain ⟨rfl, rfl⟩ := hok
    obtain ⟨i, q, n, f, st0, rfl, hq, hi, e2⟩ := ai_50 hs
    cases e2
    have hat : va_at G.1 am_cl (G.2.2.1 + q, .inl (G.2.1 2, n, .inl f)) H := (hP.2 q _ hq).2
    exact va_bald hx hb hK (aw_one hat) 0 2 rfl rfl (am_inB_iff hi) hd (kk ls H locs hl hP hS)
  case aaload =>
    simp only [am_ok, Bool.and_eq_true, beq_iff_eq, decide_eq_true_eq] at hok
    obtain ⟨rfl, rfl⟩ := hok
    obtain ⟨i, q, n, f, st0, rfl, hq, hi, e2⟩ := ai_51 hs
    cases e2
    have hat : va_at G.1 am_cl (G.2.2.1 + q, .inl (G.2.1 3, n, .inr (.inr (.inr (.inr (fun j => (f j).map (fun k => G.2.2.1 + k))))))) H := (hP.2 q _ hq).2
    refine va_aldq hx hb hK (aw_one hat) 0 3 rfl rfl (am_inB_iff hi) hd ?_
    have hk2 := kk ls H locs hl hP hS
    have e3 : am_tv G (am_rf (f i.toNatClampNeg)) = va_rf ((f i.toNatClampNeg).map (fun k => G.2.2.1 + k)) := by cases f i.toNatClampNeg <;> rfl
    rw [List.map_cons, e3] at hk2
    exact hk2
  case iastore =>
    simp only [am_ok, Bool.and_eq_true, beq_iff_eq, decide_eq_true_eq] at hok
    obtain ⟨rfl, rfl⟩ := hok
    obtain ⟨x, i, q, n, f, st0, rfl, hq, hi, e2⟩ := ai_52 hs
    cases e2
    have hat : va_at G.1 am_cl (G.2.2.1 + q, .inl (G.2.1 0, n, .inl f)) H := (hP.2 q _ hq).2
    exact aw_iast hx hb hK 0 hat rfl (am_inB_iff hi) hd (fun H1 i2 g1 g2 g3 => kk ls H1 _ hl (hP.set hq g2 g3 g1) (hS.put g2 g3 (Nat.le_add_right _ _)))
  case lastore =>
    simp only [am_ok, Bool.and_eq_true, beq_iff_eq, decide_eq_true_eq] at hok
    obtain ⟨rfl, rfl⟩ := hok
    obtain ⟨x, i, q, n, f, st0, rfl, hq, hi, e2⟩ := ai_53 hs
    cases e2
    have hat : va_at G.1 am_cl (G.2.2.1 + q, .inl (G.2.1 1, n, .inr (.inl f))) H := (hP.2 q _ hq).2
    exact aw_last hx hb hK 1 hat rfl (am_inB_iff hi) hd (fun H1 i2 g1 g2 g3 => kk ls H1 _ hl (hP.set hq g2 g3 g1) (hS.put g2 g3 (Nat.le_add_right _ _)))
  case bastore =>
    simp only [am_ok, Bool.and_eq_true, beq_iff_eq, decide_eq_true_eq] at hok
    obtain ⟨rfl, rfl⟩ := hok
    obtain ⟨x, i, q, n, f, st0, rfl, hq, hi, e2⟩ := ai_54 hs
    cases e2
    have hat : va_at G.1 am_cl (G.2.2.1 + q, .inl (G.2.1 2, n, .inl f)) H := (hP.2 q _ hq).2
    exact aw_bast hx hb hK 2 hat rfl (am_inB_iff hi) hd (fun H1 i2 g1 g2 g3 => kk ls H1 _ hl (hP.set hq g2 g3 g1) (hS.put g2 g3 (Nat.le_add_right _ _)))
  case aastore =>
    simp only [am_ok, Bool.and_eq_true, beq_iff_eq, decide_eq_true_eq] at hok
    obtain ⟨rfl, rfl⟩ := hok
    obtain ⟨v, i, q, n, f, fs, st0, rfl, hq, hv, hi, e2⟩ := ai_55 hs
    cases e2
    have hat : va_at G.1 am_cl (G.2.2.1 + q, .inl (G.2.1 3, n, .inr (.inr (.inr (.inr (fun j => (f j).map (fun k => G.2.2.1 + k))))))) H := (hP.2 q _ hq).2
    have hav : va_at G.1 am_cl (G.2.2.1 + v, .inr (1, fs.map (am_tv G))) H := (hP.2 v _ hv).2
    refine aw_aast (r := ("GapLetter$Now", am_T1, 3)) hx hb hK 3 1 hat rfl hav rfl (am_inB_iff hi) hd (fun H1 i2 g1 g2 g3 => kk ls H1 _ hl (hP.set hq g2 g3 ?_) (hS.put g2 g3 (Nat.le_add_right _ _)))
    have e3 : (fun j => ((va_up f i.toNatClampNeg (some v)) j).map (fun k => G.2.2.1 + k)) = va_up (fun j => (f j).map (fun k => G.2.2.1 + k)) i.toNatClampNeg (some (G.2.2.1 + v)) := by
      funext j
      by_cases hj : j = i.toNatClampNeg
      · subst hj; simp [va_up]
      · simp [va_up, hj]
    show va_at G.1 am_cl (G.2.2.1 + q, .inl (G.2.1 3, n, .inr (.inr (.inr (.inr (fun j => ((va_up f i.toNatClampNeg (some v)) j).map (fun k => G.2.2.1 + k))))))) H1
    rw [e3]
    exact g1
  case arraylength =>
    simp only [am_ok, Bool.and_eq_true, beq_iff_eq, decide_eq_true_eq] at hok
    obtain ⟨rfl, rfl⟩ := hok
    rcases ai_56 hs with ⟨q, tag, n, f, st0, rfl, hq, htag, e2⟩ | ⟨st0, rfl, e2⟩
    · cases e2
      obtain ⟨ty, hty⟩ : ∃ ty, (am_tys G)[tag]? = some (G.2.1 tag, ty) := by
        match tag, htag with
        | 0, _ => exact ⟨_, rfl⟩
        | 1, _ => exact ⟨_, rfl⟩
        | 2, _ => exact ⟨_, rfl⟩
        | 3, _ => exact ⟨_, rfl⟩
        | k + 4, hh => exact absurd hh (by omega)
      have hat := (hP.2 q _ hq).2
      obtain f | f | f := f
      · exact va_alen hx hb hK (aw_one hat) 0 tag rfl hty rfl hd (kk ls H locs hl hP hS)
      · exact va_alen hx hb hK (aw_one hat) 0 tag rfl hty rfl hd (kk ls H locs hl hP hS)
      · exact va_alen hx hb hK (aw_one hat) 0 tag rfl hty rfl hd (kk ls H locs hl hP hS)
    · cases e2
      exact va_slen (A := am_O G) hx hb hE.2.2.2.1 (Nat.lt_of_lt_of_le hE.2.2.2.2.1 hbs) (Nat.not_le.mpr hE.2.2.2.2.1) hS hd (kk ls H locs hl hP hS)
  case newarray ty =>
    simp only [am_ok, Bool.and_eq_true, beq_iff_eq, decide_eq_true_eq] at hok
    obtain ⟨⟨rfl, rfl⟩, ha⟩ := hok
    obtain ⟨n, st0, rfl, ⟨ha2, hn, hN⟩, e2⟩ := ai_57 hs
    cases e2
    have hz : (am_new h (.inl (a, n.toNatClampNeg, am_arr0 a)) n.toNatClampNeg).1 - c0 = h.1 - c0 + 1 := by show h.1 + 1 - c0 = _; omega
    have hz2 : (am_new h (.inl (a, n.toNatClampNeg, am_arr0 a)) n.toNatClampNeg).2.1 - s0 = h.2.1 - s0 + n.toNatClampNeg := by show h.2.1 + n.toNatClampNeg - s0 = _; omega
    rw [hz] at hcR kk
    rw [hz2] at hsR kk
    have go : ∀ (t0 : FieldType), newarray.typeOf ty = t0 → (Cond.arrayClass t0).before args s = true → componentBytes t0 ≤ 8 → (∀ cA : ClassId, s.vm.findClass ("[" ++ t0.toString) = some cA → cA = G.2.1 a) → (∀ H' : Heap, H'[H.size]? = some (arrV (G.2.1 a) n.toNatClampNeg (fun _ => defaultValue t0)) → va_at G.1 am_cl (G.2.2.1 + h.1, am_ac G (.inl (a, n.toNatClampNeg, am_arr0 a))) H') → W p l e R s m args below meth c H locs (h.1 - c0) (h.2.1 - s0) Q (F0 m pc ls ((Value.int n :: st0).map (am_tv G))) := by
      intro t0 et hw hcb hid hcell
      subst et
      refine va_newaK hx hb hw rfl hd rfl hn rfl (Nat.le_trans (Nat.mul_le_mul hN hcb) (by decide)) hcR hsR rfl (fun H' cA g1 g2 g3 g4 g5 => ?_)
      have ec := hid cA g5
      subst ec
      have hk2 := kk ls H' locs hl (hP.new g2 g3 (hcell H' g1)) ⟨Nat.le_trans hS.1 (by omega), fun q h1 h2 => (g3 q (Nat.lt_of_lt_of_le h1 hS.1)).trans (hS.2.1 q h1 h2), hS.2.2⟩
      rw [hP.1]
      exact hk2
    rcases (show a = 0 ∨ a = 1 ∨ a = 2 by omega) with rfl | rfl | rfl
    · have et : ty = .int := by cases ty <;> first | rfl | (simp [am_aty] at ha; done)
      subst et
      refine go .int rfl (hts _ (am_gw_tb am_ac0)) (by decide) (fun cA g => Option.some.inj (g.symm.trans (hK.2 0 _ rfl).2)) (fun H' g => ?_)
      rw [hP.1] at g
      exact g
    · have et : ty = .long := by cases ty <;> first | rfl | (simp [am_aty] at ha; done)
      subst et
      refine go .long rfl (hts _ (am_gw_tb am_ac1)) (by decide) (fun cA g => Option.some.inj (g.symm.trans (hK.2 1 _ rfl).2)) (fun H' g => ?_)
      rw [hP.1] at g
      exact g
    · have et : ty = .byte := by cases ty <;> first | rfl | (simp [am_aty] at ha; done)
      subst et
      refine go .byte rfl (hts _ (am_gw_tb am_ac2)) (by decide) (fun cA g => Option.some.inj (g.symm.trans (hK.2 2 _ rfl).2)) (fun H' g => ?_)
      rw [hP.1] at g
      exact g
  case anewarray ix =>
    simp only [am_ok, Bool.and_eq_true, beq_iff_eq, decide_eq_true_eq] at hok
    obtain ⟨⟨rfl, rfl⟩, hk⟩ := hok
    obtain ⟨n, st0, rfl, ⟨hn, hN⟩, e2⟩ := ai_58 hs
    cases e2
    obtain ⟨qc, hqc, hw⟩ := am_okc_spec hk
    cases hqc
    have hz : (am_new h (.inl (3, n.toNatClampNeg, am_arr0 3)) n.toNatClampNeg).1 - c0 = h.1 - c0 + 1 := by show h.1 + 1 - c0 = _; omega
    have hz2 : (am_new h (.inl (3, n.toNatClampNeg, am_arr0 3)) n.toNatClampNeg).2.1 - s0 = h.2.1 - s0 + n.toNatClampNeg := by show h.2.1 + n.toNatClampNeg - s0 = _; omega
    rw [hz] at hcR kk
    rw [hz2] at hsR kk
    refine W.anew (C := "GapLetter$Now") hx hb hown (hts _ hw) (va_AO.use hE.2.2.1) rfl hd rfl hn (Nat.le_trans (Nat.mul_le_mul hN (Nat.le_refl 4)) (by decide)) hcR hsR (fun cA kA comp f1 f2 f3 f4 => ?_)
    generalize hH1 : H.push ({ cls := cA, slots := Array.replicate n.toNatClampNeg .null, vm := .none } : Cell) = H1
    have z1 : H1.size = H.size + 1 := by rw [← hH1, Array.size_push]
    have e1 : H1[H.size]? = some (arrV cA n.toNatClampNeg (fun _ => .null)) := by rw [← hH1, Array.getElem?_push_size, ← arrV_new]
    have o1 : ∀ q : Nat, q < H.size → H1[q]? = H[q]? := fun q hq => by rw [← hH1, Array.getElem?_push, if_neg (Nat.ne_of_lt hq)]
    obtain ⟨kA2, comp2, k1, k2, k3, k4⟩ := (hK.2 3 _ rfl).2
    have ec : cA = G.2.1 3 := Option.some.inj (f1.symm.trans k4)
    subst ec
    rw [hP.1] at e1 ⊢
    exact kk ls H1 locs hl (hP.new z1 o1 e1) ⟨Nat.le_trans hS.1 (by omega), fun q h1 h2 => (o1 q (Nat.lt_of_lt_of_le h1 hS.1)).trans (hS.2.1 q h1 h2), hS.2.2⟩
  case new ix =>
    simp only [am_ok, Bool.and_eq_true, Bool.or_eq_true, beq_iff_eq] at hok
    obtain ⟨rfl, ⟨rfl, hk⟩ | ⟨⟨⟨rfl, -⟩, -⟩, -⟩⟩ := hok
    · cases ai_59 hs
      obtain ⟨qc, hqc, hw⟩ := am_okc_spec hk
      obtain ⟨C, T, N⟩ := qc
      have ha9 : a < 9 := am_okc_lt hk
      obtain ⟨d1, d2, d3⟩ := am_dfs hqc ha9
      obtain ⟨w1, w2⟩ := am_ins hqc ha9
      have hz : (am_new h (.inr (a, am_def a)) (am_n a)).1 - c0 = h.1 - c0 + 1 := by show h.1 + 1 - c0 = _; omega
      have hz2 : (am_new h (.inr (a, am_def a)) (am_n a)).2.1 - s0 = h.2.1 - s0 + N := by show h.2.1 + am_n a - s0 = _; rw [d1]; show h.2.1 + N - s0 = _; omega
      rw [hz] at hcR kk
      rw [hz2] at hsR kk
      have hKn := hK.1 a _ hqc
      refine W.newcK hx hb hown (hts _ hw) (hts _ w1) (hts _ w2) rfl hd hcR hsR hKn.2.1 rfl (fun H1 kC hkC e1 z1 o1 => ?_)
      have hat : va_at G.1 am_cl (G.2.2.1 + h.1, .inr (a, (am_def a).map (am_tv G))) H1 := by
        rw [hP.1] at e1
        refine ⟨(C, T, N), hqc, (u_born (am_fty a) hts (am_uws hqc) hKn hkC e1 (am_cls hqc).1).to (fun j hj => ?_)⟩
        have hj2 := d3 j hj
        have : ((am_def a).map (am_tv G))[j]? = some (am_tv G (defaultValue (am_fty a j))) := by rw [List.getElem?_map, hj2]; rfl
        unfold vp_V
        rw [List.getD_eq_getElem?_getD, this]
        show _ = am_tv G (defaultValue (am_fty a j))
        have nf := am_nofl hqc ha9 j hj
        cases hft : am_fty a j <;> first | rfl | exact absurd hft nf
      have hk2 := kk ls H1 locs hl (hP.new z1 o1 hat) ⟨Nat.le_trans hS.1 (by omega), fun q h1 h2 => (o1 q (Nat.lt_of_lt_of_le h1 hS.1)).trans (hS.2.1 q h1 h2), hS.2.2⟩
      rw [hP.1]
      exact hk2
    · cases hs
  case invokespecial ix =>
    simp only [am_ok, Bool.and_eq_true, Bool.or_eq_true, beq_iff_eq] at hok
    obtain ⟨rfl, (⟨rfl, hk⟩ | ⟨rfl, hk⟩) | rfl⟩ := hok
    · cases hs
    · obtain ⟨q, st0, rfl, ⟨hd1, hcat⟩, e2⟩ := ai_61 hs
      cases e2
      obtain ⟨w1, w2⟩ := am_oki_spec hk
      exact W.objInit hx hb hown (hts _ w1) (hts _ w2) (hts _ (am_gw_tb am_oi)) rfl (by rw [hml]; exact hl.2.1) rfl hd (Nat.le_trans hd1 hdR) (by show 2 * 0 + _ + 12 ≤ _; rw [am_cats_map]; omega) (kk ls H locs hl hP hS)
    · cases hs
  case invokevirtual ix =>
    simp only [am_ok, Bool.and_eq_true, Bool.or_eq_true, beq_iff_eq] at hok
    obtain ⟨rfl, (⟨rfl, hk⟩ | ⟨rfl, hk⟩) | ⟨rfl, hk⟩⟩ := hok
    · cases hs
    · exact am_strlen hx hb hml hown hts hE hbs hdR8 hdL8 hd hk hs hl hP hS hcR hsR kk
    · exact am_charat hx hb hml hown hts hE hbs hdR8 hdL8 hd hk hs hl hP hS hcR hsR kk
  case invokestatic ix =>
    simp only [am_ok, Bool.and_eq_true, Bool.or_eq_true, beq_iff_eq] at hok
    obtain ⟨rfl, ((⟨rfl, hk⟩ | ⟨⟨rfl, -⟩, -⟩) | ⟨rfl, hk⟩) | ⟨rfl, hk⟩⟩ := hok
    · cases hs
    · cases hs
    · obtain ⟨x, z, st0, rfl, ⟨hd1, hcat⟩, e2⟩ := ai_71 hs
      cases e2
      exact va_mmax hx hb (hml.trans hl.2.1.symm) hown (hts _ (am_okmx_spec hk)) (hts _ (am_gw_tb am_mx1)) (hts _ (am_gw_tb am_mx2)) (hts _ (am_gw_tb am_mx3)) (Nat.le_trans hd1 hdR) (by rw [am_cats_map]; omega) hcR hsR hd (kk ls H locs hl hP hS)
    · obtain ⟨x, z, st0, rfl, ⟨hd1, hcat⟩, e2⟩ := ai_74 hs
      cases e2
      exact va_mmin hx hb (hml.trans hl.2.1.symm) hown (hts _ (am_okmn_spec hk)) (hts _ (am_gw_tb am_mn1)) (hts _ (am_gw_tb am_mx2)) (hts _ (am_gw_tb am_mn3)) (Nat.le_trans hd1 hdR) (by rw [am_cats_map]; omega) hcR hsR hd (kk ls H locs hl hP hS)
  case ireturn =>
    simp only [am_ok, Bool.and_eq_true, beq_iff_eq, decide_eq_true_eq] at hok
    obtain ⟨rfl, rfl⟩ := hok
    cases hs
  case lreturn =>
    simp only [am_ok, Bool.and_eq_true, beq_iff_eq, decide_eq_true_eq] at hok
    obtain ⟨rfl, rfl⟩ := hok
    cases hs
  case areturn =>
    simp only [am_ok, Bool.and_eq_true, beq_iff_eq, decide_eq_true_eq] at hok
    obtain ⟨rfl, rfl⟩ := hok
    cases hs
  case return_ =>
    simp only [am_ok, Bool.and_eq_true, beq_iff_eq, decide_eq_true_eq] at hok
    obtain ⟨rfl, rfl⟩ := hok
    cases hs
  case athrow =>
    simp only [am_ok, Bool.and_eq_true, beq_iff_eq, decide_eq_true_eq] at hok
    obtain ⟨rfl, rfl⟩ := hok
    cases hs
  all_goals (first | exact absurd hok (by simp [am_ok]) | skip)
end AMS
