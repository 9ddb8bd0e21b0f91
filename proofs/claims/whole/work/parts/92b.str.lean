-- THE JDK'S String.length AND String.charAt AT THE TEXTS OF THE CODE
abbrev js_len : MethodName := ⟨"java/lang/String", "length", "()I"⟩
abbrev js_cha : MethodName := ⟨"java/lang/String", "charAt", "(I)C"⟩
abbrev js_cod : MethodName := ⟨"java/lang/String", "coder", "()B"⟩
abbrev js_lat : MethodName := ⟨"java/lang/String", "isLatin1", "()Z"⟩
abbrev js_chk : MethodName := ⟨"java/lang/String", "checkIndex", "(II)V"⟩
abbrev js_lch : MethodName := ⟨"java/lang/StringLatin1", "charAt", "([BI)C"⟩
abbrev js_pre : MethodName := ⟨"jdk/internal/util/Preconditions", "checkIndex", "(IILjava/util/function/BiFunction;)I"⟩
theorem jw_i0 : am_tb 113 (.initialized "java/lang/String") = true := by decide +kernel
theorem jw_i1 : am_tb 114 (.initialized "java/lang/StringLatin1") = true := by decide +kernel
theorem jw_i3 : am_tb 115 (.initialized "jdk/internal/util/Preconditions") = true := by decide +kernel
theorem jw_len1 : am_tb 290 (.instanceMethod js_len) = true := by decide +kernel
theorem jw_len2 : am_tb 291 (.selects "java/lang/String" js_len js_len) = true := by decide +kernel
theorem jw_len3 : am_tb 292 (.code js_len prog_23_method_54_code 1 (some .int)) = true := by decide +kernel
theorem jw_cod0 : am_tb 293 (.methodLink "java/lang/String" 335 js_cod) = true := by decide +kernel
theorem jw_cod1 : am_tb 294 (.instanceMethod js_cod) = true := by decide +kernel
theorem jw_cod2 : am_tb 295 (.selects "java/lang/String" js_cod js_cod) = true := by decide +kernel
theorem jw_cod3 : am_tb 296 (.code js_cod prog_23_method_152_code 1 (some .byte)) = true := by decide +kernel
theorem jw_f38 : am_tb 297 (.fieldLink "java/lang/String" 38 "java/lang/String" "COMPACT_STRINGS" "Z") = true := by decide +kernel
theorem jw_cha1 : am_tb 300 (.instanceMethod js_cha) = true := by decide +kernel
theorem jw_cha2 : am_tb 301 (.selects "java/lang/String" js_cha js_cha) = true := by decide +kernel
theorem jw_cha3 : am_tb 302 (.code js_cha prog_23_method_56_code 2 (some .char)) = true := by decide +kernel
theorem jw_lat0 : am_tb 303 (.methodLink "java/lang/String" 492 js_lat) = true := by decide +kernel
theorem jw_lat1 : am_tb 304 (.instanceMethod js_lat) = true := by decide +kernel
theorem jw_lat2 : am_tb 305 (.selects "java/lang/String" js_lat js_lat) = true := by decide +kernel
theorem jw_lat3 : am_tb 306 (.code js_lat prog_23_method_154_code 1 (some .boolean)) = true := by decide +kernel
theorem jw_lch0 : am_tb 307 (.methodLink "java/lang/String" 495 js_lch) = true := by decide +kernel
theorem jw_lch1 : am_tb 308 (.static js_lch) = true := by decide +kernel
theorem jw_lch3 : am_tb 309 (.code js_lch prog_24_method_2_code 2 (some .char)) = true := by decide +kernel
theorem jw_chk0 : am_tb 310 (.methodLink "java/lang/StringLatin1" 9 js_chk) = true := by decide +kernel
theorem jw_chk1 : am_tb 311 (.static js_chk) = true := by decide +kernel
theorem jw_chk3 : am_tb 312 (.code js_chk prog_23_method_155_code 2 none) = true := by decide +kernel
theorem jw_f1053 : am_tb 313 (.fieldLink "java/lang/String" 1053 "jdk/internal/util/Preconditions" "SIOOBE_FORMATTER" "Ljava/util/function/BiFunction;") = true := by decide +kernel
theorem jw_pre0 : am_tb 315 (.methodLink "java/lang/String" 1059 js_pre) = true := by decide +kernel
theorem jw_pre1 : am_tb 316 (.static js_pre) = true := by decide +kernel
theorem jw_pre3 : am_tb 317 (.code js_pre prog_31_method_11_code 3 (some .int)) = true := by decide +kernel
theorem jw_f9 : am_tb 1999 (.fieldLink "java/lang/String" 9 "java/lang/String" "value" "[B") = true := by decide +kernel
theorem jw_f15 : am_tb 2000 (.fieldLink "java/lang/String" 15 "java/lang/String" "coder" "B") = true := by decide +kernel
def am_rj (k : Nat) : Room := { frames := k, cells := 0, slots := 0, locals := 60 * k }
def am_Pj (G : am_G) (xs : Nat → Int32) (L : Nat) (adV : Nat → Nat) (av : List Value) : Array Value → State → Prop := va_Pc av (fun U => am_E G xs L adV U U.heap)
def am_Qj (v : Option Value) : Array Value → State → Outcome → State → Prop := fun _ st oc t => oc = .returned v ∧ t.heap = st.heap
theorem am_Pj_blind (G : am_G) (xs : Nat → Int32) (L : Nat) (adV : Nat → Nat) (av : List Value) : FrameBlind (am_Pj G xs L adV av) := by
  intro a U g mk q
  exact ⟨q.1, am_E.same (s := U) (U := U.calling g mk a) rfl q.2⟩
theorem js_good {w : Cond} (hw : w ∈ am_gw) : ∀ z ∈ w :: am_gw, z ∈ am_gw ∧ ((z.onTables && z.keeps) = true ∨ ∃ ty, z = .arrayClass ty) := by
  intro z hz
  have h2 : z ∈ am_gw := by
    rcases List.mem_cons.mp hz with h | h
    · rw [h]; exact hw
    · exact h
  exact ⟨h2, good_of_word (List.mem_filter.mp h2).2⟩
theorem js_cb {R : Room} {s : State} {args : Array Value} {own : String} {index maxL n k : Nat} {y : MethodName} {bytes : ByteArray} {ret : Option FieldType} (hts : ∀ w ∈ am_gw, w.before args s = true) (hc : (.code y bytes maxL ret : Cond) ∈ am_gw) (hi : (.initialized y.cls : Cond) ∈ am_gw) (hl : (.methodLink own index y : Cond) ∈ am_gw) (hy : y.cls ≠ "java/lang/invoke/MethodHandle" ∧ y.cls ≠ "java/lang/invoke/VarHandle") (hn : (parseMethodDescriptor y.desc).map (fun d => d.parameters.length) = some n) (hf : k + 1 ≤ R.frames) (hlo : 60 * (k + 1) ≤ R.locals) (hm : maxL ≤ 20) : CallB R s args own index y bytes maxL ret (.code y bytes maxL ret :: am_gw) (am_rj k) 0 0 n :=
  ⟨rfl, rfl, hf, by show 8 + (maxL + 11) + 60 * k ≤ _; omega, pay_in hts (js_good hc), List.mem_cons_self, hts _ hc, hts _ hi, hy, fun sig h => by rw [h] at hn; exact (Option.some.inj hn).symm, hts _ hl⟩
section JSA
variable {l : Launch} {G : am_G} {xs : Nat → Int32} {L : Nat} {adV : Nat → Nat}
theorem js_ofW {y : MethodName} {cc : ByteArray} {maxL k : Nat} {ret : Option FieldType} {av : List Value} {v : Option Value} (hy : plainName y.cls = true) (hn : (lg_sl av).length ≤ maxL)
    (body : ∀ (p : Program) (e : Env) (s : State) (m : MethodId) (below : List Frame) (meth : Method) (c : Code) (ls : Array Slot), p.tables.exec = Jvm.exec → c.code = cc → meth.sig.returnType = ret → c.maxLocals = maxL → s.vm.findClass y.cls = some m.cls → (∀ w ∈ am_gw, w.before av.toArray s = true) → am_E G xs L adV s s.heap → meth.locks = false → lv_has ls maxL (lv_args 0 av) →
      W p l e (am_rj k) s m av.toArray below meth c s.heap [] 0 0 (MQ below (am_Qj v) av.toArray s 0 0 (am_O G)) (F0 m 0 ls [])) : Met l y (.code y cc maxL ret :: am_gw) (am_rj k) (am_Pj G xs L adV av) (am_Qj v) 0 0 (am_O G) := by
  refine Met.ofW (cc := cc) (maxL := maxL) (ret := ret) hy rfl ?_
  intro p e s m args below meth c s₁ B hml hv'
  obtain ⟨rfl, hE⟩ := hv'
  have hts0 := atoms_spec (ws := .code y cc maxL ret :: am_gw) B.pre
  have hts : ∀ w ∈ am_gw, w.before av.toArray s = true := fun w hw => hts0 w (List.mem_cons_of_mem _ hw)
  have hl := lv_entry av (n := maxL) hn
  rw [lg_entry_eq]
  generalize (lg_sl av ++ List.replicate (maxL - (lg_sl av).length) Slot.unset).toArray = ls at hl ⊢
  exact body p e s m below meth c ls B.exec B.bytes B.returns hml (findClass_of_methodNamed B.named) hts hE B.notSynchronized hl
end JSA
section JSB
variable {p : Program} {l : Launch} {e : Env} {R : Room} {s : State} {m : MethodId} {args : Array Value} {below : List Frame} {meth : Method} {c : Code} {H : Heap} {locs : List Loc} {cells slots : Nat} {Q : State → Prop}
theorem js_go {G : am_G} {v : Option Value} {a : Array Value} {pc : Nat} {ls : Array Slot} {st0 rest : List Value} (hr : va_Run p l e R s m args below meth c H locs cells slots 0 0 (F0 m pc ls st0) rest (am_Qj v a) (am_O G)) (hS : va_S (am_O G) s.heap H locs)
    (kk : ∀ locs1 : List Loc, va_S (am_O G) s.heap H locs1 → W p l e R s m args below meth c H locs1 cells slots Q (F0 m (pc + 3) ls (v.toList ++ rest))) : W p l e R s m args below meth c H locs cells slots Q (F0 m pc ls st0) := by
  intro T hT X
  obtain ⟨v', st₀, t, T', L, h0, X', hL, e1, e2, ⟨hv, hh⟩, st⟩ := hr T hT X
  cases hv
  obtain ⟨t2, a1, b1⟩ := kk (locs ++ L) ⟨hS.1, hS.2.1, fun q hq => by
      rcases List.mem_append.mp hq with h | h
      · exact hS.2.2 q h
      · exact hL q h⟩ T' (e1.trans (hh.trans h0)) X'
  exact ⟨t2, st t2 a1, b1⟩
end JSB
theorem js_byte : ∀ l ∈ am_str, ∀ b ∈ l, ((b &&& 255).toUInt32 % 65536).toInt32 = b ∧ narrow .char (.int b) = .int b := by
  have h : am_str.all (fun l => l.all (fun b => decide (((b &&& 255).toUInt32 % 65536).toInt32 = b) && decide (narrow .char (.int b) = .int b))) = true := by decide +kernel
  intro l hl b hb
  have h1 := List.all_eq_true.mp (List.all_eq_true.mp h l hl) b hb
  simpa using h1
theorem js_at {i k : Nat} (hk : k < (am_str.getD i []).length) : ((((am_str.getD i []).getD k 0) &&& 255).toUInt32 % 65536).toInt32 = (am_str.getD i []).getD k 0 ∧ narrow .char (.int ((am_str.getD i []).getD k 0)) = .int ((am_str.getD i []).getD k 0) := by
  have hi : i < am_str.length := by
    rcases Nat.lt_or_ge i am_str.length with h | h
    · exact h
    · rw [List.getD_eq_getElem?_getD, List.getElem?_eq_none h] at hk
      exact absurd hk (Nat.not_lt_zero _)
  refine js_byte (am_str.getD i []) ?_ _ ?_
  · rw [List.getD_eq_getElem?_getD, List.getElem?_eq_getElem hi]
    exact List.getElem_mem hi
  · rw [List.getD_eq_getElem?_getD (l := am_str.getD i []), List.getElem?_eq_getElem hk]
    exact List.getElem_mem hk
theorem js_ln : ∀ i : Nat, i < 13 → (Int32.ofNat (am_str.getD i []).length >>> ((0 : Int32) &&& 31) = nI (am_str.getD i []).length) := by decide +kernel
theorem js_in {j : Int32} {n : Nat} (hn : n < 2 ^ 31) (h : am_inB j n = true) : ¬ j < 0 ∧ j < Int32.ofNat n := by
  simp only [am_inB, Bool.not_eq_true', Bool.or_eq_false_iff, decide_eq_false_iff_not] at h
  obtain ⟨h1, h2⟩ := h
  refine ⟨h1, ?_⟩
  have e0 : (0 : Int32).toInt = 0 := rfl
  have h3 : 0 ≤ j.toInt := by
    have := Int32.not_lt.mp h1
    rw [Int32.le_iff_toInt_le, e0] at this
    exact this
  rw [Int32.lt_iff_toInt_lt, Int32.toInt_ofNat_of_lt hn]
  have h4 : j.toNatClampNeg = j.toInt.toNat := rfl
  omega
theorem js_len_lt : ∀ i : Nat, i < 13 → (am_str.getD i []).length < 2 ^ 31 := by decide +kernel
section JSC
variable {l : Launch} {G : am_G} {xs : Nat → Int32} {L : Nat} {adV : Nat → Nat}
/-- String.coder -/
theorem js_coder {i : Nat} (hi : i < 13) : Met l js_cod (.code js_cod prog_23_method_152_code 1 (some .byte) :: am_gw) (am_rj 0) (am_Pj G xs L adV [.ref (G.2.2.2 i)]) (am_Qj (some (.int 0))) 0 0 (am_O G) := by
  refine js_ofW (by decide) (by exact Nat.le_of_ble_eq_true rfl) ?_
  intro p e s m below meth c ls hx hb hr hml hown hts hE hlk hl
  have pre : ∀ U : State, U.heap = s.heap → s.WarmedH U.vm → am_E G xs L adV U U.heap := fun U hU hW => by rw [hU]; exact hE.warm hW
  have hST := hE.2.2.2.2.2.2.1 i hi
  have hSJ := hE.2.2.2.2.2.2.2
  refine va_gets hx hb hSJ.1 va_S.rf hown (hts _ (am_gw_tb jw_f38)) (fun x h => h) (show decode prog_23_method_152_code 0 = .ok (.getstatic 38, 3) by decide +kernel) ?_
  refine lv_if_eq (tgt := 13) hx hb (show decode prog_23_method_152_code 3 = .ok (.ifCond .eq 10, 3) by decide +kernel) rfl (fun h => absurd h (by decide)) (fun _ => ?_)
  refine lv_aload_n hx hb (show decode prog_23_method_152_code 6 = .ok (.aload_n 0, 1) by decide +kernel) rfl (lv_at hl 0 rfl) ?_
  refine vk_getf hx hb hST.2.1 va_S.rf hown (hts _ (am_gw_tb jw_f15)) (fun x h => h) (show decode prog_23_method_152_code 7 = .ok (.getfield 15, 3) by decide +kernel) ?_
  refine lv_goto (tgt := 14) hx hb (show decode prog_23_method_152_code 10 = .ok (.goto 4, 3) by decide +kernel) rfl ?_
  exact W.zret hx hb hr rfl (fun t ht _ => ⟨rfl, ht⟩) (fun _ h => nomatch h) (show decode prog_23_method_152_code 14 = .ok (.ireturn, 1) by decide +kernel)
/-- String.isLatin1 -/
theorem js_latin {i : Nat} (hi : i < 13) : Met l js_lat (.code js_lat prog_23_method_154_code 1 (some .boolean) :: am_gw) (am_rj 0) (am_Pj G xs L adV [.ref (G.2.2.2 i)]) (am_Qj (some (.int 1))) 0 0 (am_O G) := by
  refine js_ofW (by decide) (by exact Nat.le_of_ble_eq_true rfl) ?_
  intro p e s m below meth c ls hx hb hr hml hown hts hE hlk hl
  have pre : ∀ U : State, U.heap = s.heap → s.WarmedH U.vm → am_E G xs L adV U U.heap := fun U hU hW => by rw [hU]; exact hE.warm hW
  have hST := hE.2.2.2.2.2.2.1 i hi
  have hSJ := hE.2.2.2.2.2.2.2
  refine va_gets hx hb hSJ.1 va_S.rf hown (hts _ (am_gw_tb jw_f38)) (fun x h => h) (show decode prog_23_method_154_code 0 = .ok (.getstatic 38, 3) by decide +kernel) ?_
  refine lv_if_eq (tgt := 17) hx hb (show decode prog_23_method_154_code 3 = .ok (.ifCond .eq 14, 3) by decide +kernel) rfl (fun h => absurd h (by decide)) (fun _ => ?_)
  refine lv_aload_n hx hb (show decode prog_23_method_154_code 6 = .ok (.aload_n 0, 1) by decide +kernel) rfl (lv_at hl 0 rfl) ?_
  refine vk_getf hx hb hST.2.1 va_S.rf hown (hts _ (am_gw_tb jw_f15)) (fun x h => h) (show decode prog_23_method_154_code 7 = .ok (.getfield 15, 3) by decide +kernel) ?_
  refine lv_if_ne (tgt := 17) hx hb (show decode prog_23_method_154_code 10 = .ok (.ifCond .ne 7, 3) by decide +kernel) rfl (fun h => absurd rfl h) (fun _ => ?_)
  refine lv_iconst (v := 1) hx hb (show decode prog_23_method_154_code 13 = .ok (.iconst 1, 1) by decide +kernel) rfl ?_
  refine lv_goto (tgt := 18) hx hb (show decode prog_23_method_154_code 14 = .ok (.goto 4, 3) by decide +kernel) rfl ?_
  exact W.zret hx hb hr rfl (fun t ht _ => ⟨rfl, ht⟩) (fun _ h => nomatch h) (show decode prog_23_method_154_code 18 = .ok (.ireturn, 1) by decide +kernel)
/-- Preconditions.checkIndex, within its bounds -/
theorem js_precond {j n : Int32} {w : Value} (hw : w = .null ∨ ∃ t, w = .ref t) (h0 : ¬ j < 0) (h1 : j < n) : Met l js_pre (.code js_pre prog_31_method_11_code 3 (some .int) :: am_gw) (am_rj 0) (am_Pj G xs L adV [.int j, .int n, w]) (am_Qj (some (.int j))) 0 0 (am_O G) := by
  have hc : w.category = 1 := by rcases hw with rfl | ⟨t, rfl⟩ <;> rfl
  refine js_ofW (by decide) (by rcases hw with rfl | ⟨t, rfl⟩ <;> exact Nat.le_of_ble_eq_true rfl) ?_
  intro p e s m below meth c ls hx hb hr hml hown hts hE hlk hl
  have pre : ∀ U : State, U.heap = s.heap → s.WarmedH U.vm → am_E G xs L adV U U.heap := fun U hU hW => by rw [hU]; exact hE.warm hW
  refine lv_iload_n hx hb (show decode prog_31_method_11_code 0 = .ok (.iload_n 0, 1) by decide +kernel) rfl (lv_at hl 0 rfl) ?_
  refine lv_if_lt (tgt := 9) hx hb (show decode prog_31_method_11_code 1 = .ok (.ifCond .lt 8, 3) by decide +kernel) rfl (fun h => absurd h h0) (fun _ => ?_)
  refine lv_iload_n hx hb (show decode prog_31_method_11_code 4 = .ok (.iload_n 0, 1) by decide +kernel) rfl (lv_at hl 0 rfl) ?_
  refine lv_iload_n hx hb (show decode prog_31_method_11_code 5 = .ok (.iload_n 1, 1) by decide +kernel) rfl (lv_at hl 1 rfl) ?_
  refine lv_icmp_lt (tgt := 16) hx hb (show decode prog_31_method_11_code 6 = .ok (.if_icmp .lt 10, 3) by decide +kernel) rfl (fun _ => ?_) (fun h => absurd h1 h)
  refine lv_iload_n hx hb (show decode prog_31_method_11_code 16 = .ok (.iload_n 0, 1) by decide +kernel) rfl (lv_at hl 0 rfl) ?_
  exact W.iret hx hb hr (fun t ht _ => ⟨rfl, ht⟩) (fun _ h => nomatch h) (show decode prog_31_method_11_code 17 = .ok (.ireturn, 1) by decide +kernel)
/-- String.checkIndex, within its bounds -/
theorem js_check {j n : Int32} (h0 : ¬ j < 0) (h1 : j < n) : Met l js_chk (.code js_chk prog_23_method_155_code 2 none :: am_gw) (am_rj 1) (am_Pj G xs L adV [.int j, .int n]) (am_Qj none) 0 0 (am_O G) := by
  refine js_ofW (by decide) (by exact Nat.le_of_ble_eq_true rfl) ?_
  intro p e s m below meth c ls hx hb hr hml hown hts hE hlk hl
  have pre : ∀ U : State, U.heap = s.heap → s.WarmedH U.vm → am_E G xs L adV U U.heap := fun U hU hW => by rw [hU]; exact hE.warm hW
  have hSJ := hE.2.2.2.2.2.2.2
  refine lv_iload_n hx hb (show decode prog_23_method_155_code 0 = .ok (.iload_n 0, 1) by decide +kernel) rfl (lv_at hl 0 rfl) ?_
  refine lv_iload_n hx hb (show decode prog_23_method_155_code 1 = .ok (.iload_n 1, 1) by decide +kernel) rfl (lv_at hl 1 rfl) ?_
  have go : ∀ w : Value, (w = .null ∨ ∃ t, w = .ref t) → va_Z "jdk/internal/util/Preconditions" "SIOOBE_FORMATTER" "Ljava/util/function/BiFunction;" w (am_O G) s s.heap → W p l e (am_rj 1) s m #[.int j, .int n] below meth c s.heap [] 0 0 (MQ below (am_Qj none) #[.int j, .int n] s 0 0 (am_O G)) (F0 m 2 ls [.int n, .int j]) := by
    intro w hw hZ
    have hc : w.category = 1 := by rcases hw with rfl | ⟨t, rfl⟩ <;> rfl
    refine va_gets hx hb hZ va_S.rf hown (hts _ (am_gw_tb jw_f1053)) (fun x h => h) (show decode prog_23_method_155_code 2 = .ok (.getstatic 1053, 3) by decide +kernel) ?_
    refine js_go (va_runS (As := [.int j, .int n, w]) (rest := []) (nL := 2) ⟨hx, hb, hml, hown, hts⟩ (js_precond (l := l) (G := G) (xs := xs) (L := L) (adV := adV) hw h0 h1) ⟨js_cb hts (am_gw_tb jw_pre3) (am_gw_tb jw_i3) (am_gw_tb jw_pre0) (by decide) (n := 3) (by decide +kernel) (Nat.le_refl _) (Nat.le_refl _) (by decide), hts _ (am_gw_tb jw_pre1)⟩ ⟨am_Pj_blind G xs L adV _, fun U hU hW => ⟨rfl, pre U hU hW⟩⟩ rfl rfl hl.1 rfl (by exact Nat.le_of_ble_eq_true rfl) (show decode prog_23_method_155_code 5 = .ok (.invokestatic 1059, 3) by decide +kernel) ⟨Nat.le_refl _, Nat.le_refl _⟩) va_S.rf (fun locs1 hS1 => ?_)
    refine lv_pop hx hb (show decode prog_23_method_155_code 8 = .ok (.pop, 1) by decide +kernel) rfl ?_
    exact W.vret hx hb hr (fun t ht _ => ⟨rfl, ht⟩) hS1.2.2 (show decode prog_23_method_155_code 9 = .ok (.return_, 1) by decide +kernel)
  rcases hSJ.2.1 with hZ | ⟨t, hZ⟩
  · exact go _ (Or.inl rfl) hZ
  · exact go _ (Or.inr ⟨t, rfl⟩) hZ
/-- StringLatin1.charAt at a text of the code -/
theorem js_lcharAt {i : Nat} (hi : i < 13) {j : Int32} (hj : am_inB j (am_str.getD i []).length = true) : Met l js_lch (.code js_lch prog_24_method_2_code 2 (some .char) :: am_gw) (am_rj 2) (am_Pj G xs L adV [.ref (adV i), .int j]) (am_Qj (some (.int ((am_str.getD i []).getD j.toNatClampNeg 0)))) 0 0 (am_O G) := by
  refine js_ofW (by decide) (by exact Nat.le_of_ble_eq_true rfl) ?_
  intro p e s m below meth c ls hx hb hr hml hown hts hE hlk hl
  have pre : ∀ U : State, U.heap = s.heap → s.WarmedH U.vm → am_E G xs L adV U U.heap := fun U hU hW => by rw [hU]; exact hE.warm hW
  have hST := hE.2.2.2.2.2.2.1 i hi
  obtain ⟨h0, h1⟩ := js_in (js_len_lt i hi) hj
  have hvp : vp_in j (am_str.getD i []).length := by
    simp only [am_inB, Bool.not_eq_true', Bool.or_eq_false_iff, decide_eq_false_iff_not] at hj
    exact fun q => q.elim hj.1 hj.2
  obtain ⟨hc1, hc2⟩ := js_at (i := i) (k := j.toNatClampNeg) (Nat.not_le.mp fun q => hvp (Or.inr q))
  refine lv_iload_n hx hb (show decode prog_24_method_2_code 0 = .ok (.iload_n 1, 1) by decide +kernel) rfl (lv_at hl 1 rfl) ?_
  refine lv_aload_n hx hb (show decode prog_24_method_2_code 1 = .ok (.aload_n 0, 1) by decide +kernel) rfl (lv_at hl 0 rfl) ?_
  refine va_tlen hx hb hST.2.2.2 va_S.rf rfl (show decode prog_24_method_2_code 2 = .ok (.arraylength, 1) by decide +kernel) ?_
  refine js_go (va_runS (As := [.int j, .int (Int32.ofNat (am_str.getD i []).length)]) (rest := []) (nL := 2) ⟨hx, hb, hml, hown, hts⟩ (js_check (l := l) (G := G) (xs := xs) (L := L) (adV := adV) h0 h1) ⟨js_cb hts (am_gw_tb jw_chk3) (am_gw_tb jw_i0) (am_gw_tb jw_chk0) (by decide) (n := 2) (by decide +kernel) (Nat.le_refl _) (Nat.le_refl _) (by decide), hts _ (am_gw_tb jw_chk1)⟩ ⟨am_Pj_blind G xs L adV _, fun U hU hW => ⟨rfl, pre U hU hW⟩⟩ rfl rfl hl.1 rfl (by exact Nat.le_of_ble_eq_true rfl) (show decode prog_24_method_2_code 3 = .ok (.invokestatic 9, 3) by decide +kernel) ⟨Nat.le_refl _, Nat.le_refl _⟩) va_S.rf (fun locs1 hS1 => ?_)
  refine lv_aload_n hx hb (show decode prog_24_method_2_code 6 = .ok (.aload_n 0, 1) by decide +kernel) rfl (lv_at hl 0 rfl) ?_
  refine lv_iload_n hx hb (show decode prog_24_method_2_code 7 = .ok (.iload_n 1, 1) by decide +kernel) rfl (lv_at hl 1 rfl) ?_
  refine va_tb hx hb hST.2.2.2 hS1 hvp rfl (show decode prog_24_method_2_code 8 = .ok (.baload, 1) by decide +kernel) ?_
  refine lv_sipush (v := 255) hx hb (show decode prog_24_method_2_code 9 = .ok (.sipush 255, 3) by decide +kernel) (by decide) ?_
  refine lv_iand hx hb (show decode prog_24_method_2_code 12 = .ok (.iand, 1) by decide +kernel) ?_
  refine lv_i2c hx hb (show decode prog_24_method_2_code 13 = .ok (.i2c, 1) by decide +kernel) hc1 ?_
  exact W.zret hx hb hr hc2 (fun t ht _ => ⟨rfl, ht⟩) hS1.2.2 (show decode prog_24_method_2_code 14 = .ok (.ireturn, 1) by decide +kernel)
/-- String.length at a text of the code -/
theorem js_length {i : Nat} (hi : i < 13) : Met l js_len (.code js_len prog_23_method_54_code 1 (some .int) :: am_gw) (am_rj 1) (am_Pj G xs L adV [.ref (G.2.2.2 i)]) (am_Qj (some (.int (nI (am_str.getD i []).length)))) 0 0 (am_O G) := by
  refine js_ofW (by decide) (by exact Nat.le_of_ble_eq_true rfl) ?_
  intro p e s m below meth c ls hx hb hr hml hown hts hE hlk hl
  have pre : ∀ U : State, U.heap = s.heap → s.WarmedH U.vm → am_E G xs L adV U U.heap := fun U hU hW => by rw [hU]; exact hE.warm hW
  have hST := hE.2.2.2.2.2.2.1 i hi
  obtain ⟨cB, q1, q2, q3, -⟩ := hST.1
  refine lv_aload_n hx hb (show decode prog_23_method_54_code 0 = .ok (.aload_n 0, 1) by decide +kernel) rfl (lv_at hl 0 rfl) ?_
  refine vk_getf hx hb hST.2.2.1 va_S.rf hown (hts _ (am_gw_tb jw_f9)) (fun x h => h) (show decode prog_23_method_54_code 1 = .ok (.getfield 9, 3) by decide +kernel) ?_
  refine va_tlen hx hb hST.2.2.2 va_S.rf rfl (show decode prog_23_method_54_code 4 = .ok (.arraylength, 1) by decide +kernel) ?_
  refine lv_aload_n hx hb (show decode prog_23_method_54_code 5 = .ok (.aload_n 0, 1) by decide +kernel) rfl (lv_at hl 0 rfl) ?_
  refine js_go (va_runV (C := "java/lang/String") (As := []) (rest := [.int (Int32.ofNat (am_str.getD i []).length)]) (nL := 1) ⟨hx, hb, hml, hown, hts⟩ (js_coder (l := l) (G := G) (xs := xs) (L := L) (adV := adV) hi) ⟨js_cb hts (am_gw_tb jw_cod3) (am_gw_tb jw_i0) (am_gw_tb jw_cod0) (by decide) (n := 0) (by decide +kernel) (Nat.le_refl _) (Nat.le_refl _) (by decide), hts _ (am_gw_tb jw_cod1), hts _ (am_gw_tb jw_cod2)⟩ ⟨am_Pj_blind G xs L adV _, ⟨cB, q1, q2, q3⟩, fun U hU hW => ⟨rfl, pre U hU hW⟩⟩ rfl rfl hl.1 rfl (by exact Nat.le_of_ble_eq_true rfl) (show decode prog_23_method_54_code 6 = .ok (.invokevirtual 335, 3) by decide +kernel) ⟨Nat.le_refl _, Nat.le_refl _⟩) va_S.rf (fun locs1 hS1 => ?_)
  refine lv_ishr hx hb (show decode prog_23_method_54_code 9 = .ok (.ishr, 1) by decide +kernel) ?_
  rw [js_ln i hi]
  exact W.iret hx hb hr (fun t ht _ => ⟨rfl, ht⟩) hS1.2.2 (show decode prog_23_method_54_code 10 = .ok (.ireturn, 1) by decide +kernel)
/-- String.charAt at a text of the code -/
theorem js_charAt {i : Nat} (hi : i < 13) {j : Int32} (hj : am_inB j (am_str.getD i []).length = true) : Met l js_cha (.code js_cha prog_23_method_56_code 2 (some .char) :: am_gw) (am_rj 3) (am_Pj G xs L adV [.ref (G.2.2.2 i), .int j]) (am_Qj (some (.int ((am_str.getD i []).getD j.toNatClampNeg 0)))) 0 0 (am_O G) := by
  refine js_ofW (by decide) (by exact Nat.le_of_ble_eq_true rfl) ?_
  intro p e s m below meth c ls hx hb hr hml hown hts hE hlk hl
  have pre : ∀ U : State, U.heap = s.heap → s.WarmedH U.vm → am_E G xs L adV U U.heap := fun U hU hW => by rw [hU]; exact hE.warm hW
  have hST := hE.2.2.2.2.2.2.1 i hi
  obtain ⟨cB, q1, q2, q3, -⟩ := hST.1
  have hvp : vp_in j (am_str.getD i []).length := by
    have hj2 := hj
    simp only [am_inB, Bool.not_eq_true', Bool.or_eq_false_iff, decide_eq_false_iff_not] at hj2
    exact fun q => q.elim hj2.1 hj2.2
  obtain ⟨-, hc2⟩ := js_at (i := i) (k := j.toNatClampNeg) (Nat.not_le.mp fun q => hvp (Or.inr q))
  refine lv_aload_n hx hb (show decode prog_23_method_56_code 0 = .ok (.aload_n 0, 1) by decide +kernel) rfl (lv_at hl 0 rfl) ?_
  refine js_go (va_runV (C := "java/lang/String") (As := []) (rest := []) (nL := 2) ⟨hx, hb, hml, hown, hts⟩ (js_latin (l := l) (G := G) (xs := xs) (L := L) (adV := adV) hi) ⟨js_cb hts (am_gw_tb jw_lat3) (am_gw_tb jw_i0) (am_gw_tb jw_lat0) (by decide) (n := 0) (by decide +kernel) (by decide) (by decide) (by decide), hts _ (am_gw_tb jw_lat1), hts _ (am_gw_tb jw_lat2)⟩ ⟨am_Pj_blind G xs L adV _, ⟨cB, q1, q2, q3⟩, fun U hU hW => ⟨rfl, pre U hU hW⟩⟩ rfl rfl hl.1 rfl (by exact Nat.le_of_ble_eq_true rfl) (show decode prog_23_method_56_code 1 = .ok (.invokevirtual 492, 3) by decide +kernel) ⟨Nat.le_refl _, Nat.le_refl _⟩) va_S.rf (fun locs1 hS1 => ?_)
  refine lv_if_eq (tgt := 16) hx hb (show decode prog_23_method_56_code 4 = .ok (.ifCond .eq 12, 3) by decide +kernel) rfl (fun h => absurd h (by decide)) (fun _ => ?_)
  refine lv_aload_n hx hb (show decode prog_23_method_56_code 7 = .ok (.aload_n 0, 1) by decide +kernel) rfl (lv_at hl 0 rfl) ?_
  refine vk_getf hx hb hST.2.2.1 hS1 hown (hts _ (am_gw_tb jw_f9)) (fun x h => h) (show decode prog_23_method_56_code 8 = .ok (.getfield 9, 3) by decide +kernel) ?_
  refine lv_iload_n hx hb (show decode prog_23_method_56_code 11 = .ok (.iload_n 1, 1) by decide +kernel) rfl (lv_at hl 1 rfl) ?_
  refine js_go (va_runS (As := [.ref (adV i), .int j]) (rest := []) (nL := 2) ⟨hx, hb, hml, hown, hts⟩ (js_lcharAt (l := l) (G := G) (xs := xs) (L := L) (adV := adV) hi hj) ⟨js_cb hts (am_gw_tb jw_lch3) (am_gw_tb jw_i1) (am_gw_tb jw_lch0) (by decide) (n := 2) (by decide +kernel) (Nat.le_refl _) (Nat.le_refl _) (by decide), hts _ (am_gw_tb jw_lch1)⟩ ⟨am_Pj_blind G xs L adV _, fun U hU hW => ⟨rfl, pre U hU hW⟩⟩ rfl rfl hl.1 rfl (by exact Nat.le_of_ble_eq_true rfl) (show decode prog_23_method_56_code 12 = .ok (.invokestatic 495, 3) by decide +kernel) ⟨Nat.le_refl _, Nat.le_refl _⟩) hS1 (fun locs2 hS2 => ?_)
  exact W.zret hx hb hr hc2 (fun t ht _ => ⟨rfl, ht⟩) hS2.2.2 (show decode prog_23_method_56_code 15 = .ok (.ireturn, 1) by decide +kernel)
end JSC
theorem am_okls_spec {y ix : Nat} {cc : Int} (h : am_okm y 0 cc ix 10 10 = true) : (.methodLink (am_cn (am_ow y)) ix js_len : Cond) ∈ am_gw := by
  obtain ⟨kd, ps, hk, hg⟩ := am_okm_get h
  have hk : kd = 10 := hk.elim id id
  subst hk
  simp only [am_gm] at hg
  exact am_gw_tb hg
theorem am_okca_spec {y ix : Nat} {cc : Int} (h : am_okm y 1 cc ix 10 10 = true) : (.methodLink (am_cn (am_ow y)) ix js_cha : Cond) ∈ am_gw := by
  obtain ⟨kd, ps, hk, hg⟩ := am_okm_get h
  have hk : kd = 10 := hk.elim id id
  subst hk
  simp only [am_gm] at hg
  exact am_gw_tb hg
