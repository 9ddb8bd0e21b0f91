-- HOW THE AM'S HEAP LIES IN THE MACHINE'S: cell k at base + k
/-- the classes' numbers, the array classes by kind, the base, where the texts (0 ..) and the script (100) lie -/
abbrev am_G : Type := va_G × (Nat → ClassId) × Nat × (Nat → Nat)
def am_tv (G : am_G) : Value → Value
  | .ref k => .ref (G.2.2.1 + k)
  | .float u => .ref (G.2.2.2 u.toNat)
  | .int x => .int x
  | .long x => .long x
  | .double x => .double x
  | .null => .null
  | .retAddr x => .retAddr x
theorem am_tv_cat (G : am_G) (v : Value) : (am_tv G v).category = v.category := by cases v <;> rfl
theorem am_cats_map (G : am_G) (st : List Value) : ((st.map (am_tv G)).map fun v => v.category).sum = am_cats st := by
  unfold am_cats
  rw [List.map_map]
  congr 1
  exact List.map_congr_left fun v _ => am_tv_cat G v
def am_ac (G : am_G) : am_C → va_E
  | .inl (tag, n, .inl f) => .inl (G.2.1 tag, n, .inl f)
  | .inl (tag, n, .inr (.inl f)) => .inl (G.2.1 tag, n, .inr (.inl f))
  | .inl (tag, n, .inr (.inr f)) => .inl (G.2.1 tag, n, .inr (.inr (.inr (.inr (fun j => (f j).map (fun k => G.2.2.1 + k))))))
  | .inr (ci, fs) => .inr (ci, fs.map (am_tv G))
def am_R (G : am_G) (h : am_H) (H : Heap) : Prop := H.size = G.2.2.1 + h.1 ∧ ∀ (k : Nat) (c : am_C), h.2.2 k = some c → k < h.1 ∧ va_at G.1 am_cl (G.2.2.1 + k, am_ac G c) H
theorem am_R.set {G : am_G} {h : am_H} {H H1 : Heap} {k : Nat} {c0 c1 : am_C} (hR : am_R G h H) (hk : h.2.2 k = some c0) (hz : H1.size = H.size) (ho : ∀ q : Nat, q ≠ G.2.2.1 + k → H1[q]? = H[q]?) (hc : va_at G.1 am_cl (G.2.2.1 + k, am_ac G c1) H1) : am_R G (am_set h k c1) H1 := by
  refine ⟨hz.trans hR.1, fun j c hj => ?_⟩
  by_cases e : j = k
  · subst e
    have e1 : va_up h.2.2 j (some c1) j = some c := hj
    rw [va_up_self] at e1
    cases e1
    exact ⟨(hR.2 j c0 hk).1, hc⟩
  · have e1 : va_up h.2.2 k (some c1) j = some c := hj
    rw [va_up_ne _ _ e] at e1
    obtain ⟨h1, h2⟩ := hR.2 j c e1
    exact ⟨h1, h2.kept (ho _ (fun z => e (Nat.add_left_cancel z)))⟩
theorem am_R.new {G : am_G} {h : am_H} {H H1 : Heap} {c : am_C} {n : Nat} (hR : am_R G h H) (hz : H1.size = H.size + 1) (ho : ∀ q : Nat, q < H.size → H1[q]? = H[q]?) (hc : va_at G.1 am_cl (G.2.2.1 + h.1, am_ac G c) H1) : am_R G (am_new h c n) H1 := by
  refine ⟨by rw [hz, hR.1]; rfl, fun j c' hj => ?_⟩
  show j < h.1 + 1 ∧ _
  by_cases e : j = h.1
  · subst e
    have e1 : va_up h.2.2 h.1 (some c) h.1 = some c' := hj
    rw [va_up_self] at e1
    cases e1
    exact ⟨Nat.lt_succ_self _, hc⟩
  · have e1 : va_up h.2.2 h.1 (some c) j = some c' := hj
    rw [va_up_ne _ _ e] at e1
    obtain ⟨h1, h2⟩ := hR.2 j c' e1
    exact ⟨Nat.lt_succ_of_lt h1, h2.kept (ho _ (by have := h2.lt; exact this))⟩
/-- a nest mate's word -/
def am_isN : Cond → Bool
  | .fieldLinkNest .. => true
  | .methodLinkNest .. => true
  | .declares _ => true
  | .castable .. => true
  | _ => false
def am_O (G : am_G) : Nat → Prop := fun q => G.2.2.1 ≤ q
def am_tys (G : am_G) : List (ClassId × FieldType) := [(G.2.1 0, .int), (G.2.1 1, .long), (G.2.1 2, .byte), (G.2.1 3, .object "GapLetter$Now")]
def am_txs : List String := ["tongue", "thing", "saying", "word", "coined", "gone", "heard", "shunned", "old", "of", "means", "day", "year"]
/-- the texts themselves -/
def am_ST (G : am_G) (adV : Nat → Nat) (U : State) (H : Heap) : Prop :=
  ∀ i : Nat, i < 13 → va_O "java/lang/String" (G.2.2.2 i) (am_O G) U H ∧ va_OF "java/lang/String" "coder" "B" (.int 0) (G.2.2.2 i) (am_O G) U H ∧ va_OF "java/lang/String" "value" "[B" (.ref (adV i)) (G.2.2.2 i) (am_O G) U H ∧ va_T .byte (adV i) (am_str.getD i []).length (fun j => .int ((am_str.getD i []).getD j 0)) (am_O G) U H
/-- the JDK's statics that are read -/
def am_SJ (G : am_G) (U : State) (H : Heap) : Prop :=
  va_Z "java/lang/String" "COMPACT_STRINGS" "Z" (.int 1) (am_O G) U H ∧ va_Zq "jdk/internal/util/Preconditions" "SIOOBE_FORMATTER" "Ljava/util/function/BiFunction;" (am_O G) U H ∧ vx_Zq Bundle.tN "UNASSIGNED_STACK" Bundle.steD (am_O G) U H ∧ vx_Zq Bundle.tN "SUPPRESSED_SENTINEL" Bundle.listD (am_O G) U H
theorem am_ST.kept {G : am_G} {adV : Nat → Nat} {U : State} {H H1 : Heap} (h : am_ST G adV U H) (hq : ∀ a : Nat, a < H.size → ¬ am_O G a → H1[a]? = H[a]?) : am_ST G adV U H1 :=
  fun i hi => ⟨(h i hi).1.kept hq, (h i hi).2.1.kept hq, (h i hi).2.2.1.kept hq, (h i hi).2.2.2.kept hq⟩
theorem am_ST.moved {G : am_G} {adV : Nat → Nat} {u U : State} {H : Heap} (hvm : u.vm.Alike U.vm) (h : am_ST G adV u H) : am_ST G adV U H :=
  fun i hi => ⟨va_O.moved hvm (h i hi).1, va_OF.moved hvm (h i hi).2.1, va_OF.moved hvm (h i hi).2.2.1, va_T.moved hvm (h i hi).2.2.2⟩
theorem am_SJ.kept {G : am_G} {U : State} {H H1 : Heap} (h : am_SJ G U H) (hq : ∀ a : Nat, a < H.size → ¬ am_O G a → H1[a]? = H[a]?) : am_SJ G U H1 :=
  ⟨h.1.kept hq, va_Zq.kept h.2.1 hq, vx_Zq.kept h.2.2.1 hq, vx_Zq.kept h.2.2.2 hq⟩
theorem am_SJ.moved {G : am_G} {u U : State} {H : Heap} (hvm : u.vm.Alike U.vm) (h : am_SJ G u H) : am_SJ G U H :=
  ⟨va_Z.moved hvm h.1, va_Zq.moved hvm h.2.1, vx_Zq.moved hvm h.2.2.1, vx_Zq.moved hvm h.2.2.2⟩
/-- the texts that stand in the code -/
def am_SE (G : am_G) (adV : Nat → Nat) (U : State) (H : Heap) : Prop :=
  (∀ e ∈ am_ps, vk_R (am_cn e.1) e.2.1 (am_txs.getD e.2.2.1 "") (G.2.2.2 e.2.2.1) U) ∧ am_ST G adV U H ∧ am_SJ G U H
/-- what a method finds beside its own cells -/
def am_E (G : am_G) (xs : Nat → Int32) (L : Nat) (adV : Nat → Nat) (U : State) (H : Heap) : Prop :=
  va_K G.1 am_cl (am_tys G) U ∧ (∀ w ∈ lw_tbl, am_isN w = true → va_Nw w U) ∧ va_AO "GapLetter$Now" U ∧ va_X (G.2.2.2 100) L xs U H ∧ G.2.2.2 100 < G.2.2.1 ∧ am_SE G adV U H
theorem am_isN_tab {w : Cond} (h : am_isN w = true) : w.onTables = true := by
  cases w <;> first | rfl | cases h
theorem am_SE.kept {G : am_G} {adV : Nat → Nat} {U : State} {H H1 : Heap} (h : am_SE G adV U H) (hq : ∀ a : Nat, a < H.size → ¬ am_O G a → H1[a]? = H[a]?) : am_SE G adV U H1 :=
  ⟨h.1, h.2.1.kept hq, h.2.2.kept hq⟩
theorem am_E.kept {G : am_G} {xs : Nat → Int32} {L : Nat} {adV : Nat → Nat} {U : State} {H H1 : Heap} (h : am_E G xs L adV U H) (hz : G.2.2.1 ≤ H.size) (hq : ∀ a : Nat, a < H.size → ¬ am_O G a → H1[a]? = H[a]?) : am_E G xs L adV U H1 :=
  ⟨h.1, h.2.1, h.2.2.1, h.2.2.2.1.kept (hq _ (Nat.lt_of_lt_of_le h.2.2.2.2.1 hz) (Nat.not_le.mpr h.2.2.2.2.1)), h.2.2.2.2.1, h.2.2.2.2.2.kept hq⟩
theorem am_E.warm {G : am_G} {xs : Nat → Int32} {L : Nat} {adV : Nat → Nat} {s U : State} {H : Heap} (hW : s.WarmedH U.vm) (h : am_E G xs L adV s H) : am_E G xs L adV U H := by
  obtain ⟨h1, h2, h3, h4, h5, h6, h7, h8⟩ := h
  refine ⟨va_K.moved hW.alike h1, fun w hw hn => ?_, h3.moved hW.alike, h4.moved hW.alike, h5, fun e he => (h6 e he).warm hW, h7.moved hW.alike, h8.moved hW.alike⟩
  have hz := h2 w hw hn
  cases w <;> first | exact va_Nw.warmF hW hz | exact va_Nw.warmM hW hz | exact va_Nw.warmD hW hz | exact va_Nw.warmC hW hz | cases hn
theorem am_E.same {G : am_G} {xs : Nat → Int32} {L : Nat} {adV : Nat → Nat} {s U : State} {H : Heap} (hv : U.vm = s.vm) (h : am_E G xs L adV s H) : am_E G xs L adV U H := by
  obtain ⟨h1, h2, h3, h4, h5, h6, h7, h8⟩ := h
  have ha : s.vm.Alike U.vm := by rw [hv]; exact Vm.Alike.refl s.vm
  exact ⟨va_K.moved ha h1, fun w hw hn => (h2 w hw hn).same (am_isN_tab hn) hv.symm, h3.moved ha, h4.moved ha, h5, fun e he => (h6 e he).same hv, h7.moved ha, h8.moved ha⟩
-- locals
def am_lv (G : am_G) : Nat → am_L → List (Nat × Value)
  | _, [] => []
  | k, none :: l => am_lv G (k + 1) l
  | k, some v :: l => (k, am_tv G v) :: am_lv G (k + 1) l
theorem am_lv_mem (G : am_G) : ∀ (l : am_L) (k : Nat) (q : Nat × Value), q ∈ am_lv G k l ↔ ∃ (i : Nat) (v : Value), q = (k + i, am_tv G v) ∧ l[i]? = some (some v) := by
  intro l
  induction l with
  | nil => intro k q; simp [am_lv]
  | cons o l ih =>
    intro k q
    have tail : (∃ (i : Nat) (v : Value), q = (k + 1 + i, am_tv G v) ∧ l[i]? = some (some v)) → ∃ (i : Nat) (v : Value), q = (k + i, am_tv G v) ∧ (o :: l)[i]? = some (some v) := by
      rintro ⟨i, v, e1, e2⟩
      exact ⟨i + 1, v, by rw [e1]; congr 1; omega, by simpa using e2⟩
    have back : ∀ (i : Nat) (v : Value), q = (k + (i + 1), am_tv G v) → (o :: l)[i + 1]? = some (some v) → ∃ (i : Nat) (v : Value), q = (k + 1 + i, am_tv G v) ∧ l[i]? = some (some v) := by
      intro i v e1 e2
      exact ⟨i, v, by rw [e1]; congr 1; omega, by simpa using e2⟩
    cases o with
    | none =>
      simp only [am_lv, ih]
      constructor
      · exact tail
      · rintro ⟨i, v, e1, e2⟩
        cases i with
        | zero => simp at e2
        | succ i => exact back i v e1 e2
    | some w =>
      simp only [am_lv, List.mem_cons, ih]
      constructor
      · rintro (e | e)
        · exact ⟨0, w, by simpa using e, by simp⟩
        · exact tail e
      · rintro ⟨i, v, e1, e2⟩
        cases i with
        | zero =>
          simp only [List.getElem?_cons_zero, Option.some.injEq] at e2
          subst e2
          exact Or.inl (by simpa using e1)
        | succ i => exact Or.inr (back i v e1 e2)
def am_lr (G : am_G) (y : Nat) (ls : Array Slot) (l : am_L) : Prop := l.length = am_ml y ∧ lv_has ls (am_ml y) (am_lv G 0 l)
theorem am_lr.at {G : am_G} {y : Nat} {ls : Array Slot} {l : am_L} (h : am_lr G y ls l) {k : Nat} {v : Value} (e : am_ld l k = some v) : ls[k]? = some (.val (am_tv G v)) := by
  have e2 : l[k]? = some (some v) := by
    unfold am_ld at e
    cases hk : l[k]? with
    | none => rw [hk] at e; cases e
    | some o => rw [hk] at e; rw [show o = some v from e]
  exact h.2.2.2 (k, am_tv G v) ((am_lv_mem G l 0 _).mpr ⟨k, v, by rw [Nat.zero_add], e2⟩)
theorem am_st1_len : ∀ (l : am_L) (k : Nat) (v : Value), (am_st1 l k v).length = l.length := by
  intro l
  induction l with
  | nil => intro k v; cases k <;> rfl
  | cons o l ih =>
    intro k v
    cases k with
    | zero => rfl
    | succ k => simp [am_st1, ih]
theorem am_st1_get : ∀ (l : am_L) (k : Nat) (v : Value) (i : Nat) (w : Value), (am_st1 l k v)[i]? = some (some w) → (i = k ∧ w = v) ∨ (i ≠ k ∧ l[i]? = some (some w) ∧ ¬ (i + 1 = k ∧ w.category = 2)) := by
  intro l
  induction l with
  | nil => intro k v i w h; cases k <;> simp [am_st1] at h
  | cons o l ih =>
    intro k v i w h
    cases k with
    | zero =>
      cases i with
      | zero => simp [am_st1] at h; exact Or.inl ⟨rfl, h.symm⟩
      | succ i => simp [am_st1] at h; exact Or.inr ⟨by omega, by simpa using h, by omega⟩
    | succ k =>
      cases i with
      | zero =>
        simp only [am_st1, List.getElem?_cons_zero, Option.some.injEq] at h
        refine Or.inr ⟨by omega, ?_, ?_⟩
        · split at h
          · cases o with
            | none => simp [am_clr] at h
            | some u => simp only [am_clr] at h; split at h <;> simp_all
          · rw [h]; rfl
        · rintro ⟨e, hc⟩
          have hk : k = 0 := by omega
          subst hk
          simp only [if_true] at h
          cases o with
          | none => simp [am_clr] at h
          | some u =>
            simp only [am_clr] at h
            split at h
            · cases h
            · rename_i hn; cases h; exact hn hc
      | succ i =>
        simp only [am_st1, List.getElem?_cons_succ] at h
        rcases ih k v i w h with ⟨e1, e2⟩ | ⟨e1, e2, e3⟩
        · exact Or.inl ⟨by omega, e2⟩
        · exact Or.inr ⟨by omega, by simpa using e2, fun q => e3 ⟨by omega, q.2⟩⟩
theorem am_lr.st1 {G : am_G} {y : Nat} {ls ls' : Array Slot} {l : am_L} {k : Nat} {v : Value} (h : am_lr G y ls l) (h' : lv_has ls' (am_ml y) ((k, am_tv G v) :: (am_lv G 0 l).filter (fun q => !(q.1 == k) && !(q.1 + 1 == k && q.2.category == 2)))) : am_lr G y ls' (am_st1 l k v) := by
  refine ⟨(am_st1_len l k v).trans h.1, h'.1, h'.2.1, fun q hq => ?_⟩
  obtain ⟨i, w, e1, e2⟩ := (am_lv_mem G _ 0 q).mp hq
  subst e1
  simp only [Nat.zero_add]
  rcases am_st1_get l k v i w e2 with ⟨a1, a2⟩ | ⟨a1, a2, a3⟩
  · subst a1; subst a2
    exact h'.2.2 (i, am_tv G w) List.mem_cons_self
  · refine h'.2.2 (i, am_tv G w) (List.mem_cons_of_mem _ (List.mem_filter.mpr ⟨(am_lv_mem G l 0 _).mpr ⟨i, w, by rw [Nat.zero_add], a2⟩, ?_⟩))
    simp only [Bool.and_eq_true, Bool.not_eq_true', beq_eq_false_iff_ne, ne_eq, Bool.and_eq_false_iff, am_tv_cat]
    refine ⟨a1, ?_⟩
    by_cases hk : i + 1 = k
    · exact Or.inr (fun hc => a3 ⟨hk, hc⟩)
    · exact Or.inl hk
theorem am_lr.st2 {G : am_G} {y : Nat} {ls ls' : Array Slot} {l : am_L} {k : Nat} {v : Value} (h : am_lr G y ls l) (h' : lv_has ls' (am_ml y) ((k, am_tv G v) :: (am_lv G 0 l).filter (fun q => !(q.1 == k) && (!(q.1 == k + 1) && !(q.1 + 1 == k && q.2.category == 2))))) : am_lr G y ls' (am_st2 l k v) := by
  refine ⟨by unfold am_st2; rw [List.length_set]; exact (am_st1_len l k v).trans h.1, h'.1, h'.2.1, fun q hq => ?_⟩
  obtain ⟨i, w, e1, e2⟩ := (am_lv_mem G _ 0 q).mp hq
  subst e1
  simp only [Nat.zero_add]
  unfold am_st2 at e2
  have hi : i ≠ k + 1 := by
    intro e; subst e
    rw [List.getElem?_set] at e2
    split at e2 <;> simp_all
  rw [List.getElem?_set_ne (Ne.symm hi)] at e2
  rcases am_st1_get l k v i w e2 with ⟨a1, a2⟩ | ⟨a1, a2, a3⟩
  · subst a1; subst a2
    exact h'.2.2 (i, am_tv G w) List.mem_cons_self
  · refine h'.2.2 (i, am_tv G w) (List.mem_cons_of_mem _ (List.mem_filter.mpr ⟨(am_lv_mem G l 0 _).mpr ⟨i, w, by rw [Nat.zero_add], a2⟩, ?_⟩))
    simp only [Bool.and_eq_true, Bool.not_eq_true', beq_eq_false_iff_ne, ne_eq, Bool.and_eq_false_iff, am_tv_cat]
    refine ⟨a1, hi, ?_⟩
    by_cases hk : i + 1 = k
    · exact Or.inr (fun hc => a3 ⟨hk, hc⟩)
    · exact Or.inl hk
