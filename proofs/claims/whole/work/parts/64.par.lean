-- THE TEXT, READ PURELY
def nu (f : Nat → Nat) (k v : Nat) : Nat → Nat := fun j => if j = k then v else f j
def lw (τ : lt_T) (c k : Nat) (w : List Nat) : Nat → Nat → List Nat := fun c' k' => if c' = c ∧ k' = k then w else τ.2.1 c' k'
def lv (τ : lt_T) (c k v : Nat) : Nat → Nat → Nat := fun c' k' => if c' = c ∧ k' = k then v else τ.2.2 c' k'
theorem lw_s {τ : lt_T} {c k : Nat} {w : List Nat} : lw τ c k w c k = w := if_pos ⟨rfl, rfl⟩
theorem lw_n {τ : lt_T} {c k k' : Nat} {w : List Nat} (h : k' ≠ k) : lw τ c k w c k' = τ.2.1 c k' := if_neg (fun z => h z.2)
theorem lv_s {τ : lt_T} {c k v : Nat} : lv τ c k v c k = v := if_pos ⟨rfl, rfl⟩
theorem lv_n {τ : lt_T} {c k k' v : Nat} (h : k' ≠ k) : lv τ c k v c k' = τ.2.2 c k' := if_neg (fun z => h z.2)
def tY (τ : lt_T) (y : Nat) : lt_T := (nu τ.1 0 y, τ.2)
def tTh (τ : lt_T) (w : List Nat) : lt_T := (nu τ.1 1 (τ.1 1 + 1), lw τ 0 (τ.1 1) w, τ.2.2)
def tSv (τ : lt_T) (ps : List Nat) : Nat → Nat → Nat := fun c k => if c = 0 ∧ k = τ.1 2 then ps.length else if c = 1 ∧ 4 * τ.1 2 ≤ k ∧ k < 4 * τ.1 2 + ps.length then ps.getD (k - 4 * τ.1 2) 0 else τ.2.2 c k
def tSa (τ : lt_T) (w : List Nat) (ps : List Nat) : lt_T := (nu τ.1 2 (τ.1 2 + 1), lw τ 1 (τ.1 2) w, tSv τ ps)
def tWo (τ : lt_T) (w : List Nat) (t : Nat) : lt_T := (nu τ.1 3 (τ.1 3 + 1), lw τ 2 (τ.1 3) w, lv τ 2 (τ.1 3) t)
def tCo (τ : lt_T) (w : List Nat) (t : Nat) : lt_T := (nu τ.1 4 (τ.1 4 + 1), lw τ 3 (τ.1 4) w, lv τ 3 (τ.1 4) t)
def tGv (τ : lt_T) (c dd : Nat) : Nat → Nat → Nat := fun c' k' => if c' = 4 ∧ k' = τ.1 5 then c else if c' = 5 ∧ k' = τ.1 5 then dd else τ.2.2 c' k'
def tGo (τ : lt_T) (c dd : Nat) : lt_T := (nu τ.1 5 (τ.1 5 + 1), τ.2.1, tGv τ c dd)
def tHe (τ : lt_T) (w : List Nat) (b : Nat) : lt_T := (nu τ.1 6 (τ.1 6 + 1), lw τ 4 (τ.1 6) w, lv τ 6 (τ.1 6) b)
def tOl (τ : lt_T) (w : List Nat) : lt_T := (nu τ.1 7 (τ.1 7 + 1), lw τ 5 (τ.1 7) w, τ.2.2)
/-- a tongue while it is told -/
def lq_A (τ : lt_T) : Prop := τ.1 0 ≤ 99 ∧ τ.1 1 ≤ 6 ∧ τ.1 2 ≤ 5 ∧ τ.1 3 ≤ 8 ∧ τ.1 4 ≤ 4 ∧ τ.1 5 ≤ 6 ∧ τ.1 6 ≤ 6 ∧ τ.1 7 ≤ 5
def lq_N (τ : lt_T) : Prop := (∀ k, k < τ.1 1 → nw_ok (τ.2.1 0 k)) ∧ (∀ k, k < τ.1 2 → nw_ok (τ.2.1 1 k)) ∧ (∀ j k, j < τ.1 1 → k < τ.1 1 → τ.2.1 0 j = τ.2.1 0 k → j = k) ∧ (∀ j k, j < τ.1 2 → k < τ.1 2 → τ.2.1 1 j = τ.2.1 1 k → j = k) ∧ (∀ j k, j < τ.1 1 → k < τ.1 2 → τ.2.1 0 j ≠ τ.2.1 1 k)
def lq_S (τ : lt_T) : Prop := ∀ k, k < τ.1 2 → 1 ≤ τ.2.2 0 k ∧ τ.2.2 0 k ≤ 4 ∧ ∀ i, i < τ.2.2 0 k → τ.2.2 1 (4 * k + i) < τ.1 1
def lq_W (τ : lt_T) : Prop := (∀ w, w < τ.1 3 → nw_ok (τ.2.1 2 w) ∧ τ.2.1 2 w ≠ [] ∧ τ.2.2 2 w < τ.1 1) ∧ (∀ w, w < τ.1 4 → nw_ok (τ.2.1 3 w) ∧ τ.2.1 3 w ≠ [] ∧ τ.2.2 3 w < τ.1 1) ∧ (∀ v w, v < τ.1 3 → w < τ.1 3 → τ.2.1 2 v = τ.2.1 2 w → v = w) ∧ (∀ v w, v < τ.1 4 → w < τ.1 4 → τ.2.1 3 v = τ.2.1 3 w → v = w) ∧ (∀ v w, v < τ.1 3 → w < τ.1 4 → τ.2.1 2 v ≠ τ.2.1 3 w)
def lq_G (τ : lt_T) : Prop := (∀ k, k < τ.1 5 → τ.2.2 4 k < 26 ∧ τ.2.2 5 k ≤ 99) ∧ (∀ j k, j < τ.1 5 → k < τ.1 5 → τ.2.2 4 j = τ.2.2 4 k → j = k)
def lq_H (τ : lt_T) : Prop := (∀ k, k < τ.1 6 → nw_ok (τ.2.1 4 k) ∧ τ.2.2 6 k ≤ 1) ∧ (∀ k, k < τ.1 7 → nw_ok (τ.2.1 5 k))
def lq_Z (τ : lt_T) : Prop := τ.1 0 = 0 → ∀ k, 1 ≤ k → k ≤ 7 → τ.1 k = 0
def lt_q (τ : lt_T) : Prop := lq_A τ ∧ lq_N τ ∧ lq_S τ ∧ lq_W τ ∧ lq_G τ ∧ lq_H τ ∧ lq_Z τ
theorem lt_q_b {τ : lt_T} (q : lt_q τ) : lt_b τ := by
  obtain ⟨A, N, S, ⟨W1, W2, W3, W4, W5⟩, ⟨G1, G2⟩, ⟨H1, H2⟩, Z⟩ := q
  have w3 : ∀ {w}, w < τ.1 3 → lt_w τ w = τ.2.1 2 w ∧ lt_m τ w = τ.2.2 2 w := fun hw => ⟨if_pos hw, if_pos hw⟩
  have w4 : ∀ {w}, ¬ w < τ.1 3 → lt_w τ w = τ.2.1 3 (w - τ.1 3) ∧ lt_m τ w = τ.2.2 3 (w - τ.1 3) := fun hw => ⟨if_neg hw, if_neg hw⟩
  refine ⟨A, fun w hw => ?_, S, G1, G2, H1, H2, fun v w hv hw e => ?_⟩
  · have hw : w < τ.1 3 + τ.1 4 := hw
    by_cases c : w < τ.1 3
    · rw [(w3 c).1, (w3 c).2]
      exact W1 w c
    · rw [(w4 c).1, (w4 c).2]
      exact W2 _ (by omega)
  · have hv : v < τ.1 3 + τ.1 4 := hv
    have hw : w < τ.1 3 + τ.1 4 := hw
    by_cases c : v < τ.1 3
    · by_cases c2 : w < τ.1 3
      · rw [(w3 c).1, (w3 c2).1] at e
        exact W3 v w c c2 e
      · rw [(w3 c).1, (w4 c2).1] at e
        exact absurd e (W5 v _ c (by omega))
    · by_cases c2 : w < τ.1 3
      · rw [(w4 c).1, (w3 c2).1] at e
        exact absurd e.symm (W5 w _ c2 (by omega))
      · rw [(w4 c).1, (w4 c2).1] at e
        have := W4 _ _ (by omega) (by omega) e
        omega
theorem inj_add {α : Type} {n : Nat} {F F' : Nat → α} {w : α} (hi : ∀ j k, j < n → k < n → F j = F k → j = k) (hw : ∀ k, k < n → F k ≠ w) (h1 : ∀ k, k ≠ n → F' k = F k) (h2 : F' n = w) : ∀ j k, j < n + 1 → k < n + 1 → F' j = F' k → j = k := by
  intro j k hj hk e
  by_cases a : j = n
  · by_cases b : k = n
    · omega
    · rw [a, h2, h1 k b] at e
      exact absurd e.symm (hw k (by omega))
  · by_cases b : k = n
    · rw [b, h2, h1 j a] at e
      exact absurd e (hw j (by omega))
    · rw [h1 j a, h1 k b] at e
      exact hi j k (by omega) (by omega) e
theorem all_add {P : Nat → Prop} {n : Nat} (h : ∀ k, k < n → P k) (h2 : P n) : ∀ k, k < n + 1 → P k := fun k hk => by
  by_cases a : k = n
  · rw [a]; exact h2
  · exact h k (by omega)
/-- lookups -/
def thn (τ : lt_T) (w : List Nat) : Option Nat := (List.range (τ.1 1)).find? (fun k => τ.2.1 0 k == w)
def san (τ : lt_T) (w : List Nat) : Bool := (List.range (τ.1 2)).any (fun k => τ.2.1 1 k == w)
def hasn (τ : lt_T) (w : List Nat) : Bool := (thn τ w).isSome || san τ w
def haw (τ : lt_T) (w : List Nat) : Bool := (List.range (τ.1 3)).any (fun k => τ.2.1 2 k == w)
def hac (τ : lt_T) (w : List Nat) : Bool := (List.range (τ.1 4)).any (fun k => τ.2.1 3 k == w)
def hasw (τ : lt_T) (w : List Nat) : Bool := haw τ w || hac τ w
theorem any_no {n : Nat} {F : Nat → List Nat} {w : List Nat} (h : (List.range n).any (fun k => F k == w) = false) : ∀ k, k < n → F k ≠ w := fun k hk e => by
  have := List.any_eq_false.mp h k (List.mem_range.mpr hk)
  rw [e] at this
  simp at this
theorem thn_no {τ : lt_T} {w : List Nat} (h : (thn τ w).isSome = false) : ∀ k, k < τ.1 1 → τ.2.1 0 k ≠ w := fun k hk e => by
  unfold thn at h
  have h2 : (List.range (τ.1 1)).find? (fun k => τ.2.1 0 k == w) = none := by
    cases hf : (List.range (τ.1 1)).find? (fun k => τ.2.1 0 k == w) with
    | none => rfl
    | some j => rw [hf] at h; cases h
  have := List.find?_eq_none.mp h2 k (List.mem_range.mpr hk)
  rw [e] at this
  simp at this
theorem thn_b {τ : lt_T} {w : List Nat} {t : Nat} (h : thn τ w = some t) : t < τ.1 1 ∧ τ.2.1 0 t = w := by
  have := lt_fr h
  exact ⟨this.1, by simpa using this.2⟩
theorem lq_tY {τ : lt_T} (q : lt_q τ) {y : Nat} (hy : 1 ≤ y ∧ y ≤ 99) : lt_q (tY τ y) := by
  obtain ⟨A, N, S, W, G, H, Z⟩ := q
  refine ⟨⟨hy.2, A.2⟩, N, S, W, G, H, fun z => ?_⟩
  have z : y = 0 := z
  omega
theorem lq_tTh {τ : lt_T} (q : lt_q τ) (h0 : τ.1 0 ≠ 0) (h1 : τ.1 1 < 6) {w : List Nat} (hw : nw_ok w) (hn : hasn τ w = false) : lt_q (tTh τ w) := by
  obtain ⟨A, ⟨N1, N2, N3, N4, N5⟩, S, ⟨W1, W2, W3, W4, W5⟩, G, H, Z⟩ := q
  have hn1 := (Bool.or_eq_false_iff.mp hn).1
  have hn2 := (Bool.or_eq_false_iff.mp hn).2
  refine ⟨⟨A.1, h1, A.2.2⟩, ⟨?_, N2, ?_, N4, ?_⟩, fun k hk => ⟨(S k hk).1, (S k hk).2.1, fun i hi => Nat.lt_succ_of_lt ((S k hk).2.2 i hi)⟩, ⟨fun v hv => ⟨(W1 v hv).1, (W1 v hv).2.1, Nat.lt_succ_of_lt (W1 v hv).2.2⟩, fun v hv => ⟨(W2 v hv).1, (W2 v hv).2.1, Nat.lt_succ_of_lt (W2 v hv).2.2⟩, W3, W4, W5⟩, G, H, fun z => absurd z h0⟩
  · refine all_add (n := τ.1 1) (P := fun k => nw_ok (lw τ 0 (τ.1 1) w 0 k)) (fun k hk => ?_) ?_
    · rw [lw_n (by omega)]; exact N1 k hk
    · rw [lw_s]; exact hw
  · exact inj_add (n := τ.1 1) N3 (thn_no hn1) (fun k hk => lw_n hk) lw_s
  · refine all_add (n := τ.1 1) (P := fun j => ∀ k, k < τ.1 2 → lw τ 0 (τ.1 1) w 0 j ≠ τ.2.1 1 k) (fun j hj k hk => ?_) (fun k hk => ?_) |> fun z j k hj hk => z j hj k hk
    · rw [lw_n (by omega)]; exact N5 j k hj hk
    · rw [lw_s]; exact (any_no hn2 k hk).symm
theorem lq_tSa {τ : lt_T} (q : lt_q τ) (h0 : τ.1 0 ≠ 0) (h1 : τ.1 2 < 5) {w : List Nat} (hw : nw_ok w) (hn : hasn τ w = false) {ps : List Nat} (hp : 1 ≤ ps.length ∧ ps.length ≤ 4) (hpt : ∀ p ∈ ps, p < τ.1 1) : lt_q (tSa τ w ps) := by
  obtain ⟨A, ⟨N1, N2, N3, N4, N5⟩, S, W, G, H, Z⟩ := q
  have hn1 := (Bool.or_eq_false_iff.mp hn).1
  have hn2 := (Bool.or_eq_false_iff.mp hn).2
  refine ⟨⟨A.1, A.2.1, h1, A.2.2.2⟩, ⟨N1, ?_, N3, ?_, ?_⟩, ?_, W, G, H, fun z => absurd z h0⟩
  · refine all_add (n := τ.1 2) (P := fun k => nw_ok (lw τ 1 (τ.1 2) w 1 k)) (fun k hk => ?_) ?_
    · rw [lw_n (by omega)]; exact N2 k hk
    · rw [lw_s]; exact hw
  · exact inj_add (n := τ.1 2) N4 (any_no hn2) (fun k hk => lw_n hk) lw_s
  · refine fun j k hj hk => all_add (n := τ.1 2) (P := fun k => τ.2.1 0 j ≠ lw τ 1 (τ.1 2) w 1 k) (fun k hk => ?_) ?_ k hk
    · rw [lw_n (by omega)]; exact N5 j k hj hk
    · rw [lw_s]; exact thn_no hn1 j hj
  · refine all_add (n := τ.1 2) (P := fun k => 1 ≤ tSv τ ps 0 k ∧ tSv τ ps 0 k ≤ 4 ∧ ∀ i, i < tSv τ ps 0 k → tSv τ ps 1 (4 * k + i) < τ.1 1) (fun k hk => ?_) ?_
    · have e0 : tSv τ ps 0 k = τ.2.2 0 k := by
        unfold tSv
        rw [if_neg (fun z => by omega), if_neg (fun z => by omega)]
      rw [e0]
      refine ⟨(S k hk).1, (S k hk).2.1, fun i hi => ?_⟩
      have h4 := (S k hk).2.1
      have e1 : tSv τ ps 1 (4 * k + i) = τ.2.2 1 (4 * k + i) := by
        unfold tSv
        rw [if_neg (fun z => by omega), if_neg (fun z => by omega)]
      rw [e1]
      exact (S k hk).2.2 i hi
    · have e0 : tSv τ ps 0 (τ.1 2) = ps.length := if_pos ⟨rfl, rfl⟩
      rw [e0]
      refine ⟨hp.1, hp.2, fun i hi => ?_⟩
      have e1 : tSv τ ps 1 (4 * τ.1 2 + i) = ps.getD i 0 := by
        unfold tSv
        rw [if_neg (fun z => by omega), if_pos ⟨rfl, by omega, by omega⟩, show 4 * τ.1 2 + i - 4 * τ.1 2 = i by omega]
      rw [e1, List.getD_eq_getElem?_getD, List.getElem?_eq_getElem hi]
      exact hpt _ (List.getElem_mem hi)
theorem lq_tWo {τ : lt_T} (q : lt_q τ) (h0 : τ.1 0 ≠ 0) (h1 : τ.1 3 < 8) {w : List Nat} (hw : nw_ok w ∧ w ≠ []) (hn : hasw τ w = false) {t : Nat} (ht : t < τ.1 1) : lt_q (tWo τ w t) := by
  obtain ⟨A, N, S, ⟨W1, W2, W3, W4, W5⟩, G, H, Z⟩ := q
  have hn1 := (Bool.or_eq_false_iff.mp hn).1
  have hn2 := (Bool.or_eq_false_iff.mp hn).2
  refine ⟨⟨A.1, A.2.1, A.2.2.1, h1, A.2.2.2.2⟩, N, S, ⟨?_, W2, ?_, W4, ?_⟩, G, H, fun z => absurd z h0⟩
  · refine all_add (n := τ.1 3) (P := fun k => nw_ok (lw τ 2 (τ.1 3) w 2 k) ∧ lw τ 2 (τ.1 3) w 2 k ≠ [] ∧ lv τ 2 (τ.1 3) t 2 k < τ.1 1) (fun k hk => ?_) ?_
    · rw [lw_n (by omega), lv_n (by omega)]; exact W1 k hk
    · rw [lw_s, lv_s]; exact ⟨hw.1, hw.2, ht⟩
  · exact inj_add (n := τ.1 3) W3 (any_no hn1) (fun k hk => lw_n hk) lw_s
  · refine all_add (n := τ.1 3) (P := fun j => ∀ k, k < τ.1 4 → lw τ 2 (τ.1 3) w 2 j ≠ τ.2.1 3 k) (fun j hj k hk => ?_) (fun k hk => ?_) |> fun z j k hj hk => z j hj k hk
    · rw [lw_n (by omega)]; exact W5 j k hj hk
    · rw [lw_s]; exact (any_no hn2 k hk).symm
theorem lq_tCo {τ : lt_T} (q : lt_q τ) (h0 : τ.1 0 ≠ 0) (h1 : τ.1 4 < 4) {w : List Nat} (hw : nw_ok w ∧ w ≠ []) (hn : hasw τ w = false) {t : Nat} (ht : t < τ.1 1) : lt_q (tCo τ w t) := by
  obtain ⟨A, N, S, ⟨W1, W2, W3, W4, W5⟩, G, H, Z⟩ := q
  have hn1 := (Bool.or_eq_false_iff.mp hn).1
  have hn2 := (Bool.or_eq_false_iff.mp hn).2
  refine ⟨⟨A.1, A.2.1, A.2.2.1, A.2.2.2.1, h1, A.2.2.2.2.2⟩, N, S, ⟨W1, ?_, W3, ?_, ?_⟩, G, H, fun z => absurd z h0⟩
  · refine all_add (n := τ.1 4) (P := fun k => nw_ok (lw τ 3 (τ.1 4) w 3 k) ∧ lw τ 3 (τ.1 4) w 3 k ≠ [] ∧ lv τ 3 (τ.1 4) t 3 k < τ.1 1) (fun k hk => ?_) ?_
    · rw [lw_n (by omega), lv_n (by omega)]; exact W2 k hk
    · rw [lw_s, lv_s]; exact ⟨hw.1, hw.2, ht⟩
  · exact inj_add (n := τ.1 4) W4 (any_no hn2) (fun k hk => lw_n hk) lw_s
  · refine fun j k hj hk => all_add (n := τ.1 4) (P := fun k => τ.2.1 2 j ≠ lw τ 3 (τ.1 4) w 3 k) (fun k hk => ?_) ?_ k hk
    · rw [lw_n (by omega)]; exact W5 j k hj hk
    · rw [lw_s]; exact any_no hn1 j hj
theorem gf_no {τ : lt_T} {c : Nat} (h : (lt_gf τ c).isSome = false) : ∀ k, k < τ.1 5 → τ.2.2 4 k ≠ c := fun k hk e => by
  unfold lt_gf at h
  have h2 : (List.range (τ.1 5)).find? (fun k => τ.2.2 4 k == c) = none := by
    cases hf : (List.range (τ.1 5)).find? (fun k => τ.2.2 4 k == c) with
    | none => rfl
    | some j => rw [hf] at h; cases h
  have := List.find?_eq_none.mp h2 k (List.mem_range.mpr hk)
  rw [e] at this
  simp at this
theorem lq_tGo {τ : lt_T} (q : lt_q τ) (h0 : τ.1 0 ≠ 0) (h1 : τ.1 5 < 6) {c dd : Nat} (hc : c < 26) (hd : dd ≤ 99) (hn : (lt_gf τ c).isSome = false) : lt_q (tGo τ c dd) := by
  obtain ⟨A, N, S, W, ⟨G1, G2⟩, H, Z⟩ := q
  have e4n : ∀ k, k ≠ τ.1 5 → tGv τ c dd 4 k = τ.2.2 4 k := fun k hk => by
    unfold tGv
    rw [if_neg (fun z => hk z.2), if_neg (fun z => hk z.2)]
  have e5n : ∀ k, k ≠ τ.1 5 → tGv τ c dd 5 k = τ.2.2 5 k := fun k hk => by
    unfold tGv
    rw [if_neg (fun z => hk z.2), if_neg (fun z => hk z.2)]
  have e4 : tGv τ c dd 4 (τ.1 5) = c := if_pos ⟨rfl, rfl⟩
  have e5 : tGv τ c dd 5 (τ.1 5) = dd := by
    unfold tGv
    rw [if_neg (fun z => absurd z.1 (by decide)), if_pos ⟨rfl, rfl⟩]
  refine ⟨⟨A.1, A.2.1, A.2.2.1, A.2.2.2.1, A.2.2.2.2.1, h1, A.2.2.2.2.2.2⟩, N, S, W, ⟨?_, ?_⟩, H, fun z => absurd z h0⟩
  · refine all_add (n := τ.1 5) (P := fun k => tGv τ c dd 4 k < 26 ∧ tGv τ c dd 5 k ≤ 99) (fun k hk => ?_) ?_
    · rw [e4n k (by omega), e5n k (by omega)]; exact G1 k hk
    · rw [e4, e5]; exact ⟨hc, hd⟩
  · exact inj_add (n := τ.1 5) G2 (gf_no hn) e4n e4
theorem lq_tHe {τ : lt_T} (q : lt_q τ) (h0 : τ.1 0 ≠ 0) (h1 : τ.1 6 < 6) {w : List Nat} (hw : nw_ok w) {b : Nat} (hb : b ≤ 1) : lt_q (tHe τ w b) := by
  obtain ⟨A, N, S, W, G, ⟨H1, H2⟩, Z⟩ := q
  refine ⟨⟨A.1, A.2.1, A.2.2.1, A.2.2.2.1, A.2.2.2.2.1, A.2.2.2.2.2.1, h1, A.2.2.2.2.2.2.2⟩, N, S, W, G, ⟨?_, H2⟩, fun z => absurd z h0⟩
  refine all_add (n := τ.1 6) (P := fun k => nw_ok (lw τ 4 (τ.1 6) w 4 k) ∧ lv τ 6 (τ.1 6) b 6 k ≤ 1) (fun k hk => ?_) ?_
  · rw [lw_n (by omega), lv_n (by omega)]; exact H1 k hk
  · rw [lw_s, lv_s]; exact ⟨hw, hb⟩
theorem lq_tOl {τ : lt_T} (q : lt_q τ) (h0 : τ.1 0 ≠ 0) (h1 : τ.1 7 < 5) {w : List Nat} (hw : nw_ok w) : lt_q (tOl τ w) := by
  obtain ⟨A, N, S, W, G, ⟨H1, H2⟩, Z⟩ := q
  refine ⟨⟨A.1, A.2.1, A.2.2.1, A.2.2.2.1, A.2.2.2.2.1, A.2.2.2.2.2.1, A.2.2.2.2.2.2.1, h1⟩, N, S, W, G, ⟨H1, ?_⟩, fun z => absurd z h0⟩
  refine all_add (n := τ.1 7) (P := fun k => nw_ok (lw τ 5 (τ.1 7) w 5 k)) (fun k hk => ?_) ?_
  · rw [lw_n (by omega)]; exact H2 k hk
  · rw [lw_s]; exact hw
-- the lines
abbrev pR : Type := (Nat × Nat) ⊕ (Nat × lt_T)
section PL
variable (f : Nat → Int32) (n : Nat) (τ : lt_T)
def pTong (i : Nat) : pR := match rwh f n 1 99 (rnd f n 12 (.inr i)) with
  | .inl e => .inl e
  | .inr j => .inr (j, tY τ (rwv f n 1 (rnd f n 12 (.inr i)) (.inr j)))
def rfr (i : Nat) : rS := if rinm f n (.inr i) = true then (if hasn τ (tkW (pb f) n i) = true then .inl (3, tj (pb f) n i) else .inr (tkX (pb f) n i)) else .inl (1, tj (pb f) n i)
def pThg (i : Nat) : pR := match rfr f n τ i with
  | .inl e => .inl e
  | .inr j => .inr (j, tTh τ (tkW (pb f) n i))
def rkn (i : Nat) : rS := if rinm f n (.inr i) = true then (if (thn τ (tkW (pb f) n i)).isSome = true then .inr i else .inl (2, tj (pb f) n i)) else .inl (1, tj (pb f) n i)
def rkv (i : Nat) : Nat := (thn τ (tkW (pb f) n i)).getD 0
def pPar : Nat → Nat → List Nat → (Nat × Nat) ⊕ (Nat × List Nat)
  | 0, i, _ => match rkn f n τ i with
    | .inl e => .inl e
    | .inr _ => .inl (5, tj (pb f) n i)
  | k + 1, i, ps => match rkn f n τ i with
    | .inl e => .inl e
    | .inr _ => if tkK (pb f) n (tkX (pb f) n i) = 4 then pPar k (tkX (pb f) n (tkX (pb f) n i)) (ps ++ [rkv f n τ i]) else .inr (tkX (pb f) n i, ps ++ [rkv f n τ i])
def pSay (i : Nat) : pR := match rfr f n τ i with
  | .inl e => .inl e
  | .inr j => match rnd f n 9 (.inr j) with
    | .inl e => .inl e
    | .inr k => match pPar f n τ 4 k [] with
      | .inl e => .inl e
      | .inr (m, ps) => .inr (m, tSa τ (tkW (pb f) n i) ps)
def pMea (c : Bool) (i : Nat) : pR := if tkK (pb f) n i = 1 then (if hasw τ (tkW (pb f) n i) = true then .inl (3, tj (pb f) n i) else match rnd f n 10 (.inr (tkX (pb f) n i)) with
  | .inl e => .inl e
  | .inr j => match rkn f n τ j with
    | .inl e => .inl e
    | .inr _ => .inr (tkX (pb f) n j, if c = true then tCo τ (tkW (pb f) n i) (rkv f n τ j) else tWo τ (tkW (pb f) n i) (rkv f n τ j))) else .inl (1, tj (pb f) n i)
def plet (i : Nat) : Nat := (tkW (pb f) n i).headD 0
def pGon (i : Nat) : pR := if tkK (pb f) n i = 1 then (if 1 < (tkW (pb f) n i).length then .inl (4, tj (pb f) n i) else if (lt_gf τ (plet f n i)).isSome = true then .inl (3, tj (pb f) n i) else match rwh f n 0 99 (rnd f n 11 (.inr (tkX (pb f) n i))) with
  | .inl e => .inl e
  | .inr j => .inr (j, tGo τ (plet f n i) (rwv f n 0 (rnd f n 11 (.inr (tkX (pb f) n i))) (.inr j)))) else .inl (1, tj (pb f) n i)
def pHea (b i : Nat) : pR := if tkK (pb f) n i = 1 then .inr (tkX (pb f) n i, tHe τ (tkW (pb f) n i) b) else .inl (1, tj (pb f) n i)
def pOld (i : Nat) : pR := if tkK (pb f) n i = 1 then .inr (tkX (pb f) n i, tOl τ (tkW (pb f) n i)) else .inl (1, tj (pb f) n i)
def pcap (s : Nat) : Nat × Nat := if s = 1 then (1, 6) else if s = 2 then (2, 5) else if s = 3 then (3, 8) else if s = 4 then (4, 4) else if s = 5 then (5, 6) else if s = 8 then (7, 5) else (6, 6)
def pdis (s i : Nat) : pR := if s = 1 then pThg f n τ i else if s = 2 then pSay f n τ i else if s = 3 then pMea f n τ false i else if s = 4 then pMea f n τ true i else if s = 5 then pGon f n τ i else if s = 8 then pOld f n τ i else pHea f n τ (if s = 7 then 1 else 0) i
def pLin (i : Nat) : pR := if tkK (pb f) n i = 1 then (if 8 < pkey (tkW (pb f) n i) then .inl (1, tj (pb f) n i) else if pkey (tkW (pb f) n i) = 0 then (if τ.1 0 = 0 then pTong f n τ (tkX (pb f) n i) else .inl (3, tj (pb f) n i)) else if τ.1 0 = 0 then .inl (6, tj (pb f) n i) else if (pcap (pkey (tkW (pb f) n i))).2 ≤ τ.1 (pcap (pkey (tkW (pb f) n i))).1 then .inl (5, tj (pb f) n i) else pdis f n τ (pkey (tkW (pb f) n i)) (tkX (pb f) n i)) else .inl (1, tj (pb f) n i)
end PL
def pAll (f : Nat → Int32) (n : Nat) : Nat → lt_T → Nat → (Nat × Nat) ⊕ lt_T
  | 0, _, _ => .inl (0, 0)
  | k + 1, τ, i => match pLin f n τ i with
    | .inl e => .inl e
    | .inr (j, τ1) => if tkK (pb f) n j = 3 then pAll f n k τ1 (tkX (pb f) n j) else if tkK (pb f) n j = 0 then (if τ1.1 1 = 0 then .inl (6, tj (pb f) n j) else .inr τ1) else .inl (1, tj (pb f) n j)
/-- faults have numbers, places lie in the text -/
def okE (n : Nat) (e : Nat × Nat) : Prop := 1 ≤ e.1 ∧ e.1 ≤ 6 ∧ e.2 ≤ n
def okS (n i : Nat) : rS → Prop
  | .inl e => okE n e
  | .inr j => i ≤ j ∧ j ≤ n
def okR (n i : Nat) : pR → Prop
  | .inl e => okE n e
  | .inr (j, τ) => i ≤ j ∧ j ≤ n ∧ lt_q τ
section PF
variable {f : Nat → Int32} {n i : Nat} {τ : lt_T}
theorem okE_of {k : Nat} (hi : i ≤ n) (hk : 1 ≤ k ∧ k ≤ 6) : okE n (k, tj (pb f) n i) := ⟨hk.1, hk.2, (tk_j hi).2⟩
theorem ok_x (hi : i ≤ n) : i ≤ tkX (pb f) n i ∧ tkX (pb f) n i ≤ n := by
  have h1 := tk_j (B := pb f) hi
  have h2 := tk_x (B := pb f) hi
  omega
theorem ok_rnd (hi : i ≤ n) (k : Nat) : okS n i (rnd f n k (.inr i)) := by
  show okS n i (if _ then _ else _)
  split
  · exact ok_x hi
  · exact okE_of hi (by decide)
theorem ok_rwh {x : rS} (hx : okS n i x) (lo hi : Nat) : okS n i (rwh f n lo hi x) := by
  cases x with
  | inl e => exact hx
  | inr j =>
    show okS n i (if _ then _ else _)
    have := ok_x (f := f) hx.2
    split
    · split
      · exact ⟨Nat.le_trans hx.1 this.1, this.2⟩
      · exact okE_of hx.2 (by decide)
    · exact okE_of hx.2 (by decide)
theorem rwh_v {x : rS} {lo hi j : Nat} (e : rwh f n lo hi x = .inr j) : lo ≤ rwv f n lo x (.inr j) ∧ rwv f n lo x (.inr j) ≤ hi := by
  cases x with
  | inl e2 => cases e
  | inr i2 =>
    have e : (if tkK (pb f) n i2 = 2 then (if lo ≤ tkN (pb f) n i2 ∧ tkN (pb f) n i2 ≤ hi then Sum.inr (tkX (pb f) n i2) else .inl (4, tj (pb f) n i2)) else .inl (1, tj (pb f) n i2) : rS) = .inr j := e
    split at e
    · split at e
      · assumption
      · cases e
    · cases e
theorem ok_tong (q : lt_q τ) (hi : i ≤ n) : okR n i (pTong f n τ i) := by
  unfold pTong
  have h1 := ok_rwh (f := f) (ok_rnd (f := f) hi 12) 1 99
  split
  · rename_i e he
    rw [he] at h1
    exact h1
  · rename_i j he
    have hv := rwh_v he
    rw [he] at h1
    exact ⟨h1.1, h1.2, lq_tY q hv⟩
theorem rinm_1 (h : rinm f n (.inr i) = true) : tkK (pb f) n i = 1 := (of_decide_eq_true h).1
theorem rfr_sp (hi : i ≤ n) : (∃ e, rfr f n τ i = .inl e ∧ okE n e) ∨ (rfr f n τ i = .inr (tkX (pb f) n i) ∧ tkK (pb f) n i = 1 ∧ hasn τ (tkW (pb f) n i) = false) := by
  unfold rfr
  split
  · rename_i h1
    split
    · exact Or.inl ⟨_, rfl, okE_of hi (by decide)⟩
    · rename_i h2
      exact Or.inr ⟨rfl, rinm_1 h1, Bool.eq_false_iff.mpr h2⟩
  · exact Or.inl ⟨_, rfl, okE_of hi (by decide)⟩
theorem rkn_sp (hi : i ≤ n) : (∃ e, rkn f n τ i = .inl e ∧ okE n e) ∨ (rkn f n τ i = .inr i ∧ tkK (pb f) n i = 1 ∧ thn τ (tkW (pb f) n i) = some (rkv f n τ i)) := by
  unfold rkn
  split
  · rename_i h1
    split
    · rename_i h2
      refine Or.inr ⟨rfl, rinm_1 h1, ?_⟩
      unfold rkv
      cases hf : thn τ (tkW (pb f) n i) with
      | none => rw [hf] at h2; cases h2
      | some t => rfl
    · exact Or.inl ⟨_, rfl, okE_of hi (by decide)⟩
  · exact Or.inl ⟨_, rfl, okE_of hi (by decide)⟩
theorem ok_thg (q : lt_q τ) (h0 : τ.1 0 ≠ 0) (h1 : τ.1 1 < 6) (hi : i ≤ n) : okR n i (pThg f n τ i) := by
  unfold pThg
  rcases rfr_sp (f := f) (τ := τ) hi with ⟨e, he, ok⟩ | ⟨he, hk, hn⟩
  · rw [he]; exact ok
  · rw [he]
    exact ⟨(ok_x hi).1, (ok_x hi).2, lq_tTh q h0 h1 (tk_w hi hk).1 hn⟩
theorem ok_par : ∀ k i ps, i ≤ n → (∀ p ∈ ps, p < τ.1 1) → ps.length + k ≤ 4 → match pPar f n τ k i ps with
    | .inl e => okE n e
    | .inr (j, qs) => i ≤ j ∧ j ≤ n ∧ 1 ≤ qs.length ∧ qs.length ≤ 4 ∧ ∀ p ∈ qs, p < τ.1 1 := by
  intro k
  induction k with
  | zero =>
    intro i ps hi hp hl
    rw [pPar]
    rcases rkn_sp (f := f) (τ := τ) hi with ⟨e, he, ok⟩ | ⟨he, hk, hn⟩
    · rw [he]; exact ok
    · rw [he]; exact okE_of hi (by decide)
  | succ k ih =>
    intro i ps hi hp hl
    rw [pPar]
    rcases rkn_sp (f := f) (τ := τ) hi with ⟨e, he, ok⟩ | ⟨he, hk, hn⟩
    · rw [he]; exact ok
    · rw [he]
      dsimp only
      have hx := ok_x (f := f) hi
      have hx2 := ok_x (f := f) hx.2
      have hp2 : ∀ p ∈ ps ++ [rkv f n τ i], p < τ.1 1 := fun p hm => by
        rcases List.mem_append.mp hm with z | z
        · exact hp p z
        · rw [List.mem_singleton.mp z]
          exact (thn_b hn).1
      by_cases c4 : tkK (pb f) n (tkX (pb f) n i) = 4
      · rw [if_pos c4]
        have := ih (tkX (pb f) n (tkX (pb f) n i)) (ps ++ [rkv f n τ i]) hx2.2 hp2 (by rw [List.length_append]; simp; omega)
        revert this
        cases pPar f n τ k (tkX (pb f) n (tkX (pb f) n i)) (ps ++ [rkv f n τ i]) with
        | inl e => exact fun z => z
        | inr z => exact fun w => ⟨by omega, w.2⟩
      · rw [if_neg c4]
        exact ⟨hx.1, hx.2, by rw [List.length_append]; simp, by rw [List.length_append]; simp; omega, hp2⟩
theorem ok_say (q : lt_q τ) (h0 : τ.1 0 ≠ 0) (h1 : τ.1 2 < 5) (hi : i ≤ n) : okR n i (pSay f n τ i) := by
  unfold pSay
  rcases rfr_sp (f := f) (τ := τ) hi with ⟨e, he, ok⟩ | ⟨he, hk, hn⟩
  · rw [he]; exact ok
  · rw [he]
    dsimp only
    have hx := ok_x (f := f) hi
    have h2 := ok_rnd (f := f) hx.2 9
    revert h2
    cases rnd f n 9 (.inr (tkX (pb f) n i)) with
    | inl e => exact fun z => z
    | inr k =>
      intro h2
      dsimp only
      have h3 := ok_par (f := f) (τ := τ) 4 k [] h2.2 (fun p hp => nomatch hp) (by decide)
      revert h3
      cases pPar f n τ 4 k [] with
      | inl e => exact fun z => z
      | inr z =>
        intro h3
        exact ⟨by have := h2.1; omega, h3.2.1, lq_tSa q h0 h1 (tk_w hi hk).1 hn ⟨h3.2.2.1, h3.2.2.2.1⟩ h3.2.2.2.2⟩
theorem ok_mea (q : lt_q τ) (h0 : τ.1 0 ≠ 0) {c : Bool} (h1 : if c = true then τ.1 4 < 4 else τ.1 3 < 8) (hi : i ≤ n) : okR n i (pMea f n τ c i) := by
  unfold pMea
  split
  · rename_i hk
    split
    · exact okE_of hi (by decide)
    · rename_i hw
      have hx := ok_x (f := f) hi
      have h2 := ok_rnd (f := f) hx.2 10
      revert h2
      cases rnd f n 10 (.inr (tkX (pb f) n i)) with
      | inl e => exact fun z => z
      | inr j =>
        intro h2
        dsimp only
        rcases rkn_sp (f := f) (τ := τ) h2.2 with ⟨e, he, ok⟩ | ⟨he, hk2, hn⟩
        · rw [he]; exact ok
        · rw [he]
          dsimp only
          have hx2 := ok_x (f := f) h2.2
          refine ⟨by have := h2.1; omega, hx2.2, ?_⟩
          cases c with
          | true => exact lq_tCo q h0 h1 (tk_w hi hk) (Bool.eq_false_iff.mpr hw) (thn_b hn).1
          | false => exact lq_tWo q h0 h1 (tk_w hi hk) (Bool.eq_false_iff.mpr hw) (thn_b hn).1
  · exact okE_of hi (by decide)
theorem plet_b (hi : i ≤ n) (hk : tkK (pb f) n i = 1) : plet f n i < 26 := by
  have hw := tk_w hi hk
  unfold plet
  cases e : tkW (pb f) n i with
  | nil => exact absurd e hw.2
  | cons c r =>
    rw [e] at hw
    exact hw.1.2 c List.mem_cons_self
theorem ok_gon (q : lt_q τ) (h0 : τ.1 0 ≠ 0) (h1 : τ.1 5 < 6) (hi : i ≤ n) : okR n i (pGon f n τ i) := by
  unfold pGon
  split
  · rename_i hk
    split
    · exact okE_of hi (by decide)
    · split
      · exact okE_of hi (by decide)
      · rename_i hg
        have hx := ok_x (f := f) hi
        have h2 := ok_rwh (f := f) (ok_rnd (f := f) hx.2 11) 0 99
        split
        · rename_i e he
          rw [he] at h2
          exact h2
        · rename_i j he
          have hv := rwh_v he
          rw [he] at h2
          exact ⟨by have := h2.1; omega, h2.2, lq_tGo q h0 h1 (plet_b hi hk) hv.2 (Bool.eq_false_iff.mpr hg)⟩
  · exact okE_of hi (by decide)
theorem ok_hea (q : lt_q τ) (h0 : τ.1 0 ≠ 0) (h1 : τ.1 6 < 6) {b : Nat} (hb : b ≤ 1) (hi : i ≤ n) : okR n i (pHea f n τ b i) := by
  unfold pHea
  split
  · rename_i hk
    exact ⟨(ok_x hi).1, (ok_x hi).2, lq_tHe q h0 h1 (tk_w hi hk).1 hb⟩
  · exact okE_of hi (by decide)
theorem ok_old (q : lt_q τ) (h0 : τ.1 0 ≠ 0) (h1 : τ.1 7 < 5) (hi : i ≤ n) : okR n i (pOld f n τ i) := by
  unfold pOld
  split
  · rename_i hk
    exact ⟨(ok_x hi).1, (ok_x hi).2, lq_tOl q h0 h1 (tk_w hi hk).1⟩
  · exact okE_of hi (by decide)
theorem ok_dis (q : lt_q τ) (h0 : τ.1 0 ≠ 0) {s : Nat} (h1 : ¬ (pcap s).2 ≤ τ.1 (pcap s).1) (hi : i ≤ n) : okR n i (pdis f n τ s i) := by
  unfold pdis
  unfold pcap at h1
  by_cases c1 : s = 1
  · rw [if_pos c1] at h1 ⊢; exact ok_thg q h0 (Nat.lt_of_not_le h1) hi
  rw [if_neg c1] at h1 ⊢
  by_cases c2 : s = 2
  · rw [if_pos c2] at h1 ⊢; exact ok_say q h0 (Nat.lt_of_not_le h1) hi
  rw [if_neg c2] at h1 ⊢
  by_cases c3 : s = 3
  · rw [if_pos c3] at h1 ⊢; exact ok_mea q h0 (c := false) (Nat.lt_of_not_le h1) hi
  rw [if_neg c3] at h1 ⊢
  by_cases c4 : s = 4
  · rw [if_pos c4] at h1 ⊢; exact ok_mea q h0 (c := true) (Nat.lt_of_not_le h1) hi
  rw [if_neg c4] at h1 ⊢
  by_cases c5 : s = 5
  · rw [if_pos c5] at h1 ⊢; exact ok_gon q h0 (Nat.lt_of_not_le h1) hi
  rw [if_neg c5] at h1 ⊢
  by_cases c8 : s = 8
  · rw [if_pos c8] at h1 ⊢; exact ok_old q h0 (Nat.lt_of_not_le h1) hi
  rw [if_neg c8] at h1 ⊢
  exact ok_hea q h0 (Nat.lt_of_not_le h1) (by split <;> omega) hi
theorem okR_up {j : Nat} {x : pR} (h : okR n j x) (hj : i ≤ j) : okR n i x := by
  cases x with
  | inl e => exact h
  | inr z => exact ⟨Nat.le_trans hj h.1, h.2⟩
theorem ok_lin (q : lt_q τ) (hi : i ≤ n) : okR n (i + 1) (pLin f n τ i) := by
  unfold pLin
  split
  · rename_i hk
    have hx := tk_x (B := pb f) hi
    have hj := tk_j (B := pb f) hi
    have hlt := hx.2.2 (by omega)
    split
    · exact okE_of hi (by decide)
    · split
      · split
        · exact okR_up (ok_tong q hx.2.1) (by omega)
        · exact okE_of hi (by decide)
      · split
        · exact okE_of hi (by decide)
        · rename_i h0
          split
          · exact okE_of hi (by decide)
          · rename_i h1
            exact okR_up (ok_dis q h0 h1 hx.2.1) (by omega)
  · exact okE_of hi (by decide)
/-- the whole text: enough lines -/
theorem ok_all : ∀ k τ i, lt_q τ → i ≤ n → n < i + 2 * k → match pAll f n k τ i with
    | .inl e => okE n e
    | .inr τ' => lt_q τ' ∧ 1 ≤ τ'.1 1 ∧ 1 ≤ τ'.1 0 := by
  intro k
  induction k with
  | zero => intro τ i q hi hk; omega
  | succ k ih =>
    intro τ i q hi hk
    rw [pAll]
    have h1 := ok_lin (f := f) q hi
    revert h1
    cases pLin f n τ i with
    | inl e => exact fun z => z
    | inr z =>
      obtain ⟨j, τ1⟩ := z
      intro h1
      dsimp only
      obtain ⟨h2, h3, h4⟩ := h1
      by_cases h5 : tkK (pb f) n j = 3
      · rw [if_pos h5]
        have hx := tk_x (B := pb f) h3
        have hj := tk_j (B := pb f) h3
        have := hx.2.2 (by omega)
        exact ih τ1 (tkX (pb f) n j) h4 hx.2.1 (by omega)
      · rw [if_neg h5]
        by_cases h7 : tkK (pb f) n j = 0
        · rw [if_pos h7]
          by_cases h6 : τ1.1 1 = 0
          · rw [if_pos h6]
            exact okE_of h3 (by decide)
          · rw [if_neg h6]
            refine ⟨h4, by omega, Nat.pos_of_ne_zero (fun z => h6 ?_)⟩
            exact h4.2.2.2.2.2.2 z 1 (by decide) (by decide)
        · rw [if_neg h7]
          exact okE_of h3 (by decide)
end PF
