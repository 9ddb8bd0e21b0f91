-- RULES OF THE WEAKEST START
theorem am_x_fuel (xs : Nat → Int32) (L : Nat) : ∀ (n d y : Nat) (is : List am_I) (lo : am_L) (st : List Value) (h : am_H) (r : am_I × List Value × am_H), am_x xs L n d y is lo st h = some r → am_x xs L (n + 1) d y is lo st h = some r := by
  intro n
  induction n with
  | zero => intro d y is lo st h r hr; cases hr
  | succ n ih =>
    intro d y is lo st h r hr
    cases is with
    | nil => cases hr
    | cons i is =>
      unfold am_x at hr ⊢
      split at hr
      · rename_i h0
        rw [if_pos h0]
        split at hr
        · cases hr
        · split at hr
          · rename_i h1
            try dsimp only
            rw [if_pos h1]
            split at hr
            · cases hr
            · rename_i e1
              rw [ih _ _ _ _ _ _ _ e1]
              try dsimp only
              split at hr
              · cases hr
              · rename_i e2
                try rw [e2]
                try dsimp only
                split at hr
                · rename_i h2
                  rw [if_pos h2]
                  exact ih _ _ _ _ _ _ _ hr
                · cases hr
          · cases hr
      · rename_i h0
        rw [if_neg h0]
        split at hr
        · rename_i h1
          rw [if_pos h1]
          split at hr
          · cases hr
          · cases hr
          · try dsimp only
            split at hr
            · try dsimp only
              split at hr
              · rename_i e1 e2
                try rw [e1, e2]
                try dsimp only
                split at hr
                · rename_i h2
                  rw [if_pos h2]
                  split at hr
                  · cases hr
                  · rename_i e3
                    rw [ih _ _ _ _ _ _ _ e3]
                    try dsimp only
                    split at hr
                    · rename_i e4
                      try rw [e4]
                      try dsimp only
                      split at hr
                      · rename_i h3
                        rw [if_pos h3]
                        exact ih _ _ _ _ _ _ _ hr
                      · rename_i h3
                        rw [if_neg h3]
                        split at hr
                        · rename_i e5
                          try rw [e5]
                          try dsimp only
                          split at hr
                          · rename_i h4
                            rw [if_pos h4]
                            exact ih _ _ _ _ _ _ _ hr
                          · cases hr
                        · cases hr
                    · cases hr
                · cases hr
              · cases hr
            · cases hr
        · rename_i h1
          rw [if_neg h1]
          split at hr
          · rename_i h2
            rw [if_pos h2]
            exact hr
          · rename_i h2
            rw [if_neg h2]
            split at hr
            · cases hr
            · rename_i e1
              try rw [e1]
              exact ih _ _ _ _ _ _ _ hr
            · rename_i e1
              try rw [e1]
              exact ih _ _ _ _ _ _ _ hr
theorem am_x_fuel' (xs : Nat → Int32) (L : Nat) {n d y : Nat} {is : List am_I} {lo : am_L} {st : List Value} {h : am_H} {r : am_I × List Value × am_H} (hr : am_x xs L n d y is lo st h = some r) : ∀ k, am_x xs L (n + k) d y is lo st h = some r := by
  intro k
  induction k with
  | zero => exact hr
  | succ k ih => exact am_x_fuel xs L _ _ _ _ _ _ _ _ ih
section WPR
variable {xs : Nat → Int32} {L d y : Nat} {is : List am_I} {l l' : am_L} {st st' : List Value} {h h' : am_H} {Q : am_I → List Value → am_H → Prop} {ln a b : Nat} {cc : Int}
def am_pl (op : Nat) : Bool := !(op == 60) && !(op == 62) && !(op == 63) && !(op == 73) && !(decide (64 ≤ op) && decide (op ≤ 67)) && !(op == 72)
theorem am_x_s {n : Nat} {i : am_I} (hp : am_pl i.1 = true) : am_x xs L (n + 1) d y (i :: is) l st h = (match am_s xs L d i l st h with
      | none => none
      | some (none, l', st', h') => am_x xs L n d y is l' st' h'
      | some (some t, l', st', h') => am_x xs L n d y (am_j y t) l' st' h') := by
  simp only [am_pl, Bool.and_eq_true, Bool.not_eq_true', beq_eq_false_iff_ne, ne_eq, Bool.and_eq_false_iff, decide_eq_false_iff_not] at hp
  obtain ⟨⟨⟨⟨⟨a1, a2⟩, a3⟩, a4⟩, a5⟩, a6⟩ := hp
  rw [am_x.eq_def]
  dsimp only
  rw [if_neg (by omega), if_neg a4, if_neg (by omega)]
  rfl
theorem wp_s {i : am_I} (hp : am_pl i.1 = true) (hs : am_s xs L d i l st h = some (none, l', st', h')) (k : am_w xs L d y is l' st' h' Q) : am_w xs L d y (i :: is) l st h Q := by
  obtain ⟨n, i', rs, h2, hx, hq⟩ := k
  exact ⟨n + 1, i', rs, h2, by rw [am_x_s hp, hs]; exact hx, hq⟩
theorem wp_j {i : am_I} {t : Nat} (hp : am_pl i.1 = true) (hs : am_s xs L d i l st h = some (some t, l', st', h')) (k : am_w xs L d y (am_j y t) l' st' h' Q) : am_w xs L d y (i :: is) l st h Q := by
  obtain ⟨n, i', rs, h2, hx, hq⟩ := k
  exact ⟨n + 1, i', rs, h2, by rw [am_x_s hp, hs]; exact hx, hq⟩
/-- a method's end -/
theorem wp_end {i : am_I} (hp : (64 ≤ i.1 ∧ i.1 ≤ 67) ∨ i.1 = 72) (k : Q i st h) : am_w xs L d y (i :: is) l st h Q := by
  refine ⟨1, i, st, h, ?_, k⟩
  rw [am_x.eq_def]
  dsimp only
  rw [if_neg (by omega), if_neg (by omega), if_pos hp]
theorem wp_mono {Q' : am_I → List Value → am_H → Prop} (k : am_w xs L d y is l st h Q) (hq : ∀ i rs h', Q i rs h' → Q' i rs h') : am_w xs L d y is l st h Q' := by
  obtain ⟨n, i', rs, h2, hx, hq2⟩ := k
  exact ⟨n, i', rs, h2, hx, hq _ _ _ hq2⟩
/-- a call: the callee's own start, what is behind it as its end -/
theorem wp_call {i : am_I} (hop : i.1 = 60 ∨ i.1 = 62 ∨ i.1 = 63) {av rest : List Value} (hst : st = av.reverse ++ rest) (hna : av.length = i.2.2.2.1) (hnb : i.2.2.2.1 = am_na i.2.2.1) (hmay : am_may i.1 i.2.2.1 av h = true) (hcat : am_cats rest ≤ 8) (har : (am_args av).length ≤ am_ml i.2.2.1)
    (k : am_w xs L d i.2.2.1 (am_j i.2.2.1 0) (am_ent (am_ml i.2.2.1) av) [] h (fun r rs h' => ∃ v, am_rv r rs = some v ∧ am_rok i.2.2.1 v = true ∧ am_w xs L (d + 1) y is l (v.toList ++ rest) h' Q)) : am_w xs L (d + 1) y (i :: is) l st h Q := by
  obtain ⟨n, r, rs, h2, hx, v, hv, hrk, n2, i2, rs2, h3, hx2, hq⟩ := k
  have e1 : st.take i.2.2.2.1 = av.reverse := by rw [hst, List.take_append_of_le_length (by rw [List.length_reverse, hna]; exact Nat.le_refl _), List.take_of_length_le (by rw [List.length_reverse, hna]; exact Nat.le_refl _)]
  have e2 : st.drop i.2.2.2.1 = rest := by rw [hst, List.drop_append_of_le_length (by rw [List.length_reverse, hna]; exact Nat.le_refl _), List.drop_of_length_le (by rw [List.length_reverse, hna]; exact Nat.le_refl _), List.nil_append]
  refine ⟨n + n2 + 1, i2, rs2, h3, ?_, hq⟩
  rw [am_x.eq_def]
  dsimp only
  rw [if_pos hop, e1, e2, List.reverse_reverse, if_pos ⟨by rw [hst]; simp; omega, hnb, hmay, hcat, har⟩, am_x_fuel' xs L hx n2]
  dsimp only
  rw [hv]
  dsimp only
  rw [if_pos hrk, Nat.add_comm n n2]
  exact am_x_fuel' xs L hx2 n
end WPR
