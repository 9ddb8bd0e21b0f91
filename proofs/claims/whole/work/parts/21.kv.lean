-- NUMBERS OF EACH METHOD, AND A RULE FOR ITS CALL (printed by wip/gen/blocks.py)
def am_mi (xs : Nat → Int32) (L d y : Nat) (av : List Value) (h : am_H) (P : Int32 → am_H → Prop) : Prop := am_m xs L d y av h (fun v h' => ∃ z, v = some (.int z) ∧ P z h')
def am_mb (xs : Nat → Int32) (L d y : Nat) (av : List Value) (h : am_H) (P : Bool → am_H → Prop) : Prop := am_m xs L d y av h (fun v h' => ∃ z : Bool, v = some (.int (if z = true then 1 else 0)) ∧ P z h')
def am_mj (xs : Nat → Int32) (L d y : Nat) (av : List Value) (h : am_H) (P : Int64 → am_H → Prop) : Prop := am_m xs L d y av h (fun v h' => ∃ z, v = some (.long z) ∧ P z h')
def am_mv (xs : Nat → Int32) (L d y : Nat) (av : List Value) (h : am_H) (P : am_H → Prop) : Prop := am_m xs L d y av h (fun v h' => v = none ∧ P h')
def am_ma (xs : Nat → Int32) (L d y : Nat) (av : List Value) (h : am_H) (P : Nat → am_H → Prop) : Prop := am_m xs L d y av h (fun v h' => ∃ z, v = some (.ref z) ∧ P z h')
section KV
variable {xs : Nat → Int32} {L d y : Nat} {is : List am_I} {l : am_L} {st : List Value} {h : am_H} {Q : am_I → List Value → am_H → Prop} {cc : Int}
theorem kn_1 : am_ml 1 = 1 ∧ am_na 1 = 1 ∧ am_rc 1 = 6 ∧ am_rt 1 = none := by decide +kernel
theorem kv_1 {q : Nat} {P : am_H → Prop} (hm : am_mv xs L d 1 [.ref q] h P) (hc : am_cats st ≤ 8) (k : ∀ h', P h' → am_w xs L (d + 1) y is l st h' Q) : am_w xs L (d + 1) y ((63, 3, 1, 1, cc) :: is) l (.ref q :: st) h Q :=
  wp_inv [.ref q] st hm (Or.inr (Or.inr rfl)) rfl ⟨rfl, (kn_1).2.1.symm⟩ (by unfold am_may; rw [if_neg (by decide)]; show (if (63 : Nat) = 62 then _ else (am_rc 1 != 99)) = true; rw [if_neg (by decide), (kn_1).2.2.1]; rfl) hc (by rw [(kn_1).1]; exact Nat.le_of_ble_eq_true rfl) (fun v h' hv => by
    obtain ⟨rfl, hp⟩ := hv
    exact ⟨by unfold am_rok; rw [(kn_1).2.2.2], k h' hp⟩)
theorem kn_2 : am_ml 2 = 6 ∧ am_na 2 = 6 ∧ am_rc 2 = 6 ∧ am_rt 2 = some .int := by decide +kernel
theorem kv_2 {q : Nat} {x0 : Int32} {x1 : Int32} {x2 : Int32} {x3 : Int32} {x4 : Int32} {fs : List Value} (hr : h.2.2 q = some (.inr (6, fs))) {P : Int32 → am_H → Prop} (hm : am_mi xs L d 2 [.ref q, .int x0, .int x1, .int x2, .int x3, .int x4] h P) (hc : am_cats st ≤ 8) (k : ∀ z h', P z h' → am_w xs L (d + 1) y is l (.int z :: st) h' Q) : am_w xs L (d + 1) y ((62, 3, 2, 6, cc) :: is) l (.int x4 :: .int x3 :: .int x2 :: .int x1 :: .int x0 :: .ref q :: st) h Q :=
  wp_inv [.ref q, .int x0, .int x1, .int x2, .int x3, .int x4] st hm (Or.inr (Or.inl rfl)) rfl ⟨rfl, (kn_2).2.1.symm⟩ (by unfold am_may; rw [if_neg (by decide)]; show (if (62 : Nat) = 62 then (match h.2.2 q with | some (.inr (ci, _)) => ci == am_rc 2 | _ => false) else _) = true; rw [if_pos rfl, hr, (kn_2).2.2.1]; rfl) hc (by rw [(kn_2).1]; exact Nat.le_of_ble_eq_true rfl) (fun v h' hv => by
    obtain ⟨z, rfl, hp⟩ := hv
    exact ⟨by unfold am_rok; rw [(kn_2).2.2.2], k z h' hp⟩)
theorem kn_3 : am_ml 3 = 3 ∧ am_na 3 = 2 ∧ am_rc 3 = 6 ∧ am_rt 3 = none := by decide +kernel
theorem kv_3 {q : Nat} {x0 : Int32} {fs : List Value} (hr : h.2.2 q = some (.inr (6, fs))) {P : am_H → Prop} (hm : am_mv xs L d 3 [.ref q, .int x0] h P) (hc : am_cats st ≤ 8) (k : ∀ h', P h' → am_w xs L (d + 1) y is l st h' Q) : am_w xs L (d + 1) y ((62, 3, 3, 2, cc) :: is) l (.int x0 :: .ref q :: st) h Q :=
  wp_inv [.ref q, .int x0] st hm (Or.inr (Or.inl rfl)) rfl ⟨rfl, (kn_3).2.1.symm⟩ (by unfold am_may; rw [if_neg (by decide)]; show (if (62 : Nat) = 62 then (match h.2.2 q with | some (.inr (ci, _)) => ci == am_rc 3 | _ => false) else _) = true; rw [if_pos rfl, hr, (kn_3).2.2.1]; rfl) hc (by rw [(kn_3).1]; exact Nat.le_of_ble_eq_true rfl) (fun v h' hv => by
    obtain ⟨rfl, hp⟩ := hv
    exact ⟨by unfold am_rok; rw [(kn_3).2.2.2], k h' hp⟩)
theorem kn_4 : am_ml 4 = 2 ∧ am_na 4 = 2 ∧ am_rc 4 = 6 ∧ am_rt 4 = some .int := by decide +kernel
theorem kv_4 {q : Nat} {x0 : Int32} {fs : List Value} (hr : h.2.2 q = some (.inr (6, fs))) {P : Int32 → am_H → Prop} (hm : am_mi xs L d 4 [.ref q, .int x0] h P) (hc : am_cats st ≤ 8) (k : ∀ z h', P z h' → am_w xs L (d + 1) y is l (.int z :: st) h' Q) : am_w xs L (d + 1) y ((62, 3, 4, 2, cc) :: is) l (.int x0 :: .ref q :: st) h Q :=
  wp_inv [.ref q, .int x0] st hm (Or.inr (Or.inl rfl)) rfl ⟨rfl, (kn_4).2.1.symm⟩ (by unfold am_may; rw [if_neg (by decide)]; show (if (62 : Nat) = 62 then (match h.2.2 q with | some (.inr (ci, _)) => ci == am_rc 4 | _ => false) else _) = true; rw [if_pos rfl, hr, (kn_4).2.2.1]; rfl) hc (by rw [(kn_4).1]; exact Nat.le_of_ble_eq_true rfl) (fun v h' hv => by
    obtain ⟨z, rfl, hp⟩ := hv
    exact ⟨by unfold am_rok; rw [(kn_4).2.2.2], k z h' hp⟩)
theorem kn_5 : am_ml 5 = 2 ∧ am_na 5 = 2 ∧ am_rc 5 = 6 ∧ am_rt 5 = some .boolean := by decide +kernel
theorem kv_5 {q : Nat} {x0 : Int32} {fs : List Value} (hr : h.2.2 q = some (.inr (6, fs))) {P : Bool → am_H → Prop} (hm : am_mb xs L d 5 [.ref q, .int x0] h P) (hc : am_cats st ≤ 8) (k : ∀ (z : Bool) h', P z h' → am_w xs L (d + 1) y is l (.int (if z = true then 1 else 0) :: st) h' Q) : am_w xs L (d + 1) y ((62, 3, 5, 2, cc) :: is) l (.int x0 :: .ref q :: st) h Q :=
  wp_inv [.ref q, .int x0] st hm (Or.inr (Or.inl rfl)) rfl ⟨rfl, (kn_5).2.1.symm⟩ (by unfold am_may; rw [if_neg (by decide)]; show (if (62 : Nat) = 62 then (match h.2.2 q with | some (.inr (ci, _)) => ci == am_rc 5 | _ => false) else _) = true; rw [if_pos rfl, hr, (kn_5).2.2.1]; rfl) hc (by rw [(kn_5).1]; exact Nat.le_of_ble_eq_true rfl) (fun v h' hv => by
    obtain ⟨z, rfl, hp⟩ := hv
    exact ⟨by unfold am_rok; rw [(kn_5).2.2.2]; cases z <;> rfl, k z h' hp⟩)
theorem kn_6 : am_ml 6 = 1 ∧ am_na 6 = 1 ∧ am_rc 6 = 99 ∧ am_rt 6 = some .boolean := by decide +kernel
theorem kv_6 {x0 : Int32} {P : Bool → am_H → Prop} (hm : am_mb xs L d 6 [.int x0] h P) (hc : am_cats st ≤ 8) (k : ∀ (z : Bool) h', P z h' → am_w xs L (d + 1) y is l (.int (if z = true then 1 else 0) :: st) h' Q) : am_w xs L (d + 1) y ((60, 3, 6, 1, cc) :: is) l (.int x0 :: st) h Q :=
  wp_inv [.int x0] st hm (Or.inl rfl) rfl ⟨rfl, (kn_6).2.1.symm⟩ (by unfold am_may; rw [if_pos rfl, (kn_6).2.2.1]; rfl) hc (by rw [(kn_6).1]; exact Nat.le_of_ble_eq_true rfl) (fun v h' hv => by
    obtain ⟨z, rfl, hp⟩ := hv
    exact ⟨by unfold am_rok; rw [(kn_6).2.2.2]; cases z <;> rfl, k z h' hp⟩)
theorem kn_7 : am_ml 7 = 2 ∧ am_na 7 = 2 ∧ am_rc 7 = 99 ∧ am_rt 7 = some .boolean := by decide +kernel
theorem kv_7 {x0 : Int32} {x1 : Int32} {P : Bool → am_H → Prop} (hm : am_mb xs L d 7 [.int x0, .int x1] h P) (hc : am_cats st ≤ 8) (k : ∀ (z : Bool) h', P z h' → am_w xs L (d + 1) y is l (.int (if z = true then 1 else 0) :: st) h' Q) : am_w xs L (d + 1) y ((60, 3, 7, 2, cc) :: is) l (.int x1 :: .int x0 :: st) h Q :=
  wp_inv [.int x0, .int x1] st hm (Or.inl rfl) rfl ⟨rfl, (kn_7).2.1.symm⟩ (by unfold am_may; rw [if_pos rfl, (kn_7).2.2.1]; rfl) hc (by rw [(kn_7).1]; exact Nat.le_of_ble_eq_true rfl) (fun v h' hv => by
    obtain ⟨z, rfl, hp⟩ := hv
    exact ⟨by unfold am_rok; rw [(kn_7).2.2.2]; cases z <;> rfl, k z h' hp⟩)
theorem kn_8 : am_ml 8 = 1 ∧ am_na 8 = 1 ∧ am_rc 8 = 6 ∧ am_rt 8 = some .int := by decide +kernel
theorem kv_8 {q : Nat} {fs : List Value} (hr : h.2.2 q = some (.inr (6, fs))) {P : Int32 → am_H → Prop} (hm : am_mi xs L d 8 [.ref q] h P) (hc : am_cats st ≤ 8) (k : ∀ z h', P z h' → am_w xs L (d + 1) y is l (.int z :: st) h' Q) : am_w xs L (d + 1) y ((62, 3, 8, 1, cc) :: is) l (.ref q :: st) h Q :=
  wp_inv [.ref q] st hm (Or.inr (Or.inl rfl)) rfl ⟨rfl, (kn_8).2.1.symm⟩ (by unfold am_may; rw [if_neg (by decide)]; show (if (62 : Nat) = 62 then (match h.2.2 q with | some (.inr (ci, _)) => ci == am_rc 8 | _ => false) else _) = true; rw [if_pos rfl, hr, (kn_8).2.2.1]; rfl) hc (by rw [(kn_8).1]; exact Nat.le_of_ble_eq_true rfl) (fun v h' hv => by
    obtain ⟨z, rfl, hp⟩ := hv
    exact ⟨by unfold am_rok; rw [(kn_8).2.2.2], k z h' hp⟩)
theorem kn_9 : am_ml 9 = 1 ∧ am_na 9 = 1 ∧ am_rc 9 = 6 ∧ am_rt 9 = some .int := by decide +kernel
theorem kv_9 {q : Nat} {fs : List Value} (hr : h.2.2 q = some (.inr (6, fs))) {P : Int32 → am_H → Prop} (hm : am_mi xs L d 9 [.ref q] h P) (hc : am_cats st ≤ 8) (k : ∀ z h', P z h' → am_w xs L (d + 1) y is l (.int z :: st) h' Q) : am_w xs L (d + 1) y ((62, 3, 9, 1, cc) :: is) l (.ref q :: st) h Q :=
  wp_inv [.ref q] st hm (Or.inr (Or.inl rfl)) rfl ⟨rfl, (kn_9).2.1.symm⟩ (by unfold am_may; rw [if_neg (by decide)]; show (if (62 : Nat) = 62 then (match h.2.2 q with | some (.inr (ci, _)) => ci == am_rc 9 | _ => false) else _) = true; rw [if_pos rfl, hr, (kn_9).2.2.1]; rfl) hc (by rw [(kn_9).1]; exact Nat.le_of_ble_eq_true rfl) (fun v h' hv => by
    obtain ⟨z, rfl, hp⟩ := hv
    exact ⟨by unfold am_rok; rw [(kn_9).2.2.2], k z h' hp⟩)
theorem kn_10 : am_ml 10 = 1 ∧ am_na 10 = 1 ∧ am_rc 10 = 6 ∧ am_rt 10 = some .int := by decide +kernel
theorem kv_10 {q : Nat} {fs : List Value} (hr : h.2.2 q = some (.inr (6, fs))) {P : Int32 → am_H → Prop} (hm : am_mi xs L d 10 [.ref q] h P) (hc : am_cats st ≤ 8) (k : ∀ z h', P z h' → am_w xs L (d + 1) y is l (.int z :: st) h' Q) : am_w xs L (d + 1) y ((62, 3, 10, 1, cc) :: is) l (.ref q :: st) h Q :=
  wp_inv [.ref q] st hm (Or.inr (Or.inl rfl)) rfl ⟨rfl, (kn_10).2.1.symm⟩ (by unfold am_may; rw [if_neg (by decide)]; show (if (62 : Nat) = 62 then (match h.2.2 q with | some (.inr (ci, _)) => ci == am_rc 10 | _ => false) else _) = true; rw [if_pos rfl, hr, (kn_10).2.2.1]; rfl) hc (by rw [(kn_10).1]; exact Nat.le_of_ble_eq_true rfl) (fun v h' hv => by
    obtain ⟨z, rfl, hp⟩ := hv
    exact ⟨by unfold am_rok; rw [(kn_10).2.2.2], k z h' hp⟩)
theorem kn_11 : am_ml 11 = 1 ∧ am_na 11 = 1 ∧ am_rc 11 = 6 ∧ am_rt 11 = some .int := by decide +kernel
theorem kv_11 {q : Nat} {fs : List Value} (hr : h.2.2 q = some (.inr (6, fs))) {P : Int32 → am_H → Prop} (hm : am_mi xs L d 11 [.ref q] h P) (hc : am_cats st ≤ 8) (k : ∀ z h', P z h' → am_w xs L (d + 1) y is l (.int z :: st) h' Q) : am_w xs L (d + 1) y ((62, 3, 11, 1, cc) :: is) l (.ref q :: st) h Q :=
  wp_inv [.ref q] st hm (Or.inr (Or.inl rfl)) rfl ⟨rfl, (kn_11).2.1.symm⟩ (by unfold am_may; rw [if_neg (by decide)]; show (if (62 : Nat) = 62 then (match h.2.2 q with | some (.inr (ci, _)) => ci == am_rc 11 | _ => false) else _) = true; rw [if_pos rfl, hr, (kn_11).2.2.1]; rfl) hc (by rw [(kn_11).1]; exact Nat.le_of_ble_eq_true rfl) (fun v h' hv => by
    obtain ⟨z, rfl, hp⟩ := hv
    exact ⟨by unfold am_rok; rw [(kn_11).2.2.2], k z h' hp⟩)
theorem kn_12 : am_ml 12 = 3 ∧ am_na 12 = 3 ∧ am_rc 12 = 6 ∧ am_rt 12 = some .int := by decide +kernel
theorem kv_12 {q : Nat} {x0 : Int32} {x1 : Int32} {fs : List Value} (hr : h.2.2 q = some (.inr (6, fs))) {P : Int32 → am_H → Prop} (hm : am_mi xs L d 12 [.ref q, .int x0, .int x1] h P) (hc : am_cats st ≤ 8) (k : ∀ z h', P z h' → am_w xs L (d + 1) y is l (.int z :: st) h' Q) : am_w xs L (d + 1) y ((62, 3, 12, 3, cc) :: is) l (.int x1 :: .int x0 :: .ref q :: st) h Q :=
  wp_inv [.ref q, .int x0, .int x1] st hm (Or.inr (Or.inl rfl)) rfl ⟨rfl, (kn_12).2.1.symm⟩ (by unfold am_may; rw [if_neg (by decide)]; show (if (62 : Nat) = 62 then (match h.2.2 q with | some (.inr (ci, _)) => ci == am_rc 12 | _ => false) else _) = true; rw [if_pos rfl, hr, (kn_12).2.2.1]; rfl) hc (by rw [(kn_12).1]; exact Nat.le_of_ble_eq_true rfl) (fun v h' hv => by
    obtain ⟨z, rfl, hp⟩ := hv
    exact ⟨by unfold am_rok; rw [(kn_12).2.2.2], k z h' hp⟩)
theorem kn_13 : am_ml 13 = 2 ∧ am_na 13 = 2 ∧ am_rc 13 = 6 ∧ am_rt 13 = some .boolean := by decide +kernel
theorem kv_13 {q : Nat} {x0 : Int32} {fs : List Value} (hr : h.2.2 q = some (.inr (6, fs))) {P : Bool → am_H → Prop} (hm : am_mb xs L d 13 [.ref q, .int x0] h P) (hc : am_cats st ≤ 8) (k : ∀ (z : Bool) h', P z h' → am_w xs L (d + 1) y is l (.int (if z = true then 1 else 0) :: st) h' Q) : am_w xs L (d + 1) y ((62, 3, 13, 2, cc) :: is) l (.int x0 :: .ref q :: st) h Q :=
  wp_inv [.ref q, .int x0] st hm (Or.inr (Or.inl rfl)) rfl ⟨rfl, (kn_13).2.1.symm⟩ (by unfold am_may; rw [if_neg (by decide)]; show (if (62 : Nat) = 62 then (match h.2.2 q with | some (.inr (ci, _)) => ci == am_rc 13 | _ => false) else _) = true; rw [if_pos rfl, hr, (kn_13).2.2.1]; rfl) hc (by rw [(kn_13).1]; exact Nat.le_of_ble_eq_true rfl) (fun v h' hv => by
    obtain ⟨z, rfl, hp⟩ := hv
    exact ⟨by unfold am_rok; rw [(kn_13).2.2.2]; cases z <;> rfl, k z h' hp⟩)
theorem kn_14 : am_ml 14 = 2 ∧ am_na 14 = 2 ∧ am_rc 14 = 6 ∧ am_rt 14 = some .boolean := by decide +kernel
theorem kv_14 {q : Nat} {x0 : Int32} {fs : List Value} (hr : h.2.2 q = some (.inr (6, fs))) {P : Bool → am_H → Prop} (hm : am_mb xs L d 14 [.ref q, .int x0] h P) (hc : am_cats st ≤ 8) (k : ∀ (z : Bool) h', P z h' → am_w xs L (d + 1) y is l (.int (if z = true then 1 else 0) :: st) h' Q) : am_w xs L (d + 1) y ((62, 3, 14, 2, cc) :: is) l (.int x0 :: .ref q :: st) h Q :=
  wp_inv [.ref q, .int x0] st hm (Or.inr (Or.inl rfl)) rfl ⟨rfl, (kn_14).2.1.symm⟩ (by unfold am_may; rw [if_neg (by decide)]; show (if (62 : Nat) = 62 then (match h.2.2 q with | some (.inr (ci, _)) => ci == am_rc 14 | _ => false) else _) = true; rw [if_pos rfl, hr, (kn_14).2.2.1]; rfl) hc (by rw [(kn_14).1]; exact Nat.le_of_ble_eq_true rfl) (fun v h' hv => by
    obtain ⟨z, rfl, hp⟩ := hv
    exact ⟨by unfold am_rok; rw [(kn_14).2.2.2]; cases z <;> rfl, k z h' hp⟩)
theorem kn_15 : am_ml 15 = 1 ∧ am_na 15 = 1 ∧ am_rc 15 = 6 ∧ am_rt 15 = some .int := by decide +kernel
theorem kv_15 {q : Nat} {fs : List Value} (hr : h.2.2 q = some (.inr (6, fs))) {P : Int32 → am_H → Prop} (hm : am_mi xs L d 15 [.ref q] h P) (hc : am_cats st ≤ 8) (k : ∀ z h', P z h' → am_w xs L (d + 1) y is l (.int z :: st) h' Q) : am_w xs L (d + 1) y ((62, 3, 15, 1, cc) :: is) l (.ref q :: st) h Q :=
  wp_inv [.ref q] st hm (Or.inr (Or.inl rfl)) rfl ⟨rfl, (kn_15).2.1.symm⟩ (by unfold am_may; rw [if_neg (by decide)]; show (if (62 : Nat) = 62 then (match h.2.2 q with | some (.inr (ci, _)) => ci == am_rc 15 | _ => false) else _) = true; rw [if_pos rfl, hr, (kn_15).2.2.1]; rfl) hc (by rw [(kn_15).1]; exact Nat.le_of_ble_eq_true rfl) (fun v h' hv => by
    obtain ⟨z, rfl, hp⟩ := hv
    exact ⟨by unfold am_rok; rw [(kn_15).2.2.2], k z h' hp⟩)
theorem kn_16 : am_ml 16 = 5 ∧ am_na 16 = 3 ∧ am_rc 16 = 6 ∧ am_rt 16 = some .int := by decide +kernel
theorem kv_16 {q : Nat} {x0 : Int32} {x1 : Int32} {fs : List Value} (hr : h.2.2 q = some (.inr (6, fs))) {P : Int32 → am_H → Prop} (hm : am_mi xs L d 16 [.ref q, .int x0, .int x1] h P) (hc : am_cats st ≤ 8) (k : ∀ z h', P z h' → am_w xs L (d + 1) y is l (.int z :: st) h' Q) : am_w xs L (d + 1) y ((62, 3, 16, 3, cc) :: is) l (.int x1 :: .int x0 :: .ref q :: st) h Q :=
  wp_inv [.ref q, .int x0, .int x1] st hm (Or.inr (Or.inl rfl)) rfl ⟨rfl, (kn_16).2.1.symm⟩ (by unfold am_may; rw [if_neg (by decide)]; show (if (62 : Nat) = 62 then (match h.2.2 q with | some (.inr (ci, _)) => ci == am_rc 16 | _ => false) else _) = true; rw [if_pos rfl, hr, (kn_16).2.2.1]; rfl) hc (by rw [(kn_16).1]; exact Nat.le_of_ble_eq_true rfl) (fun v h' hv => by
    obtain ⟨z, rfl, hp⟩ := hv
    exact ⟨by unfold am_rok; rw [(kn_16).2.2.2], k z h' hp⟩)
theorem kn_17 : am_ml 17 = 2 ∧ am_na 17 = 2 ∧ am_rc 17 = 6 ∧ am_rt 17 = some .boolean := by decide +kernel
theorem kv_17 {q : Nat} {x0 : Int32} {fs : List Value} (hr : h.2.2 q = some (.inr (6, fs))) {P : Bool → am_H → Prop} (hm : am_mb xs L d 17 [.ref q, .int x0] h P) (hc : am_cats st ≤ 8) (k : ∀ (z : Bool) h', P z h' → am_w xs L (d + 1) y is l (.int (if z = true then 1 else 0) :: st) h' Q) : am_w xs L (d + 1) y ((62, 3, 17, 2, cc) :: is) l (.int x0 :: .ref q :: st) h Q :=
  wp_inv [.ref q, .int x0] st hm (Or.inr (Or.inl rfl)) rfl ⟨rfl, (kn_17).2.1.symm⟩ (by unfold am_may; rw [if_neg (by decide)]; show (if (62 : Nat) = 62 then (match h.2.2 q with | some (.inr (ci, _)) => ci == am_rc 17 | _ => false) else _) = true; rw [if_pos rfl, hr, (kn_17).2.2.1]; rfl) hc (by rw [(kn_17).1]; exact Nat.le_of_ble_eq_true rfl) (fun v h' hv => by
    obtain ⟨z, rfl, hp⟩ := hv
    exact ⟨by unfold am_rok; rw [(kn_17).2.2.2]; cases z <;> rfl, k z h' hp⟩)
theorem kn_18 : am_ml 18 = 2 ∧ am_na 18 = 2 ∧ am_rc 18 = 6 ∧ am_rt 18 = some .int := by decide +kernel
theorem kv_18 {q : Nat} {x0 : Int32} {fs : List Value} (hr : h.2.2 q = some (.inr (6, fs))) {P : Int32 → am_H → Prop} (hm : am_mi xs L d 18 [.ref q, .int x0] h P) (hc : am_cats st ≤ 8) (k : ∀ z h', P z h' → am_w xs L (d + 1) y is l (.int z :: st) h' Q) : am_w xs L (d + 1) y ((62, 3, 18, 2, cc) :: is) l (.int x0 :: .ref q :: st) h Q :=
  wp_inv [.ref q, .int x0] st hm (Or.inr (Or.inl rfl)) rfl ⟨rfl, (kn_18).2.1.symm⟩ (by unfold am_may; rw [if_neg (by decide)]; show (if (62 : Nat) = 62 then (match h.2.2 q with | some (.inr (ci, _)) => ci == am_rc 18 | _ => false) else _) = true; rw [if_pos rfl, hr, (kn_18).2.2.1]; rfl) hc (by rw [(kn_18).1]; exact Nat.le_of_ble_eq_true rfl) (fun v h' hv => by
    obtain ⟨z, rfl, hp⟩ := hv
    exact ⟨by unfold am_rok; rw [(kn_18).2.2.2], k z h' hp⟩)
theorem kn_19 : am_ml 19 = 2 ∧ am_na 19 = 2 ∧ am_rc 19 = 6 ∧ am_rt 19 = some .int := by decide +kernel
theorem kv_19 {q : Nat} {x0 : Int32} {fs : List Value} (hr : h.2.2 q = some (.inr (6, fs))) {P : Int32 → am_H → Prop} (hm : am_mi xs L d 19 [.ref q, .int x0] h P) (hc : am_cats st ≤ 8) (k : ∀ z h', P z h' → am_w xs L (d + 1) y is l (.int z :: st) h' Q) : am_w xs L (d + 1) y ((62, 3, 19, 2, cc) :: is) l (.int x0 :: .ref q :: st) h Q :=
  wp_inv [.ref q, .int x0] st hm (Or.inr (Or.inl rfl)) rfl ⟨rfl, (kn_19).2.1.symm⟩ (by unfold am_may; rw [if_neg (by decide)]; show (if (62 : Nat) = 62 then (match h.2.2 q with | some (.inr (ci, _)) => ci == am_rc 19 | _ => false) else _) = true; rw [if_pos rfl, hr, (kn_19).2.2.1]; rfl) hc (by rw [(kn_19).1]; exact Nat.le_of_ble_eq_true rfl) (fun v h' hv => by
    obtain ⟨z, rfl, hp⟩ := hv
    exact ⟨by unfold am_rok; rw [(kn_19).2.2.2], k z h' hp⟩)
theorem kn_20 : am_ml 20 = 2 ∧ am_na 20 = 2 ∧ am_rc 20 = 6 ∧ am_rt 20 = some .int := by decide +kernel
theorem kv_20 {q : Nat} {x0 : Int32} {fs : List Value} (hr : h.2.2 q = some (.inr (6, fs))) {P : Int32 → am_H → Prop} (hm : am_mi xs L d 20 [.ref q, .int x0] h P) (hc : am_cats st ≤ 8) (k : ∀ z h', P z h' → am_w xs L (d + 1) y is l (.int z :: st) h' Q) : am_w xs L (d + 1) y ((62, 3, 20, 2, cc) :: is) l (.int x0 :: .ref q :: st) h Q :=
  wp_inv [.ref q, .int x0] st hm (Or.inr (Or.inl rfl)) rfl ⟨rfl, (kn_20).2.1.symm⟩ (by unfold am_may; rw [if_neg (by decide)]; show (if (62 : Nat) = 62 then (match h.2.2 q with | some (.inr (ci, _)) => ci == am_rc 20 | _ => false) else _) = true; rw [if_pos rfl, hr, (kn_20).2.2.1]; rfl) hc (by rw [(kn_20).1]; exact Nat.le_of_ble_eq_true rfl) (fun v h' hv => by
    obtain ⟨z, rfl, hp⟩ := hv
    exact ⟨by unfold am_rok; rw [(kn_20).2.2.2], k z h' hp⟩)
theorem kn_21 : am_ml 21 = 1 ∧ am_na 21 = 1 ∧ am_rc 21 = 6 ∧ am_rt 21 = some .int := by decide +kernel
theorem kv_21 {q : Nat} {fs : List Value} (hr : h.2.2 q = some (.inr (6, fs))) {P : Int32 → am_H → Prop} (hm : am_mi xs L d 21 [.ref q] h P) (hc : am_cats st ≤ 8) (k : ∀ z h', P z h' → am_w xs L (d + 1) y is l (.int z :: st) h' Q) : am_w xs L (d + 1) y ((62, 3, 21, 1, cc) :: is) l (.ref q :: st) h Q :=
  wp_inv [.ref q] st hm (Or.inr (Or.inl rfl)) rfl ⟨rfl, (kn_21).2.1.symm⟩ (by unfold am_may; rw [if_neg (by decide)]; show (if (62 : Nat) = 62 then (match h.2.2 q with | some (.inr (ci, _)) => ci == am_rc 21 | _ => false) else _) = true; rw [if_pos rfl, hr, (kn_21).2.2.1]; rfl) hc (by rw [(kn_21).1]; exact Nat.le_of_ble_eq_true rfl) (fun v h' hv => by
    obtain ⟨z, rfl, hp⟩ := hv
    exact ⟨by unfold am_rok; rw [(kn_21).2.2.2], k z h' hp⟩)
theorem kn_22 : am_ml 22 = 6 ∧ am_na 22 = 1 ∧ am_rc 22 = 6 ∧ am_rt 22 = some .int := by decide +kernel
theorem kv_22 {q : Nat} {fs : List Value} (hr : h.2.2 q = some (.inr (6, fs))) {P : Int32 → am_H → Prop} (hm : am_mi xs L d 22 [.ref q] h P) (hc : am_cats st ≤ 8) (k : ∀ z h', P z h' → am_w xs L (d + 1) y is l (.int z :: st) h' Q) : am_w xs L (d + 1) y ((62, 3, 22, 1, cc) :: is) l (.ref q :: st) h Q :=
  wp_inv [.ref q] st hm (Or.inr (Or.inl rfl)) rfl ⟨rfl, (kn_22).2.1.symm⟩ (by unfold am_may; rw [if_neg (by decide)]; show (if (62 : Nat) = 62 then (match h.2.2 q with | some (.inr (ci, _)) => ci == am_rc 22 | _ => false) else _) = true; rw [if_pos rfl, hr, (kn_22).2.2.1]; rfl) hc (by rw [(kn_22).1]; exact Nat.le_of_ble_eq_true rfl) (fun v h' hv => by
    obtain ⟨z, rfl, hp⟩ := hv
    exact ⟨by unfold am_rok; rw [(kn_22).2.2.2], k z h' hp⟩)
theorem kn_23 : am_ml 23 = 2 ∧ am_na 23 = 2 ∧ am_rc 23 = 6 ∧ am_rt 23 = some .int := by decide +kernel
theorem kv_23 {q : Nat} {x0 : Int32} {fs : List Value} (hr : h.2.2 q = some (.inr (6, fs))) {P : Int32 → am_H → Prop} (hm : am_mi xs L d 23 [.ref q, .int x0] h P) (hc : am_cats st ≤ 8) (k : ∀ z h', P z h' → am_w xs L (d + 1) y is l (.int z :: st) h' Q) : am_w xs L (d + 1) y ((62, 3, 23, 2, cc) :: is) l (.int x0 :: .ref q :: st) h Q :=
  wp_inv [.ref q, .int x0] st hm (Or.inr (Or.inl rfl)) rfl ⟨rfl, (kn_23).2.1.symm⟩ (by unfold am_may; rw [if_neg (by decide)]; show (if (62 : Nat) = 62 then (match h.2.2 q with | some (.inr (ci, _)) => ci == am_rc 23 | _ => false) else _) = true; rw [if_pos rfl, hr, (kn_23).2.2.1]; rfl) hc (by rw [(kn_23).1]; exact Nat.le_of_ble_eq_true rfl) (fun v h' hv => by
    obtain ⟨z, rfl, hp⟩ := hv
    exact ⟨by unfold am_rok; rw [(kn_23).2.2.2], k z h' hp⟩)
theorem kn_24 : am_ml 24 = 2 ∧ am_na 24 = 2 ∧ am_rc 24 = 6 ∧ am_rt 24 = some .int := by decide +kernel
theorem kv_24 {q : Nat} {x0 : Int32} {fs : List Value} (hr : h.2.2 q = some (.inr (6, fs))) {P : Int32 → am_H → Prop} (hm : am_mi xs L d 24 [.ref q, .int x0] h P) (hc : am_cats st ≤ 8) (k : ∀ z h', P z h' → am_w xs L (d + 1) y is l (.int z :: st) h' Q) : am_w xs L (d + 1) y ((62, 3, 24, 2, cc) :: is) l (.int x0 :: .ref q :: st) h Q :=
  wp_inv [.ref q, .int x0] st hm (Or.inr (Or.inl rfl)) rfl ⟨rfl, (kn_24).2.1.symm⟩ (by unfold am_may; rw [if_neg (by decide)]; show (if (62 : Nat) = 62 then (match h.2.2 q with | some (.inr (ci, _)) => ci == am_rc 24 | _ => false) else _) = true; rw [if_pos rfl, hr, (kn_24).2.2.1]; rfl) hc (by rw [(kn_24).1]; exact Nat.le_of_ble_eq_true rfl) (fun v h' hv => by
    obtain ⟨z, rfl, hp⟩ := hv
    exact ⟨by unfold am_rok; rw [(kn_24).2.2.2], k z h' hp⟩)
theorem kn_25 : am_ml 25 = 2 ∧ am_na 25 = 2 ∧ am_rc 25 = 6 ∧ am_rt 25 = some .int := by decide +kernel
theorem kv_25 {q : Nat} {x0 : Int32} {fs : List Value} (hr : h.2.2 q = some (.inr (6, fs))) {P : Int32 → am_H → Prop} (hm : am_mi xs L d 25 [.ref q, .int x0] h P) (hc : am_cats st ≤ 8) (k : ∀ z h', P z h' → am_w xs L (d + 1) y is l (.int z :: st) h' Q) : am_w xs L (d + 1) y ((62, 3, 25, 2, cc) :: is) l (.int x0 :: .ref q :: st) h Q :=
  wp_inv [.ref q, .int x0] st hm (Or.inr (Or.inl rfl)) rfl ⟨rfl, (kn_25).2.1.symm⟩ (by unfold am_may; rw [if_neg (by decide)]; show (if (62 : Nat) = 62 then (match h.2.2 q with | some (.inr (ci, _)) => ci == am_rc 25 | _ => false) else _) = true; rw [if_pos rfl, hr, (kn_25).2.2.1]; rfl) hc (by rw [(kn_25).1]; exact Nat.le_of_ble_eq_true rfl) (fun v h' hv => by
    obtain ⟨z, rfl, hp⟩ := hv
    exact ⟨by unfold am_rok; rw [(kn_25).2.2.2], k z h' hp⟩)
theorem kn_26 : am_ml 26 = 2 ∧ am_na 26 = 2 ∧ am_rc 26 = 6 ∧ am_rt 26 = some .int := by decide +kernel
theorem kv_26 {q : Nat} {x0 : Int32} {fs : List Value} (hr : h.2.2 q = some (.inr (6, fs))) {P : Int32 → am_H → Prop} (hm : am_mi xs L d 26 [.ref q, .int x0] h P) (hc : am_cats st ≤ 8) (k : ∀ z h', P z h' → am_w xs L (d + 1) y is l (.int z :: st) h' Q) : am_w xs L (d + 1) y ((62, 3, 26, 2, cc) :: is) l (.int x0 :: .ref q :: st) h Q :=
  wp_inv [.ref q, .int x0] st hm (Or.inr (Or.inl rfl)) rfl ⟨rfl, (kn_26).2.1.symm⟩ (by unfold am_may; rw [if_neg (by decide)]; show (if (62 : Nat) = 62 then (match h.2.2 q with | some (.inr (ci, _)) => ci == am_rc 26 | _ => false) else _) = true; rw [if_pos rfl, hr, (kn_26).2.2.1]; rfl) hc (by rw [(kn_26).1]; exact Nat.le_of_ble_eq_true rfl) (fun v h' hv => by
    obtain ⟨z, rfl, hp⟩ := hv
    exact ⟨by unfold am_rok; rw [(kn_26).2.2.2], k z h' hp⟩)
theorem kn_27 : am_ml 27 = 2 ∧ am_na 27 = 2 ∧ am_rc 27 = 6 ∧ am_rt 27 = some .int := by decide +kernel
theorem kv_27 {q : Nat} {x0 : Int32} {fs : List Value} (hr : h.2.2 q = some (.inr (6, fs))) {P : Int32 → am_H → Prop} (hm : am_mi xs L d 27 [.ref q, .int x0] h P) (hc : am_cats st ≤ 8) (k : ∀ z h', P z h' → am_w xs L (d + 1) y is l (.int z :: st) h' Q) : am_w xs L (d + 1) y ((62, 3, 27, 2, cc) :: is) l (.int x0 :: .ref q :: st) h Q :=
  wp_inv [.ref q, .int x0] st hm (Or.inr (Or.inl rfl)) rfl ⟨rfl, (kn_27).2.1.symm⟩ (by unfold am_may; rw [if_neg (by decide)]; show (if (62 : Nat) = 62 then (match h.2.2 q with | some (.inr (ci, _)) => ci == am_rc 27 | _ => false) else _) = true; rw [if_pos rfl, hr, (kn_27).2.2.1]; rfl) hc (by rw [(kn_27).1]; exact Nat.le_of_ble_eq_true rfl) (fun v h' hv => by
    obtain ⟨z, rfl, hp⟩ := hv
    exact ⟨by unfold am_rok; rw [(kn_27).2.2.2], k z h' hp⟩)
theorem kn_28 : am_ml 28 = 4 ∧ am_na 28 = 2 ∧ am_rc 28 = 6 ∧ am_rt 28 = some .int := by decide +kernel
theorem kv_28 {q : Nat} {x0 : Int32} {fs : List Value} (hr : h.2.2 q = some (.inr (6, fs))) {P : Int32 → am_H → Prop} (hm : am_mi xs L d 28 [.ref q, .int x0] h P) (hc : am_cats st ≤ 8) (k : ∀ z h', P z h' → am_w xs L (d + 1) y is l (.int z :: st) h' Q) : am_w xs L (d + 1) y ((62, 3, 28, 2, cc) :: is) l (.int x0 :: .ref q :: st) h Q :=
  wp_inv [.ref q, .int x0] st hm (Or.inr (Or.inl rfl)) rfl ⟨rfl, (kn_28).2.1.symm⟩ (by unfold am_may; rw [if_neg (by decide)]; show (if (62 : Nat) = 62 then (match h.2.2 q with | some (.inr (ci, _)) => ci == am_rc 28 | _ => false) else _) = true; rw [if_pos rfl, hr, (kn_28).2.2.1]; rfl) hc (by rw [(kn_28).1]; exact Nat.le_of_ble_eq_true rfl) (fun v h' hv => by
    obtain ⟨z, rfl, hp⟩ := hv
    exact ⟨by unfold am_rok; rw [(kn_28).2.2.2], k z h' hp⟩)
theorem kn_29 : am_ml 29 = 2 ∧ am_na 29 = 2 ∧ am_rc 29 = 6 ∧ am_rt 29 = some .int := by decide +kernel
theorem kv_29 {q : Nat} {x0 : Int32} {fs : List Value} (hr : h.2.2 q = some (.inr (6, fs))) {P : Int32 → am_H → Prop} (hm : am_mi xs L d 29 [.ref q, .int x0] h P) (hc : am_cats st ≤ 8) (k : ∀ z h', P z h' → am_w xs L (d + 1) y is l (.int z :: st) h' Q) : am_w xs L (d + 1) y ((62, 3, 29, 2, cc) :: is) l (.int x0 :: .ref q :: st) h Q :=
  wp_inv [.ref q, .int x0] st hm (Or.inr (Or.inl rfl)) rfl ⟨rfl, (kn_29).2.1.symm⟩ (by unfold am_may; rw [if_neg (by decide)]; show (if (62 : Nat) = 62 then (match h.2.2 q with | some (.inr (ci, _)) => ci == am_rc 29 | _ => false) else _) = true; rw [if_pos rfl, hr, (kn_29).2.2.1]; rfl) hc (by rw [(kn_29).1]; exact Nat.le_of_ble_eq_true rfl) (fun v h' hv => by
    obtain ⟨z, rfl, hp⟩ := hv
    exact ⟨by unfold am_rok; rw [(kn_29).2.2.2], k z h' hp⟩)
theorem kn_30 : am_ml 30 = 4 ∧ am_na 30 = 2 ∧ am_rc 30 = 6 ∧ am_rt 30 = some .int := by decide +kernel
theorem kv_30 {q : Nat} {x0 : Int32} {fs : List Value} (hr : h.2.2 q = some (.inr (6, fs))) {P : Int32 → am_H → Prop} (hm : am_mi xs L d 30 [.ref q, .int x0] h P) (hc : am_cats st ≤ 8) (k : ∀ z h', P z h' → am_w xs L (d + 1) y is l (.int z :: st) h' Q) : am_w xs L (d + 1) y ((62, 3, 30, 2, cc) :: is) l (.int x0 :: .ref q :: st) h Q :=
  wp_inv [.ref q, .int x0] st hm (Or.inr (Or.inl rfl)) rfl ⟨rfl, (kn_30).2.1.symm⟩ (by unfold am_may; rw [if_neg (by decide)]; show (if (62 : Nat) = 62 then (match h.2.2 q with | some (.inr (ci, _)) => ci == am_rc 30 | _ => false) else _) = true; rw [if_pos rfl, hr, (kn_30).2.2.1]; rfl) hc (by rw [(kn_30).1]; exact Nat.le_of_ble_eq_true rfl) (fun v h' hv => by
    obtain ⟨z, rfl, hp⟩ := hv
    exact ⟨by unfold am_rok; rw [(kn_30).2.2.2], k z h' hp⟩)
theorem kn_31 : am_ml 31 = 6 ∧ am_na 31 = 1 ∧ am_rc 31 = 6 ∧ am_rt 31 = some .int := by decide +kernel
theorem kv_31 {q : Nat} {fs : List Value} (hr : h.2.2 q = some (.inr (6, fs))) {P : Int32 → am_H → Prop} (hm : am_mi xs L d 31 [.ref q] h P) (hc : am_cats st ≤ 8) (k : ∀ z h', P z h' → am_w xs L (d + 1) y is l (.int z :: st) h' Q) : am_w xs L (d + 1) y ((62, 3, 31, 1, cc) :: is) l (.ref q :: st) h Q :=
  wp_inv [.ref q] st hm (Or.inr (Or.inl rfl)) rfl ⟨rfl, (kn_31).2.1.symm⟩ (by unfold am_may; rw [if_neg (by decide)]; show (if (62 : Nat) = 62 then (match h.2.2 q with | some (.inr (ci, _)) => ci == am_rc 31 | _ => false) else _) = true; rw [if_pos rfl, hr, (kn_31).2.2.1]; rfl) hc (by rw [(kn_31).1]; exact Nat.le_of_ble_eq_true rfl) (fun v h' hv => by
    obtain ⟨z, rfl, hp⟩ := hv
    exact ⟨by unfold am_rok; rw [(kn_31).2.2.2], k z h' hp⟩)
theorem kn_32 : am_ml 32 = 5 ∧ am_na 32 = 2 ∧ am_rc 32 = 6 ∧ am_rt 32 = some .int := by decide +kernel
theorem kv_32 {q : Nat} {x0 : Int32} {fs : List Value} (hr : h.2.2 q = some (.inr (6, fs))) {P : Int32 → am_H → Prop} (hm : am_mi xs L d 32 [.ref q, .int x0] h P) (hc : am_cats st ≤ 8) (k : ∀ z h', P z h' → am_w xs L (d + 1) y is l (.int z :: st) h' Q) : am_w xs L (d + 1) y ((62, 3, 32, 2, cc) :: is) l (.int x0 :: .ref q :: st) h Q :=
  wp_inv [.ref q, .int x0] st hm (Or.inr (Or.inl rfl)) rfl ⟨rfl, (kn_32).2.1.symm⟩ (by unfold am_may; rw [if_neg (by decide)]; show (if (62 : Nat) = 62 then (match h.2.2 q with | some (.inr (ci, _)) => ci == am_rc 32 | _ => false) else _) = true; rw [if_pos rfl, hr, (kn_32).2.2.1]; rfl) hc (by rw [(kn_32).1]; exact Nat.le_of_ble_eq_true rfl) (fun v h' hv => by
    obtain ⟨z, rfl, hp⟩ := hv
    exact ⟨by unfold am_rok; rw [(kn_32).2.2.2], k z h' hp⟩)
theorem kn_33 : am_ml 33 = 6 ∧ am_na 33 = 3 ∧ am_rc 33 = 6 ∧ am_rt 33 = some .int := by decide +kernel
theorem kv_33 {q : Nat} {x0 : Int32} {x1 : Int32} {fs : List Value} (hr : h.2.2 q = some (.inr (6, fs))) {P : Int32 → am_H → Prop} (hm : am_mi xs L d 33 [.ref q, .int x0, .int x1] h P) (hc : am_cats st ≤ 8) (k : ∀ z h', P z h' → am_w xs L (d + 1) y is l (.int z :: st) h' Q) : am_w xs L (d + 1) y ((62, 3, 33, 3, cc) :: is) l (.int x1 :: .int x0 :: .ref q :: st) h Q :=
  wp_inv [.ref q, .int x0, .int x1] st hm (Or.inr (Or.inl rfl)) rfl ⟨rfl, (kn_33).2.1.symm⟩ (by unfold am_may; rw [if_neg (by decide)]; show (if (62 : Nat) = 62 then (match h.2.2 q with | some (.inr (ci, _)) => ci == am_rc 33 | _ => false) else _) = true; rw [if_pos rfl, hr, (kn_33).2.2.1]; rfl) hc (by rw [(kn_33).1]; exact Nat.le_of_ble_eq_true rfl) (fun v h' hv => by
    obtain ⟨z, rfl, hp⟩ := hv
    exact ⟨by unfold am_rok; rw [(kn_33).2.2.2], k z h' hp⟩)
theorem kn_34 : am_ml 34 = 1 ∧ am_na 34 = 1 ∧ am_rc 34 = 6 ∧ am_rt 34 = some .int := by decide +kernel
theorem kv_34 {q : Nat} {fs : List Value} (hr : h.2.2 q = some (.inr (6, fs))) {P : Int32 → am_H → Prop} (hm : am_mi xs L d 34 [.ref q] h P) (hc : am_cats st ≤ 8) (k : ∀ z h', P z h' → am_w xs L (d + 1) y is l (.int z :: st) h' Q) : am_w xs L (d + 1) y ((62, 3, 34, 1, cc) :: is) l (.ref q :: st) h Q :=
  wp_inv [.ref q] st hm (Or.inr (Or.inl rfl)) rfl ⟨rfl, (kn_34).2.1.symm⟩ (by unfold am_may; rw [if_neg (by decide)]; show (if (62 : Nat) = 62 then (match h.2.2 q with | some (.inr (ci, _)) => ci == am_rc 34 | _ => false) else _) = true; rw [if_pos rfl, hr, (kn_34).2.2.1]; rfl) hc (by rw [(kn_34).1]; exact Nat.le_of_ble_eq_true rfl) (fun v h' hv => by
    obtain ⟨z, rfl, hp⟩ := hv
    exact ⟨by unfold am_rok; rw [(kn_34).2.2.2], k z h' hp⟩)
theorem kn_35 : am_ml 35 = 1 ∧ am_na 35 = 1 ∧ am_rc 35 = 6 ∧ am_rt 35 = some .int := by decide +kernel
theorem kv_35 {q : Nat} {fs : List Value} (hr : h.2.2 q = some (.inr (6, fs))) {P : Int32 → am_H → Prop} (hm : am_mi xs L d 35 [.ref q] h P) (hc : am_cats st ≤ 8) (k : ∀ z h', P z h' → am_w xs L (d + 1) y is l (.int z :: st) h' Q) : am_w xs L (d + 1) y ((62, 3, 35, 1, cc) :: is) l (.ref q :: st) h Q :=
  wp_inv [.ref q] st hm (Or.inr (Or.inl rfl)) rfl ⟨rfl, (kn_35).2.1.symm⟩ (by unfold am_may; rw [if_neg (by decide)]; show (if (62 : Nat) = 62 then (match h.2.2 q with | some (.inr (ci, _)) => ci == am_rc 35 | _ => false) else _) = true; rw [if_pos rfl, hr, (kn_35).2.2.1]; rfl) hc (by rw [(kn_35).1]; exact Nat.le_of_ble_eq_true rfl) (fun v h' hv => by
    obtain ⟨z, rfl, hp⟩ := hv
    exact ⟨by unfold am_rok; rw [(kn_35).2.2.2], k z h' hp⟩)
theorem kn_36 : am_ml 36 = 2 ∧ am_na 36 = 1 ∧ am_rc 36 = 6 ∧ am_rt 36 = some .int := by decide +kernel
theorem kv_36 {q : Nat} {fs : List Value} (hr : h.2.2 q = some (.inr (6, fs))) {P : Int32 → am_H → Prop} (hm : am_mi xs L d 36 [.ref q] h P) (hc : am_cats st ≤ 8) (k : ∀ z h', P z h' → am_w xs L (d + 1) y is l (.int z :: st) h' Q) : am_w xs L (d + 1) y ((62, 3, 36, 1, cc) :: is) l (.ref q :: st) h Q :=
  wp_inv [.ref q] st hm (Or.inr (Or.inl rfl)) rfl ⟨rfl, (kn_36).2.1.symm⟩ (by unfold am_may; rw [if_neg (by decide)]; show (if (62 : Nat) = 62 then (match h.2.2 q with | some (.inr (ci, _)) => ci == am_rc 36 | _ => false) else _) = true; rw [if_pos rfl, hr, (kn_36).2.2.1]; rfl) hc (by rw [(kn_36).1]; exact Nat.le_of_ble_eq_true rfl) (fun v h' hv => by
    obtain ⟨z, rfl, hp⟩ := hv
    exact ⟨by unfold am_rok; rw [(kn_36).2.2.2], k z h' hp⟩)
theorem kn_37 : am_ml 37 = 2 ∧ am_na 37 = 2 ∧ am_rc 37 = 6 ∧ am_rt 37 = some .int := by decide +kernel
theorem kv_37 {q : Nat} {x0 : Int32} {fs : List Value} (hr : h.2.2 q = some (.inr (6, fs))) {P : Int32 → am_H → Prop} (hm : am_mi xs L d 37 [.ref q, .int x0] h P) (hc : am_cats st ≤ 8) (k : ∀ z h', P z h' → am_w xs L (d + 1) y is l (.int z :: st) h' Q) : am_w xs L (d + 1) y ((62, 3, 37, 2, cc) :: is) l (.int x0 :: .ref q :: st) h Q :=
  wp_inv [.ref q, .int x0] st hm (Or.inr (Or.inl rfl)) rfl ⟨rfl, (kn_37).2.1.symm⟩ (by unfold am_may; rw [if_neg (by decide)]; show (if (62 : Nat) = 62 then (match h.2.2 q with | some (.inr (ci, _)) => ci == am_rc 37 | _ => false) else _) = true; rw [if_pos rfl, hr, (kn_37).2.2.1]; rfl) hc (by rw [(kn_37).1]; exact Nat.le_of_ble_eq_true rfl) (fun v h' hv => by
    obtain ⟨z, rfl, hp⟩ := hv
    exact ⟨by unfold am_rok; rw [(kn_37).2.2.2], k z h' hp⟩)
theorem kn_38 : am_ml 38 = 1 ∧ am_na 38 = 1 ∧ am_rc 38 = 6 ∧ am_rt 38 = some .int := by decide +kernel
theorem kv_38 {q : Nat} {fs : List Value} (hr : h.2.2 q = some (.inr (6, fs))) {P : Int32 → am_H → Prop} (hm : am_mi xs L d 38 [.ref q] h P) (hc : am_cats st ≤ 8) (k : ∀ z h', P z h' → am_w xs L (d + 1) y is l (.int z :: st) h' Q) : am_w xs L (d + 1) y ((62, 3, 38, 1, cc) :: is) l (.ref q :: st) h Q :=
  wp_inv [.ref q] st hm (Or.inr (Or.inl rfl)) rfl ⟨rfl, (kn_38).2.1.symm⟩ (by unfold am_may; rw [if_neg (by decide)]; show (if (62 : Nat) = 62 then (match h.2.2 q with | some (.inr (ci, _)) => ci == am_rc 38 | _ => false) else _) = true; rw [if_pos rfl, hr, (kn_38).2.2.1]; rfl) hc (by rw [(kn_38).1]; exact Nat.le_of_ble_eq_true rfl) (fun v h' hv => by
    obtain ⟨z, rfl, hp⟩ := hv
    exact ⟨by unfold am_rok; rw [(kn_38).2.2.2], k z h' hp⟩)
theorem kn_39 : am_ml 39 = 1 ∧ am_na 39 = 1 ∧ am_rc 39 = 6 ∧ am_rt 39 = some .int := by decide +kernel
theorem kv_39 {q : Nat} {fs : List Value} (hr : h.2.2 q = some (.inr (6, fs))) {P : Int32 → am_H → Prop} (hm : am_mi xs L d 39 [.ref q] h P) (hc : am_cats st ≤ 8) (k : ∀ z h', P z h' → am_w xs L (d + 1) y is l (.int z :: st) h' Q) : am_w xs L (d + 1) y ((62, 3, 39, 1, cc) :: is) l (.ref q :: st) h Q :=
  wp_inv [.ref q] st hm (Or.inr (Or.inl rfl)) rfl ⟨rfl, (kn_39).2.1.symm⟩ (by unfold am_may; rw [if_neg (by decide)]; show (if (62 : Nat) = 62 then (match h.2.2 q with | some (.inr (ci, _)) => ci == am_rc 39 | _ => false) else _) = true; rw [if_pos rfl, hr, (kn_39).2.2.1]; rfl) hc (by rw [(kn_39).1]; exact Nat.le_of_ble_eq_true rfl) (fun v h' hv => by
    obtain ⟨z, rfl, hp⟩ := hv
    exact ⟨by unfold am_rok; rw [(kn_39).2.2.2], k z h' hp⟩)
theorem kn_40 : am_ml 40 = 1 ∧ am_na 40 = 1 ∧ am_rc 40 = 6 ∧ am_rt 40 = some .int := by decide +kernel
theorem kv_40 {q : Nat} {fs : List Value} (hr : h.2.2 q = some (.inr (6, fs))) {P : Int32 → am_H → Prop} (hm : am_mi xs L d 40 [.ref q] h P) (hc : am_cats st ≤ 8) (k : ∀ z h', P z h' → am_w xs L (d + 1) y is l (.int z :: st) h' Q) : am_w xs L (d + 1) y ((62, 3, 40, 1, cc) :: is) l (.ref q :: st) h Q :=
  wp_inv [.ref q] st hm (Or.inr (Or.inl rfl)) rfl ⟨rfl, (kn_40).2.1.symm⟩ (by unfold am_may; rw [if_neg (by decide)]; show (if (62 : Nat) = 62 then (match h.2.2 q with | some (.inr (ci, _)) => ci == am_rc 40 | _ => false) else _) = true; rw [if_pos rfl, hr, (kn_40).2.2.1]; rfl) hc (by rw [(kn_40).1]; exact Nat.le_of_ble_eq_true rfl) (fun v h' hv => by
    obtain ⟨z, rfl, hp⟩ := hv
    exact ⟨by unfold am_rok; rw [(kn_40).2.2.2], k z h' hp⟩)
theorem kn_41 : am_ml 41 = 5 ∧ am_na 41 = 2 ∧ am_rc 41 = 6 ∧ am_rt 41 = some .int := by decide +kernel
theorem kv_41 {q : Nat} {x0 : Int32} {fs : List Value} (hr : h.2.2 q = some (.inr (6, fs))) {P : Int32 → am_H → Prop} (hm : am_mi xs L d 41 [.ref q, .int x0] h P) (hc : am_cats st ≤ 8) (k : ∀ z h', P z h' → am_w xs L (d + 1) y is l (.int z :: st) h' Q) : am_w xs L (d + 1) y ((62, 3, 41, 2, cc) :: is) l (.int x0 :: .ref q :: st) h Q :=
  wp_inv [.ref q, .int x0] st hm (Or.inr (Or.inl rfl)) rfl ⟨rfl, (kn_41).2.1.symm⟩ (by unfold am_may; rw [if_neg (by decide)]; show (if (62 : Nat) = 62 then (match h.2.2 q with | some (.inr (ci, _)) => ci == am_rc 41 | _ => false) else _) = true; rw [if_pos rfl, hr, (kn_41).2.2.1]; rfl) hc (by rw [(kn_41).1]; exact Nat.le_of_ble_eq_true rfl) (fun v h' hv => by
    obtain ⟨z, rfl, hp⟩ := hv
    exact ⟨by unfold am_rok; rw [(kn_41).2.2.2], k z h' hp⟩)
theorem kn_42 : am_ml 42 = 1 ∧ am_na 42 = 1 ∧ am_rc 42 = 6 ∧ am_rt 42 = some .int := by decide +kernel
theorem kv_42 {q : Nat} {fs : List Value} (hr : h.2.2 q = some (.inr (6, fs))) {P : Int32 → am_H → Prop} (hm : am_mi xs L d 42 [.ref q] h P) (hc : am_cats st ≤ 8) (k : ∀ z h', P z h' → am_w xs L (d + 1) y is l (.int z :: st) h' Q) : am_w xs L (d + 1) y ((62, 3, 42, 1, cc) :: is) l (.ref q :: st) h Q :=
  wp_inv [.ref q] st hm (Or.inr (Or.inl rfl)) rfl ⟨rfl, (kn_42).2.1.symm⟩ (by unfold am_may; rw [if_neg (by decide)]; show (if (62 : Nat) = 62 then (match h.2.2 q with | some (.inr (ci, _)) => ci == am_rc 42 | _ => false) else _) = true; rw [if_pos rfl, hr, (kn_42).2.2.1]; rfl) hc (by rw [(kn_42).1]; exact Nat.le_of_ble_eq_true rfl) (fun v h' hv => by
    obtain ⟨z, rfl, hp⟩ := hv
    exact ⟨by unfold am_rok; rw [(kn_42).2.2.2], k z h' hp⟩)
theorem kn_43 : am_ml 43 = 6 ∧ am_na 43 = 1 ∧ am_rc 43 = 6 ∧ am_rt 43 = some .int := by decide +kernel
theorem kv_43 {q : Nat} {fs : List Value} (hr : h.2.2 q = some (.inr (6, fs))) {P : Int32 → am_H → Prop} (hm : am_mi xs L d 43 [.ref q] h P) (hc : am_cats st ≤ 8) (k : ∀ z h', P z h' → am_w xs L (d + 1) y is l (.int z :: st) h' Q) : am_w xs L (d + 1) y ((62, 3, 43, 1, cc) :: is) l (.ref q :: st) h Q :=
  wp_inv [.ref q] st hm (Or.inr (Or.inl rfl)) rfl ⟨rfl, (kn_43).2.1.symm⟩ (by unfold am_may; rw [if_neg (by decide)]; show (if (62 : Nat) = 62 then (match h.2.2 q with | some (.inr (ci, _)) => ci == am_rc 43 | _ => false) else _) = true; rw [if_pos rfl, hr, (kn_43).2.2.1]; rfl) hc (by rw [(kn_43).1]; exact Nat.le_of_ble_eq_true rfl) (fun v h' hv => by
    obtain ⟨z, rfl, hp⟩ := hv
    exact ⟨by unfold am_rok; rw [(kn_43).2.2.2], k z h' hp⟩)
theorem kn_44 : am_ml 44 = 3 ∧ am_na 44 = 3 ∧ am_rc 44 = 6 ∧ am_rt 44 = some .int := by decide +kernel
theorem kv_44 {q : Nat} {x0 : Int32} {x1 : Int32} {fs : List Value} (hr : h.2.2 q = some (.inr (6, fs))) {P : Int32 → am_H → Prop} (hm : am_mi xs L d 44 [.ref q, .int x0, .int x1] h P) (hc : am_cats st ≤ 8) (k : ∀ z h', P z h' → am_w xs L (d + 1) y is l (.int z :: st) h' Q) : am_w xs L (d + 1) y ((62, 3, 44, 3, cc) :: is) l (.int x1 :: .int x0 :: .ref q :: st) h Q :=
  wp_inv [.ref q, .int x0, .int x1] st hm (Or.inr (Or.inl rfl)) rfl ⟨rfl, (kn_44).2.1.symm⟩ (by unfold am_may; rw [if_neg (by decide)]; show (if (62 : Nat) = 62 then (match h.2.2 q with | some (.inr (ci, _)) => ci == am_rc 44 | _ => false) else _) = true; rw [if_pos rfl, hr, (kn_44).2.2.1]; rfl) hc (by rw [(kn_44).1]; exact Nat.le_of_ble_eq_true rfl) (fun v h' hv => by
    obtain ⟨z, rfl, hp⟩ := hv
    exact ⟨by unfold am_rok; rw [(kn_44).2.2.2], k z h' hp⟩)
theorem kn_45 : am_ml 45 = 2 ∧ am_na 45 = 2 ∧ am_rc 45 = 6 ∧ am_rt 45 = some .int := by decide +kernel
theorem kv_45 {q : Nat} {x0 : Int32} {fs : List Value} (hr : h.2.2 q = some (.inr (6, fs))) {P : Int32 → am_H → Prop} (hm : am_mi xs L d 45 [.ref q, .int x0] h P) (hc : am_cats st ≤ 8) (k : ∀ z h', P z h' → am_w xs L (d + 1) y is l (.int z :: st) h' Q) : am_w xs L (d + 1) y ((62, 3, 45, 2, cc) :: is) l (.int x0 :: .ref q :: st) h Q :=
  wp_inv [.ref q, .int x0] st hm (Or.inr (Or.inl rfl)) rfl ⟨rfl, (kn_45).2.1.symm⟩ (by unfold am_may; rw [if_neg (by decide)]; show (if (62 : Nat) = 62 then (match h.2.2 q with | some (.inr (ci, _)) => ci == am_rc 45 | _ => false) else _) = true; rw [if_pos rfl, hr, (kn_45).2.2.1]; rfl) hc (by rw [(kn_45).1]; exact Nat.le_of_ble_eq_true rfl) (fun v h' hv => by
    obtain ⟨z, rfl, hp⟩ := hv
    exact ⟨by unfold am_rok; rw [(kn_45).2.2.2], k z h' hp⟩)
theorem kn_46 : am_ml 46 = 3 ∧ am_na 46 = 1 ∧ am_rc 46 = 6 ∧ am_rt 46 = some .int := by decide +kernel
theorem kv_46 {q : Nat} {fs : List Value} (hr : h.2.2 q = some (.inr (6, fs))) {P : Int32 → am_H → Prop} (hm : am_mi xs L d 46 [.ref q] h P) (hc : am_cats st ≤ 8) (k : ∀ z h', P z h' → am_w xs L (d + 1) y is l (.int z :: st) h' Q) : am_w xs L (d + 1) y ((62, 3, 46, 1, cc) :: is) l (.ref q :: st) h Q :=
  wp_inv [.ref q] st hm (Or.inr (Or.inl rfl)) rfl ⟨rfl, (kn_46).2.1.symm⟩ (by unfold am_may; rw [if_neg (by decide)]; show (if (62 : Nat) = 62 then (match h.2.2 q with | some (.inr (ci, _)) => ci == am_rc 46 | _ => false) else _) = true; rw [if_pos rfl, hr, (kn_46).2.2.1]; rfl) hc (by rw [(kn_46).1]; exact Nat.le_of_ble_eq_true rfl) (fun v h' hv => by
    obtain ⟨z, rfl, hp⟩ := hv
    exact ⟨by unfold am_rok; rw [(kn_46).2.2.2], k z h' hp⟩)
theorem kn_47 : am_ml 47 = 2 ∧ am_na 47 = 2 ∧ am_rc 47 = 6 ∧ am_rt 47 = some .int := by decide +kernel
theorem kv_47 {q : Nat} {x0 : Int32} {fs : List Value} (hr : h.2.2 q = some (.inr (6, fs))) {P : Int32 → am_H → Prop} (hm : am_mi xs L d 47 [.ref q, .int x0] h P) (hc : am_cats st ≤ 8) (k : ∀ z h', P z h' → am_w xs L (d + 1) y is l (.int z :: st) h' Q) : am_w xs L (d + 1) y ((62, 3, 47, 2, cc) :: is) l (.int x0 :: .ref q :: st) h Q :=
  wp_inv [.ref q, .int x0] st hm (Or.inr (Or.inl rfl)) rfl ⟨rfl, (kn_47).2.1.symm⟩ (by unfold am_may; rw [if_neg (by decide)]; show (if (62 : Nat) = 62 then (match h.2.2 q with | some (.inr (ci, _)) => ci == am_rc 47 | _ => false) else _) = true; rw [if_pos rfl, hr, (kn_47).2.2.1]; rfl) hc (by rw [(kn_47).1]; exact Nat.le_of_ble_eq_true rfl) (fun v h' hv => by
    obtain ⟨z, rfl, hp⟩ := hv
    exact ⟨by unfold am_rok; rw [(kn_47).2.2.2], k z h' hp⟩)
theorem kn_48 : am_ml 48 = 2 ∧ am_na 48 = 2 ∧ am_rc 48 = 6 ∧ am_rt 48 = some .int := by decide +kernel
theorem kv_48 {q : Nat} {x0 : Int32} {fs : List Value} (hr : h.2.2 q = some (.inr (6, fs))) {P : Int32 → am_H → Prop} (hm : am_mi xs L d 48 [.ref q, .int x0] h P) (hc : am_cats st ≤ 8) (k : ∀ z h', P z h' → am_w xs L (d + 1) y is l (.int z :: st) h' Q) : am_w xs L (d + 1) y ((62, 3, 48, 2, cc) :: is) l (.int x0 :: .ref q :: st) h Q :=
  wp_inv [.ref q, .int x0] st hm (Or.inr (Or.inl rfl)) rfl ⟨rfl, (kn_48).2.1.symm⟩ (by unfold am_may; rw [if_neg (by decide)]; show (if (62 : Nat) = 62 then (match h.2.2 q with | some (.inr (ci, _)) => ci == am_rc 48 | _ => false) else _) = true; rw [if_pos rfl, hr, (kn_48).2.2.1]; rfl) hc (by rw [(kn_48).1]; exact Nat.le_of_ble_eq_true rfl) (fun v h' hv => by
    obtain ⟨z, rfl, hp⟩ := hv
    exact ⟨by unfold am_rok; rw [(kn_48).2.2.2], k z h' hp⟩)
theorem kn_49 : am_ml 49 = 2 ∧ am_na 49 = 2 ∧ am_rc 49 = 6 ∧ am_rt 49 = some .int := by decide +kernel
theorem kv_49 {q : Nat} {x0 : Int32} {fs : List Value} (hr : h.2.2 q = some (.inr (6, fs))) {P : Int32 → am_H → Prop} (hm : am_mi xs L d 49 [.ref q, .int x0] h P) (hc : am_cats st ≤ 8) (k : ∀ z h', P z h' → am_w xs L (d + 1) y is l (.int z :: st) h' Q) : am_w xs L (d + 1) y ((62, 3, 49, 2, cc) :: is) l (.int x0 :: .ref q :: st) h Q :=
  wp_inv [.ref q, .int x0] st hm (Or.inr (Or.inl rfl)) rfl ⟨rfl, (kn_49).2.1.symm⟩ (by unfold am_may; rw [if_neg (by decide)]; show (if (62 : Nat) = 62 then (match h.2.2 q with | some (.inr (ci, _)) => ci == am_rc 49 | _ => false) else _) = true; rw [if_pos rfl, hr, (kn_49).2.2.1]; rfl) hc (by rw [(kn_49).1]; exact Nat.le_of_ble_eq_true rfl) (fun v h' hv => by
    obtain ⟨z, rfl, hp⟩ := hv
    exact ⟨by unfold am_rok; rw [(kn_49).2.2.2], k z h' hp⟩)
theorem kn_50 : am_ml 50 = 2 ∧ am_na 50 = 1 ∧ am_rc 50 = 6 ∧ am_rt 50 = some .int := by decide +kernel
theorem kv_50 {q : Nat} {fs : List Value} (hr : h.2.2 q = some (.inr (6, fs))) {P : Int32 → am_H → Prop} (hm : am_mi xs L d 50 [.ref q] h P) (hc : am_cats st ≤ 8) (k : ∀ z h', P z h' → am_w xs L (d + 1) y is l (.int z :: st) h' Q) : am_w xs L (d + 1) y ((62, 3, 50, 1, cc) :: is) l (.ref q :: st) h Q :=
  wp_inv [.ref q] st hm (Or.inr (Or.inl rfl)) rfl ⟨rfl, (kn_50).2.1.symm⟩ (by unfold am_may; rw [if_neg (by decide)]; show (if (62 : Nat) = 62 then (match h.2.2 q with | some (.inr (ci, _)) => ci == am_rc 50 | _ => false) else _) = true; rw [if_pos rfl, hr, (kn_50).2.2.1]; rfl) hc (by rw [(kn_50).1]; exact Nat.le_of_ble_eq_true rfl) (fun v h' hv => by
    obtain ⟨z, rfl, hp⟩ := hv
    exact ⟨by unfold am_rok; rw [(kn_50).2.2.2], k z h' hp⟩)
theorem kn_51 : am_ml 51 = 2 ∧ am_na 51 = 2 ∧ am_rc 51 = 6 ∧ am_rt 51 = some .int := by decide +kernel
theorem kv_51 {q : Nat} {x0 : Int32} {fs : List Value} (hr : h.2.2 q = some (.inr (6, fs))) {P : Int32 → am_H → Prop} (hm : am_mi xs L d 51 [.ref q, .int x0] h P) (hc : am_cats st ≤ 8) (k : ∀ z h', P z h' → am_w xs L (d + 1) y is l (.int z :: st) h' Q) : am_w xs L (d + 1) y ((62, 3, 51, 2, cc) :: is) l (.int x0 :: .ref q :: st) h Q :=
  wp_inv [.ref q, .int x0] st hm (Or.inr (Or.inl rfl)) rfl ⟨rfl, (kn_51).2.1.symm⟩ (by unfold am_may; rw [if_neg (by decide)]; show (if (62 : Nat) = 62 then (match h.2.2 q with | some (.inr (ci, _)) => ci == am_rc 51 | _ => false) else _) = true; rw [if_pos rfl, hr, (kn_51).2.2.1]; rfl) hc (by rw [(kn_51).1]; exact Nat.le_of_ble_eq_true rfl) (fun v h' hv => by
    obtain ⟨z, rfl, hp⟩ := hv
    exact ⟨by unfold am_rok; rw [(kn_51).2.2.2], k z h' hp⟩)
theorem kn_52 : am_ml 52 = 1 ∧ am_na 52 = 1 ∧ am_rc 52 = 6 ∧ am_rt 52 = some .int := by decide +kernel
theorem kv_52 {q : Nat} {fs : List Value} (hr : h.2.2 q = some (.inr (6, fs))) {P : Int32 → am_H → Prop} (hm : am_mi xs L d 52 [.ref q] h P) (hc : am_cats st ≤ 8) (k : ∀ z h', P z h' → am_w xs L (d + 1) y is l (.int z :: st) h' Q) : am_w xs L (d + 1) y ((62, 3, 52, 1, cc) :: is) l (.ref q :: st) h Q :=
  wp_inv [.ref q] st hm (Or.inr (Or.inl rfl)) rfl ⟨rfl, (kn_52).2.1.symm⟩ (by unfold am_may; rw [if_neg (by decide)]; show (if (62 : Nat) = 62 then (match h.2.2 q with | some (.inr (ci, _)) => ci == am_rc 52 | _ => false) else _) = true; rw [if_pos rfl, hr, (kn_52).2.2.1]; rfl) hc (by rw [(kn_52).1]; exact Nat.le_of_ble_eq_true rfl) (fun v h' hv => by
    obtain ⟨z, rfl, hp⟩ := hv
    exact ⟨by unfold am_rok; rw [(kn_52).2.2.2], k z h' hp⟩)
theorem kn_53 : am_ml 53 = 2 ∧ am_na 53 = 2 ∧ am_rc 53 = 6 ∧ am_rt 53 = some .int := by decide +kernel
theorem kv_53 {q : Nat} {x0 : Int32} {fs : List Value} (hr : h.2.2 q = some (.inr (6, fs))) {P : Int32 → am_H → Prop} (hm : am_mi xs L d 53 [.ref q, .int x0] h P) (hc : am_cats st ≤ 8) (k : ∀ z h', P z h' → am_w xs L (d + 1) y is l (.int z :: st) h' Q) : am_w xs L (d + 1) y ((62, 3, 53, 2, cc) :: is) l (.int x0 :: .ref q :: st) h Q :=
  wp_inv [.ref q, .int x0] st hm (Or.inr (Or.inl rfl)) rfl ⟨rfl, (kn_53).2.1.symm⟩ (by unfold am_may; rw [if_neg (by decide)]; show (if (62 : Nat) = 62 then (match h.2.2 q with | some (.inr (ci, _)) => ci == am_rc 53 | _ => false) else _) = true; rw [if_pos rfl, hr, (kn_53).2.2.1]; rfl) hc (by rw [(kn_53).1]; exact Nat.le_of_ble_eq_true rfl) (fun v h' hv => by
    obtain ⟨z, rfl, hp⟩ := hv
    exact ⟨by unfold am_rok; rw [(kn_53).2.2.2], k z h' hp⟩)
theorem kn_54 : am_ml 54 = 5 ∧ am_na 54 = 4 ∧ am_rc 54 = 6 ∧ am_rt 54 = some .long := by decide +kernel
theorem kv_54 {q : Nat} {x0 : Int32} {x1 : Int32} {x2 : Int32} {fs : List Value} (hr : h.2.2 q = some (.inr (6, fs))) {P : Int64 → am_H → Prop} (hm : am_mj xs L d 54 [.ref q, .int x0, .int x1, .int x2] h P) (hc : am_cats st ≤ 8) (k : ∀ z h', P z h' → am_w xs L (d + 1) y is l (.long z :: st) h' Q) : am_w xs L (d + 1) y ((62, 3, 54, 4, cc) :: is) l (.int x2 :: .int x1 :: .int x0 :: .ref q :: st) h Q :=
  wp_inv [.ref q, .int x0, .int x1, .int x2] st hm (Or.inr (Or.inl rfl)) rfl ⟨rfl, (kn_54).2.1.symm⟩ (by unfold am_may; rw [if_neg (by decide)]; show (if (62 : Nat) = 62 then (match h.2.2 q with | some (.inr (ci, _)) => ci == am_rc 54 | _ => false) else _) = true; rw [if_pos rfl, hr, (kn_54).2.2.1]; rfl) hc (by rw [(kn_54).1]; exact Nat.le_of_ble_eq_true rfl) (fun v h' hv => by
    obtain ⟨z, rfl, hp⟩ := hv
    exact ⟨by unfold am_rok; rw [(kn_54).2.2.2], k z h' hp⟩)
theorem kn_55 : am_ml 55 = 2 ∧ am_na 55 = 2 ∧ am_rc 55 = 6 ∧ am_rt 55 = some .boolean := by decide +kernel
theorem kv_55 {q : Nat} {x0 : Int32} {fs : List Value} (hr : h.2.2 q = some (.inr (6, fs))) {P : Bool → am_H → Prop} (hm : am_mb xs L d 55 [.ref q, .int x0] h P) (hc : am_cats st ≤ 8) (k : ∀ (z : Bool) h', P z h' → am_w xs L (d + 1) y is l (.int (if z = true then 1 else 0) :: st) h' Q) : am_w xs L (d + 1) y ((62, 3, 55, 2, cc) :: is) l (.int x0 :: .ref q :: st) h Q :=
  wp_inv [.ref q, .int x0] st hm (Or.inr (Or.inl rfl)) rfl ⟨rfl, (kn_55).2.1.symm⟩ (by unfold am_may; rw [if_neg (by decide)]; show (if (62 : Nat) = 62 then (match h.2.2 q with | some (.inr (ci, _)) => ci == am_rc 55 | _ => false) else _) = true; rw [if_pos rfl, hr, (kn_55).2.2.1]; rfl) hc (by rw [(kn_55).1]; exact Nat.le_of_ble_eq_true rfl) (fun v h' hv => by
    obtain ⟨z, rfl, hp⟩ := hv
    exact ⟨by unfold am_rok; rw [(kn_55).2.2.2]; cases z <;> rfl, k z h' hp⟩)
theorem kn_56 : am_ml 56 = 1 ∧ am_na 56 = 1 ∧ am_rc 56 = 6 ∧ am_rt 56 = some .int := by decide +kernel
theorem kv_56 {q : Nat} {fs : List Value} (hr : h.2.2 q = some (.inr (6, fs))) {P : Int32 → am_H → Prop} (hm : am_mi xs L d 56 [.ref q] h P) (hc : am_cats st ≤ 8) (k : ∀ z h', P z h' → am_w xs L (d + 1) y is l (.int z :: st) h' Q) : am_w xs L (d + 1) y ((62, 3, 56, 1, cc) :: is) l (.ref q :: st) h Q :=
  wp_inv [.ref q] st hm (Or.inr (Or.inl rfl)) rfl ⟨rfl, (kn_56).2.1.symm⟩ (by unfold am_may; rw [if_neg (by decide)]; show (if (62 : Nat) = 62 then (match h.2.2 q with | some (.inr (ci, _)) => ci == am_rc 56 | _ => false) else _) = true; rw [if_pos rfl, hr, (kn_56).2.2.1]; rfl) hc (by rw [(kn_56).1]; exact Nat.le_of_ble_eq_true rfl) (fun v h' hv => by
    obtain ⟨z, rfl, hp⟩ := hv
    exact ⟨by unfold am_rok; rw [(kn_56).2.2.2], k z h' hp⟩)
theorem kn_57 : am_ml 57 = 4 ∧ am_na 57 = 3 ∧ am_rc 57 = 6 ∧ am_rt 57 = some .long := by decide +kernel
theorem kv_57 {q : Nat} {x0 : Int32} {x1 : Int32} {fs : List Value} (hr : h.2.2 q = some (.inr (6, fs))) {P : Int64 → am_H → Prop} (hm : am_mj xs L d 57 [.ref q, .int x0, .int x1] h P) (hc : am_cats st ≤ 8) (k : ∀ z h', P z h' → am_w xs L (d + 1) y is l (.long z :: st) h' Q) : am_w xs L (d + 1) y ((62, 3, 57, 3, cc) :: is) l (.int x1 :: .int x0 :: .ref q :: st) h Q :=
  wp_inv [.ref q, .int x0, .int x1] st hm (Or.inr (Or.inl rfl)) rfl ⟨rfl, (kn_57).2.1.symm⟩ (by unfold am_may; rw [if_neg (by decide)]; show (if (62 : Nat) = 62 then (match h.2.2 q with | some (.inr (ci, _)) => ci == am_rc 57 | _ => false) else _) = true; rw [if_pos rfl, hr, (kn_57).2.2.1]; rfl) hc (by rw [(kn_57).1]; exact Nat.le_of_ble_eq_true rfl) (fun v h' hv => by
    obtain ⟨z, rfl, hp⟩ := hv
    exact ⟨by unfold am_rok; rw [(kn_57).2.2.2], k z h' hp⟩)
theorem kn_58 : am_ml 58 = 5 ∧ am_na 58 = 2 ∧ am_rc 58 = 6 ∧ am_rt 58 = some .int := by decide +kernel
theorem kv_58 {q : Nat} {x0 : Int32} {fs : List Value} (hr : h.2.2 q = some (.inr (6, fs))) {P : Int32 → am_H → Prop} (hm : am_mi xs L d 58 [.ref q, .int x0] h P) (hc : am_cats st ≤ 8) (k : ∀ z h', P z h' → am_w xs L (d + 1) y is l (.int z :: st) h' Q) : am_w xs L (d + 1) y ((62, 3, 58, 2, cc) :: is) l (.int x0 :: .ref q :: st) h Q :=
  wp_inv [.ref q, .int x0] st hm (Or.inr (Or.inl rfl)) rfl ⟨rfl, (kn_58).2.1.symm⟩ (by unfold am_may; rw [if_neg (by decide)]; show (if (62 : Nat) = 62 then (match h.2.2 q with | some (.inr (ci, _)) => ci == am_rc 58 | _ => false) else _) = true; rw [if_pos rfl, hr, (kn_58).2.2.1]; rfl) hc (by rw [(kn_58).1]; exact Nat.le_of_ble_eq_true rfl) (fun v h' hv => by
    obtain ⟨z, rfl, hp⟩ := hv
    exact ⟨by unfold am_rok; rw [(kn_58).2.2.2], k z h' hp⟩)
theorem kn_59 : am_ml 59 = 3 ∧ am_na 59 = 3 ∧ am_rc 59 = 6 ∧ am_rt 59 = some .int := by decide +kernel
theorem kv_59 {q : Nat} {x0 : Int32} {x1 : Int32} {fs : List Value} (hr : h.2.2 q = some (.inr (6, fs))) {P : Int32 → am_H → Prop} (hm : am_mi xs L d 59 [.ref q, .int x0, .int x1] h P) (hc : am_cats st ≤ 8) (k : ∀ z h', P z h' → am_w xs L (d + 1) y is l (.int z :: st) h' Q) : am_w xs L (d + 1) y ((62, 3, 59, 3, cc) :: is) l (.int x1 :: .int x0 :: .ref q :: st) h Q :=
  wp_inv [.ref q, .int x0, .int x1] st hm (Or.inr (Or.inl rfl)) rfl ⟨rfl, (kn_59).2.1.symm⟩ (by unfold am_may; rw [if_neg (by decide)]; show (if (62 : Nat) = 62 then (match h.2.2 q with | some (.inr (ci, _)) => ci == am_rc 59 | _ => false) else _) = true; rw [if_pos rfl, hr, (kn_59).2.2.1]; rfl) hc (by rw [(kn_59).1]; exact Nat.le_of_ble_eq_true rfl) (fun v h' hv => by
    obtain ⟨z, rfl, hp⟩ := hv
    exact ⟨by unfold am_rok; rw [(kn_59).2.2.2], k z h' hp⟩)
theorem kn_60 : am_ml 60 = 4 ∧ am_na 60 = 3 ∧ am_rc 60 = 6 ∧ am_rt 60 = some .int := by decide +kernel
theorem kv_60 {q : Nat} {x0 : Int32} {x1 : Int32} {fs : List Value} (hr : h.2.2 q = some (.inr (6, fs))) {P : Int32 → am_H → Prop} (hm : am_mi xs L d 60 [.ref q, .int x0, .int x1] h P) (hc : am_cats st ≤ 8) (k : ∀ z h', P z h' → am_w xs L (d + 1) y is l (.int z :: st) h' Q) : am_w xs L (d + 1) y ((62, 3, 60, 3, cc) :: is) l (.int x1 :: .int x0 :: .ref q :: st) h Q :=
  wp_inv [.ref q, .int x0, .int x1] st hm (Or.inr (Or.inl rfl)) rfl ⟨rfl, (kn_60).2.1.symm⟩ (by unfold am_may; rw [if_neg (by decide)]; show (if (62 : Nat) = 62 then (match h.2.2 q with | some (.inr (ci, _)) => ci == am_rc 60 | _ => false) else _) = true; rw [if_pos rfl, hr, (kn_60).2.2.1]; rfl) hc (by rw [(kn_60).1]; exact Nat.le_of_ble_eq_true rfl) (fun v h' hv => by
    obtain ⟨z, rfl, hp⟩ := hv
    exact ⟨by unfold am_rok; rw [(kn_60).2.2.2], k z h' hp⟩)
theorem kn_61 : am_ml 61 = 2 ∧ am_na 61 = 2 ∧ am_rc 61 = 6 ∧ am_rt 61 = some .boolean := by decide +kernel
theorem kv_61 {q : Nat} {x0 : Int32} {fs : List Value} (hr : h.2.2 q = some (.inr (6, fs))) {P : Bool → am_H → Prop} (hm : am_mb xs L d 61 [.ref q, .int x0] h P) (hc : am_cats st ≤ 8) (k : ∀ (z : Bool) h', P z h' → am_w xs L (d + 1) y is l (.int (if z = true then 1 else 0) :: st) h' Q) : am_w xs L (d + 1) y ((62, 3, 61, 2, cc) :: is) l (.int x0 :: .ref q :: st) h Q :=
  wp_inv [.ref q, .int x0] st hm (Or.inr (Or.inl rfl)) rfl ⟨rfl, (kn_61).2.1.symm⟩ (by unfold am_may; rw [if_neg (by decide)]; show (if (62 : Nat) = 62 then (match h.2.2 q with | some (.inr (ci, _)) => ci == am_rc 61 | _ => false) else _) = true; rw [if_pos rfl, hr, (kn_61).2.2.1]; rfl) hc (by rw [(kn_61).1]; exact Nat.le_of_ble_eq_true rfl) (fun v h' hv => by
    obtain ⟨z, rfl, hp⟩ := hv
    exact ⟨by unfold am_rok; rw [(kn_61).2.2.2]; cases z <;> rfl, k z h' hp⟩)
theorem kn_62 : am_ml 62 = 2 ∧ am_na 62 = 2 ∧ am_rc 62 = 6 ∧ am_rt 62 = some .boolean := by decide +kernel
theorem kv_62 {q : Nat} {x0 : Int32} {fs : List Value} (hr : h.2.2 q = some (.inr (6, fs))) {P : Bool → am_H → Prop} (hm : am_mb xs L d 62 [.ref q, .int x0] h P) (hc : am_cats st ≤ 8) (k : ∀ (z : Bool) h', P z h' → am_w xs L (d + 1) y is l (.int (if z = true then 1 else 0) :: st) h' Q) : am_w xs L (d + 1) y ((62, 3, 62, 2, cc) :: is) l (.int x0 :: .ref q :: st) h Q :=
  wp_inv [.ref q, .int x0] st hm (Or.inr (Or.inl rfl)) rfl ⟨rfl, (kn_62).2.1.symm⟩ (by unfold am_may; rw [if_neg (by decide)]; show (if (62 : Nat) = 62 then (match h.2.2 q with | some (.inr (ci, _)) => ci == am_rc 62 | _ => false) else _) = true; rw [if_pos rfl, hr, (kn_62).2.2.1]; rfl) hc (by rw [(kn_62).1]; exact Nat.le_of_ble_eq_true rfl) (fun v h' hv => by
    obtain ⟨z, rfl, hp⟩ := hv
    exact ⟨by unfold am_rok; rw [(kn_62).2.2.2]; cases z <;> rfl, k z h' hp⟩)
theorem kn_63 : am_ml 63 = 2 ∧ am_na 63 = 2 ∧ am_rc 63 = 6 ∧ am_rt 63 = some .boolean := by decide +kernel
theorem kv_63 {q : Nat} {x0 : Int32} {fs : List Value} (hr : h.2.2 q = some (.inr (6, fs))) {P : Bool → am_H → Prop} (hm : am_mb xs L d 63 [.ref q, .int x0] h P) (hc : am_cats st ≤ 8) (k : ∀ (z : Bool) h', P z h' → am_w xs L (d + 1) y is l (.int (if z = true then 1 else 0) :: st) h' Q) : am_w xs L (d + 1) y ((62, 3, 63, 2, cc) :: is) l (.int x0 :: .ref q :: st) h Q :=
  wp_inv [.ref q, .int x0] st hm (Or.inr (Or.inl rfl)) rfl ⟨rfl, (kn_63).2.1.symm⟩ (by unfold am_may; rw [if_neg (by decide)]; show (if (62 : Nat) = 62 then (match h.2.2 q with | some (.inr (ci, _)) => ci == am_rc 63 | _ => false) else _) = true; rw [if_pos rfl, hr, (kn_63).2.2.1]; rfl) hc (by rw [(kn_63).1]; exact Nat.le_of_ble_eq_true rfl) (fun v h' hv => by
    obtain ⟨z, rfl, hp⟩ := hv
    exact ⟨by unfold am_rok; rw [(kn_63).2.2.2]; cases z <;> rfl, k z h' hp⟩)
theorem kn_64 : am_ml 64 = 4 ∧ am_na 64 = 2 ∧ am_rc 64 = 6 ∧ am_rt 64 = some .int := by decide +kernel
theorem kv_64 {q : Nat} {x0 : Int32} {fs : List Value} (hr : h.2.2 q = some (.inr (6, fs))) {P : Int32 → am_H → Prop} (hm : am_mi xs L d 64 [.ref q, .int x0] h P) (hc : am_cats st ≤ 8) (k : ∀ z h', P z h' → am_w xs L (d + 1) y is l (.int z :: st) h' Q) : am_w xs L (d + 1) y ((62, 3, 64, 2, cc) :: is) l (.int x0 :: .ref q :: st) h Q :=
  wp_inv [.ref q, .int x0] st hm (Or.inr (Or.inl rfl)) rfl ⟨rfl, (kn_64).2.1.symm⟩ (by unfold am_may; rw [if_neg (by decide)]; show (if (62 : Nat) = 62 then (match h.2.2 q with | some (.inr (ci, _)) => ci == am_rc 64 | _ => false) else _) = true; rw [if_pos rfl, hr, (kn_64).2.2.1]; rfl) hc (by rw [(kn_64).1]; exact Nat.le_of_ble_eq_true rfl) (fun v h' hv => by
    obtain ⟨z, rfl, hp⟩ := hv
    exact ⟨by unfold am_rok; rw [(kn_64).2.2.2], k z h' hp⟩)
theorem kn_65 : am_ml 65 = 1 ∧ am_na 65 = 1 ∧ am_rc 65 = 6 ∧ am_rt 65 = some .boolean := by decide +kernel
theorem kv_65 {q : Nat} {fs : List Value} (hr : h.2.2 q = some (.inr (6, fs))) {P : Bool → am_H → Prop} (hm : am_mb xs L d 65 [.ref q] h P) (hc : am_cats st ≤ 8) (k : ∀ (z : Bool) h', P z h' → am_w xs L (d + 1) y is l (.int (if z = true then 1 else 0) :: st) h' Q) : am_w xs L (d + 1) y ((62, 3, 65, 1, cc) :: is) l (.ref q :: st) h Q :=
  wp_inv [.ref q] st hm (Or.inr (Or.inl rfl)) rfl ⟨rfl, (kn_65).2.1.symm⟩ (by unfold am_may; rw [if_neg (by decide)]; show (if (62 : Nat) = 62 then (match h.2.2 q with | some (.inr (ci, _)) => ci == am_rc 65 | _ => false) else _) = true; rw [if_pos rfl, hr, (kn_65).2.2.1]; rfl) hc (by rw [(kn_65).1]; exact Nat.le_of_ble_eq_true rfl) (fun v h' hv => by
    obtain ⟨z, rfl, hp⟩ := hv
    exact ⟨by unfold am_rok; rw [(kn_65).2.2.2]; cases z <;> rfl, k z h' hp⟩)
theorem kn_66 : am_ml 66 = 1 ∧ am_na 66 = 1 ∧ am_rc 66 = 6 ∧ am_rt 66 = some .int := by decide +kernel
theorem kv_66 {q : Nat} {fs : List Value} (hr : h.2.2 q = some (.inr (6, fs))) {P : Int32 → am_H → Prop} (hm : am_mi xs L d 66 [.ref q] h P) (hc : am_cats st ≤ 8) (k : ∀ z h', P z h' → am_w xs L (d + 1) y is l (.int z :: st) h' Q) : am_w xs L (d + 1) y ((62, 3, 66, 1, cc) :: is) l (.ref q :: st) h Q :=
  wp_inv [.ref q] st hm (Or.inr (Or.inl rfl)) rfl ⟨rfl, (kn_66).2.1.symm⟩ (by unfold am_may; rw [if_neg (by decide)]; show (if (62 : Nat) = 62 then (match h.2.2 q with | some (.inr (ci, _)) => ci == am_rc 66 | _ => false) else _) = true; rw [if_pos rfl, hr, (kn_66).2.2.1]; rfl) hc (by rw [(kn_66).1]; exact Nat.le_of_ble_eq_true rfl) (fun v h' hv => by
    obtain ⟨z, rfl, hp⟩ := hv
    exact ⟨by unfold am_rok; rw [(kn_66).2.2.2], k z h' hp⟩)
theorem kn_67 : am_ml 67 = 2 ∧ am_na 67 = 2 ∧ am_rc 67 = 6 ∧ am_rt 67 = some .boolean := by decide +kernel
theorem kv_67 {q : Nat} {x0 : Int32} {fs : List Value} (hr : h.2.2 q = some (.inr (6, fs))) {P : Bool → am_H → Prop} (hm : am_mb xs L d 67 [.ref q, .int x0] h P) (hc : am_cats st ≤ 8) (k : ∀ (z : Bool) h', P z h' → am_w xs L (d + 1) y is l (.int (if z = true then 1 else 0) :: st) h' Q) : am_w xs L (d + 1) y ((62, 3, 67, 2, cc) :: is) l (.int x0 :: .ref q :: st) h Q :=
  wp_inv [.ref q, .int x0] st hm (Or.inr (Or.inl rfl)) rfl ⟨rfl, (kn_67).2.1.symm⟩ (by unfold am_may; rw [if_neg (by decide)]; show (if (62 : Nat) = 62 then (match h.2.2 q with | some (.inr (ci, _)) => ci == am_rc 67 | _ => false) else _) = true; rw [if_pos rfl, hr, (kn_67).2.2.1]; rfl) hc (by rw [(kn_67).1]; exact Nat.le_of_ble_eq_true rfl) (fun v h' hv => by
    obtain ⟨z, rfl, hp⟩ := hv
    exact ⟨by unfold am_rok; rw [(kn_67).2.2.2]; cases z <;> rfl, k z h' hp⟩)
theorem kn_68 : am_ml 68 = 2 ∧ am_na 68 = 2 ∧ am_rc 68 = 6 ∧ am_rt 68 = some .int := by decide +kernel
theorem kv_68 {q : Nat} {x0 : Int32} {fs : List Value} (hr : h.2.2 q = some (.inr (6, fs))) {P : Int32 → am_H → Prop} (hm : am_mi xs L d 68 [.ref q, .int x0] h P) (hc : am_cats st ≤ 8) (k : ∀ z h', P z h' → am_w xs L (d + 1) y is l (.int z :: st) h' Q) : am_w xs L (d + 1) y ((62, 3, 68, 2, cc) :: is) l (.int x0 :: .ref q :: st) h Q :=
  wp_inv [.ref q, .int x0] st hm (Or.inr (Or.inl rfl)) rfl ⟨rfl, (kn_68).2.1.symm⟩ (by unfold am_may; rw [if_neg (by decide)]; show (if (62 : Nat) = 62 then (match h.2.2 q with | some (.inr (ci, _)) => ci == am_rc 68 | _ => false) else _) = true; rw [if_pos rfl, hr, (kn_68).2.2.1]; rfl) hc (by rw [(kn_68).1]; exact Nat.le_of_ble_eq_true rfl) (fun v h' hv => by
    obtain ⟨z, rfl, hp⟩ := hv
    exact ⟨by unfold am_rok; rw [(kn_68).2.2.2], k z h' hp⟩)
theorem kn_69 : am_ml 69 = 1 ∧ am_na 69 = 1 ∧ am_rc 69 = 6 ∧ am_rt 69 = some .int := by decide +kernel
theorem kv_69 {q : Nat} {fs : List Value} (hr : h.2.2 q = some (.inr (6, fs))) {P : Int32 → am_H → Prop} (hm : am_mi xs L d 69 [.ref q] h P) (hc : am_cats st ≤ 8) (k : ∀ z h', P z h' → am_w xs L (d + 1) y is l (.int z :: st) h' Q) : am_w xs L (d + 1) y ((62, 3, 69, 1, cc) :: is) l (.ref q :: st) h Q :=
  wp_inv [.ref q] st hm (Or.inr (Or.inl rfl)) rfl ⟨rfl, (kn_69).2.1.symm⟩ (by unfold am_may; rw [if_neg (by decide)]; show (if (62 : Nat) = 62 then (match h.2.2 q with | some (.inr (ci, _)) => ci == am_rc 69 | _ => false) else _) = true; rw [if_pos rfl, hr, (kn_69).2.2.1]; rfl) hc (by rw [(kn_69).1]; exact Nat.le_of_ble_eq_true rfl) (fun v h' hv => by
    obtain ⟨z, rfl, hp⟩ := hv
    exact ⟨by unfold am_rok; rw [(kn_69).2.2.2], k z h' hp⟩)
theorem kn_70 : am_ml 70 = 5 ∧ am_na 70 = 2 ∧ am_rc 70 = 6 ∧ am_rt 70 = some .int := by decide +kernel
theorem kv_70 {q : Nat} {x0 : Int32} {fs : List Value} (hr : h.2.2 q = some (.inr (6, fs))) {P : Int32 → am_H → Prop} (hm : am_mi xs L d 70 [.ref q, .int x0] h P) (hc : am_cats st ≤ 8) (k : ∀ z h', P z h' → am_w xs L (d + 1) y is l (.int z :: st) h' Q) : am_w xs L (d + 1) y ((62, 3, 70, 2, cc) :: is) l (.int x0 :: .ref q :: st) h Q :=
  wp_inv [.ref q, .int x0] st hm (Or.inr (Or.inl rfl)) rfl ⟨rfl, (kn_70).2.1.symm⟩ (by unfold am_may; rw [if_neg (by decide)]; show (if (62 : Nat) = 62 then (match h.2.2 q with | some (.inr (ci, _)) => ci == am_rc 70 | _ => false) else _) = true; rw [if_pos rfl, hr, (kn_70).2.2.1]; rfl) hc (by rw [(kn_70).1]; exact Nat.le_of_ble_eq_true rfl) (fun v h' hv => by
    obtain ⟨z, rfl, hp⟩ := hv
    exact ⟨by unfold am_rok; rw [(kn_70).2.2.2], k z h' hp⟩)
theorem kn_71 : am_ml 71 = 5 ∧ am_na 71 = 5 ∧ am_rc 71 = 99 ∧ am_rt 71 = some .int := by decide +kernel
theorem kv_71 {x0 : Nat} {x1 : Int32} {x2 : Int32} {x3 : Int32} {x4 : Int32} {P : Int32 → am_H → Prop} (hm : am_mi xs L d 71 [.ref x0, .int x1, .int x2, .int x3, .int x4] h P) (hc : am_cats st ≤ 8) (k : ∀ z h', P z h' → am_w xs L (d + 1) y is l (.int z :: st) h' Q) : am_w xs L (d + 1) y ((60, 3, 71, 5, cc) :: is) l (.int x4 :: .int x3 :: .int x2 :: .int x1 :: .ref x0 :: st) h Q :=
  wp_inv [.ref x0, .int x1, .int x2, .int x3, .int x4] st hm (Or.inl rfl) rfl ⟨rfl, (kn_71).2.1.symm⟩ (by unfold am_may; rw [if_pos rfl, (kn_71).2.2.1]; rfl) hc (by rw [(kn_71).1]; exact Nat.le_of_ble_eq_true rfl) (fun v h' hv => by
    obtain ⟨z, rfl, hp⟩ := hv
    exact ⟨by unfold am_rok; rw [(kn_71).2.2.2], k z h' hp⟩)
theorem kn_72 : am_ml 72 = 8 ∧ am_na 72 = 6 ∧ am_rc 72 = 99 ∧ am_rt 72 = some .int := by decide +kernel
theorem kv_72 {x0 : Nat} {x1 : Int32} {x2 : Int32} {x3 : Int32} {x4 : Int32} {x5 : Int32} {P : Int32 → am_H → Prop} (hm : am_mi xs L d 72 [.ref x0, .int x1, .int x2, .int x3, .int x4, .int x5] h P) (hc : am_cats st ≤ 8) (k : ∀ z h', P z h' → am_w xs L (d + 1) y is l (.int z :: st) h' Q) : am_w xs L (d + 1) y ((60, 3, 72, 6, cc) :: is) l (.int x5 :: .int x4 :: .int x3 :: .int x2 :: .int x1 :: .ref x0 :: st) h Q :=
  wp_inv [.ref x0, .int x1, .int x2, .int x3, .int x4, .int x5] st hm (Or.inl rfl) rfl ⟨rfl, (kn_72).2.1.symm⟩ (by unfold am_may; rw [if_pos rfl, (kn_72).2.2.1]; rfl) hc (by rw [(kn_72).1]; exact Nat.le_of_ble_eq_true rfl) (fun v h' hv => by
    obtain ⟨z, rfl, hp⟩ := hv
    exact ⟨by unfold am_rok; rw [(kn_72).2.2.2], k z h' hp⟩)
theorem kn_73 : am_ml 73 = 4 ∧ am_na 73 = 2 ∧ am_rc 73 = 99 ∧ am_rt 73 = some .int := by decide +kernel
theorem kv_73 {x0 : Int32} {x1 : Int32} {P : Int32 → am_H → Prop} (hm : am_mi xs L d 73 [.int x0, .int x1] h P) (hc : am_cats st ≤ 8) (k : ∀ z h', P z h' → am_w xs L (d + 1) y is l (.int z :: st) h' Q) : am_w xs L (d + 1) y ((60, 3, 73, 2, cc) :: is) l (.int x1 :: .int x0 :: st) h Q :=
  wp_inv [.int x0, .int x1] st hm (Or.inl rfl) rfl ⟨rfl, (kn_73).2.1.symm⟩ (by unfold am_may; rw [if_pos rfl, (kn_73).2.2.1]; rfl) hc (by rw [(kn_73).1]; exact Nat.le_of_ble_eq_true rfl) (fun v h' hv => by
    obtain ⟨z, rfl, hp⟩ := hv
    exact ⟨by unfold am_rok; rw [(kn_73).2.2.2], k z h' hp⟩)
theorem kn_74 : am_ml 74 = 4 ∧ am_na 74 = 3 ∧ am_rc 74 = 99 ∧ am_rt 74 = some .long := by decide +kernel
theorem kv_74 {x0 : Int32} {x1 : Int32} {x2 : Int32} {P : Int64 → am_H → Prop} (hm : am_mj xs L d 74 [.int x0, .int x1, .int x2] h P) (hc : am_cats st ≤ 8) (k : ∀ z h', P z h' → am_w xs L (d + 1) y is l (.long z :: st) h' Q) : am_w xs L (d + 1) y ((60, 3, 74, 3, cc) :: is) l (.int x2 :: .int x1 :: .int x0 :: st) h Q :=
  wp_inv [.int x0, .int x1, .int x2] st hm (Or.inl rfl) rfl ⟨rfl, (kn_74).2.1.symm⟩ (by unfold am_may; rw [if_pos rfl, (kn_74).2.2.1]; rfl) hc (by rw [(kn_74).1]; exact Nat.le_of_ble_eq_true rfl) (fun v h' hv => by
    obtain ⟨z, rfl, hp⟩ := hv
    exact ⟨by unfold am_rok; rw [(kn_74).2.2.2], k z h' hp⟩)
theorem kn_75 : am_ml 75 = 6 ∧ am_na 75 = 2 ∧ am_rc 75 = 99 ∧ am_rt 75 = some .int := by decide +kernel
theorem kv_75 {x0 : Int32} {x1 : Int32} {P : Int32 → am_H → Prop} (hm : am_mi xs L d 75 [.int x0, .int x1] h P) (hc : am_cats st ≤ 8) (k : ∀ z h', P z h' → am_w xs L (d + 1) y is l (.int z :: st) h' Q) : am_w xs L (d + 1) y ((60, 3, 75, 2, cc) :: is) l (.int x1 :: .int x0 :: st) h Q :=
  wp_inv [.int x0, .int x1] st hm (Or.inl rfl) rfl ⟨rfl, (kn_75).2.1.symm⟩ (by unfold am_may; rw [if_pos rfl, (kn_75).2.2.1]; rfl) hc (by rw [(kn_75).1]; exact Nat.le_of_ble_eq_true rfl) (fun v h' hv => by
    obtain ⟨z, rfl, hp⟩ := hv
    exact ⟨by unfold am_rok; rw [(kn_75).2.2.2], k z h' hp⟩)
theorem kn_76 : am_ml 76 = 1 ∧ am_na 76 = 1 ∧ am_rc 76 = 99 ∧ am_rt 76 = some .boolean := by decide +kernel
theorem kv_76 {x0 : Int32} {P : Bool → am_H → Prop} (hm : am_mb xs L d 76 [.int x0] h P) (hc : am_cats st ≤ 8) (k : ∀ (z : Bool) h', P z h' → am_w xs L (d + 1) y is l (.int (if z = true then 1 else 0) :: st) h' Q) : am_w xs L (d + 1) y ((60, 3, 76, 1, cc) :: is) l (.int x0 :: st) h Q :=
  wp_inv [.int x0] st hm (Or.inl rfl) rfl ⟨rfl, (kn_76).2.1.symm⟩ (by unfold am_may; rw [if_pos rfl, (kn_76).2.2.1]; rfl) hc (by rw [(kn_76).1]; exact Nat.le_of_ble_eq_true rfl) (fun v h' hv => by
    obtain ⟨z, rfl, hp⟩ := hv
    exact ⟨by unfold am_rok; rw [(kn_76).2.2.2]; cases z <;> rfl, k z h' hp⟩)
theorem kn_77 : am_ml 77 = 1 ∧ am_na 77 = 1 ∧ am_rc 77 = 99 ∧ am_rt 77 = some .int := by decide +kernel
theorem kv_77 {x0 : Int32} {P : Int32 → am_H → Prop} (hm : am_mi xs L d 77 [.int x0] h P) (hc : am_cats st ≤ 8) (k : ∀ z h', P z h' → am_w xs L (d + 1) y is l (.int z :: st) h' Q) : am_w xs L (d + 1) y ((60, 3, 77, 1, cc) :: is) l (.int x0 :: st) h Q :=
  wp_inv [.int x0] st hm (Or.inl rfl) rfl ⟨rfl, (kn_77).2.1.symm⟩ (by unfold am_may; rw [if_pos rfl, (kn_77).2.2.1]; rfl) hc (by rw [(kn_77).1]; exact Nat.le_of_ble_eq_true rfl) (fun v h' hv => by
    obtain ⟨z, rfl, hp⟩ := hv
    exact ⟨by unfold am_rok; rw [(kn_77).2.2.2], k z h' hp⟩)
theorem kn_78 : am_ml 78 = 5 ∧ am_na 78 = 2 ∧ am_rc 78 = 99 ∧ am_rt 78 = some .int := by decide +kernel
theorem kv_78 {x0 : Int32} {x1 : Int32} {P : Int32 → am_H → Prop} (hm : am_mi xs L d 78 [.int x0, .int x1] h P) (hc : am_cats st ≤ 8) (k : ∀ z h', P z h' → am_w xs L (d + 1) y is l (.int z :: st) h' Q) : am_w xs L (d + 1) y ((60, 3, 78, 2, cc) :: is) l (.int x1 :: .int x0 :: st) h Q :=
  wp_inv [.int x0, .int x1] st hm (Or.inl rfl) rfl ⟨rfl, (kn_78).2.1.symm⟩ (by unfold am_may; rw [if_pos rfl, (kn_78).2.2.1]; rfl) hc (by rw [(kn_78).1]; exact Nat.le_of_ble_eq_true rfl) (fun v h' hv => by
    obtain ⟨z, rfl, hp⟩ := hv
    exact ⟨by unfold am_rok; rw [(kn_78).2.2.2], k z h' hp⟩)
theorem kn_79 : am_ml 79 = 6 ∧ am_na 79 = 3 ∧ am_rc 79 = 99 ∧ am_rt 79 = some .int := by decide +kernel
theorem kv_79 {x0 : Int32} {x1 : Int32} {x2 : Int32} {P : Int32 → am_H → Prop} (hm : am_mi xs L d 79 [.int x0, .int x1, .int x2] h P) (hc : am_cats st ≤ 8) (k : ∀ z h', P z h' → am_w xs L (d + 1) y is l (.int z :: st) h' Q) : am_w xs L (d + 1) y ((60, 3, 79, 3, cc) :: is) l (.int x2 :: .int x1 :: .int x0 :: st) h Q :=
  wp_inv [.int x0, .int x1, .int x2] st hm (Or.inl rfl) rfl ⟨rfl, (kn_79).2.1.symm⟩ (by unfold am_may; rw [if_pos rfl, (kn_79).2.2.1]; rfl) hc (by rw [(kn_79).1]; exact Nat.le_of_ble_eq_true rfl) (fun v h' hv => by
    obtain ⟨z, rfl, hp⟩ := hv
    exact ⟨by unfold am_rok; rw [(kn_79).2.2.2], k z h' hp⟩)
theorem kn_80 : am_ml 80 = 3 ∧ am_na 80 = 1 ∧ am_rc 80 = 99 ∧ am_rt 80 = some .int := by decide +kernel
theorem kv_80 {x0 : Nat} {P : Int32 → am_H → Prop} (hm : am_mi xs L d 80 [.ref x0] h P) (hc : am_cats st ≤ 8) (k : ∀ z h', P z h' → am_w xs L (d + 1) y is l (.int z :: st) h' Q) : am_w xs L (d + 1) y ((60, 3, 80, 1, cc) :: is) l (.ref x0 :: st) h Q :=
  wp_inv [.ref x0] st hm (Or.inl rfl) rfl ⟨rfl, (kn_80).2.1.symm⟩ (by unfold am_may; rw [if_pos rfl, (kn_80).2.2.1]; rfl) hc (by rw [(kn_80).1]; exact Nat.le_of_ble_eq_true rfl) (fun v h' hv => by
    obtain ⟨z, rfl, hp⟩ := hv
    exact ⟨by unfold am_rok; rw [(kn_80).2.2.2], k z h' hp⟩)
theorem kn_81 : am_ml 81 = 5 ∧ am_na 81 = 1 ∧ am_rc 81 = 99 ∧ am_rt 81 = some .int := by decide +kernel
theorem kv_81 {x0 : Nat} {P : Int32 → am_H → Prop} (hm : am_mi xs L d 81 [.ref x0] h P) (hc : am_cats st ≤ 8) (k : ∀ z h', P z h' → am_w xs L (d + 1) y is l (.int z :: st) h' Q) : am_w xs L (d + 1) y ((60, 3, 81, 1, cc) :: is) l (.ref x0 :: st) h Q :=
  wp_inv [.ref x0] st hm (Or.inl rfl) rfl ⟨rfl, (kn_81).2.1.symm⟩ (by unfold am_may; rw [if_pos rfl, (kn_81).2.2.1]; rfl) hc (by rw [(kn_81).1]; exact Nat.le_of_ble_eq_true rfl) (fun v h' hv => by
    obtain ⟨z, rfl, hp⟩ := hv
    exact ⟨by unfold am_rok; rw [(kn_81).2.2.2], k z h' hp⟩)
theorem kn_82 : am_ml 82 = 4 ∧ am_na 82 = 2 ∧ am_rc 82 = 99 ∧ am_rt 82 = some .int := by decide +kernel
theorem kv_82 {x0 : Nat} {x1 : Int32} {P : Int32 → am_H → Prop} (hm : am_mi xs L d 82 [.ref x0, .int x1] h P) (hc : am_cats st ≤ 8) (k : ∀ z h', P z h' → am_w xs L (d + 1) y is l (.int z :: st) h' Q) : am_w xs L (d + 1) y ((60, 3, 82, 2, cc) :: is) l (.int x1 :: .ref x0 :: st) h Q :=
  wp_inv [.ref x0, .int x1] st hm (Or.inl rfl) rfl ⟨rfl, (kn_82).2.1.symm⟩ (by unfold am_may; rw [if_pos rfl, (kn_82).2.2.1]; rfl) hc (by rw [(kn_82).1]; exact Nat.le_of_ble_eq_true rfl) (fun v h' hv => by
    obtain ⟨z, rfl, hp⟩ := hv
    exact ⟨by unfold am_rok; rw [(kn_82).2.2.2], k z h' hp⟩)
theorem kn_83 : am_ml 83 = 3 ∧ am_na 83 = 2 ∧ am_rc 83 = 99 ∧ am_rt 83 = some .int := by decide +kernel
theorem kv_83 {x0 : Nat} {x1 : Int32} {P : Int32 → am_H → Prop} (hm : am_mi xs L d 83 [.ref x0, .int x1] h P) (hc : am_cats st ≤ 8) (k : ∀ z h', P z h' → am_w xs L (d + 1) y is l (.int z :: st) h' Q) : am_w xs L (d + 1) y ((60, 3, 83, 2, cc) :: is) l (.int x1 :: .ref x0 :: st) h Q :=
  wp_inv [.ref x0, .int x1] st hm (Or.inl rfl) rfl ⟨rfl, (kn_83).2.1.symm⟩ (by unfold am_may; rw [if_pos rfl, (kn_83).2.2.1]; rfl) hc (by rw [(kn_83).1]; exact Nat.le_of_ble_eq_true rfl) (fun v h' hv => by
    obtain ⟨z, rfl, hp⟩ := hv
    exact ⟨by unfold am_rok; rw [(kn_83).2.2.2], k z h' hp⟩)
theorem kn_84 : am_ml 84 = 1 ∧ am_na 84 = 1 ∧ am_rc 84 = 0 ∧ am_rt 84 = none := by decide +kernel
theorem kv_84 {q : Nat} {P : am_H → Prop} (hm : am_mv xs L d 84 [.ref q] h P) (hc : am_cats st ≤ 8) (k : ∀ h', P h' → am_w xs L (d + 1) y is l st h' Q) : am_w xs L (d + 1) y ((63, 3, 84, 1, cc) :: is) l (.ref q :: st) h Q :=
  wp_inv [.ref q] st hm (Or.inr (Or.inr rfl)) rfl ⟨rfl, (kn_84).2.1.symm⟩ (by unfold am_may; rw [if_neg (by decide)]; show (if (63 : Nat) = 62 then _ else (am_rc 84 != 99)) = true; rw [if_neg (by decide), (kn_84).2.2.1]; rfl) hc (by rw [(kn_84).1]; exact Nat.le_of_ble_eq_true rfl) (fun v h' hv => by
    obtain ⟨rfl, hp⟩ := hv
    exact ⟨by unfold am_rok; rw [(kn_84).2.2.2], k h' hp⟩)
theorem kn_85 : am_ml 85 = 1 ∧ am_na 85 = 1 ∧ am_rc 85 = 0 ∧ am_rt 85 = none := by decide +kernel
theorem kv_85 {q : Nat} {fs : List Value} (hr : h.2.2 q = some (.inr (0, fs))) {P : am_H → Prop} (hm : am_mv xs L d 85 [.ref q] h P) (hc : am_cats st ≤ 8) (k : ∀ h', P h' → am_w xs L (d + 1) y is l st h' Q) : am_w xs L (d + 1) y ((62, 3, 85, 1, cc) :: is) l (.ref q :: st) h Q :=
  wp_inv [.ref q] st hm (Or.inr (Or.inl rfl)) rfl ⟨rfl, (kn_85).2.1.symm⟩ (by unfold am_may; rw [if_neg (by decide)]; show (if (62 : Nat) = 62 then (match h.2.2 q with | some (.inr (ci, _)) => ci == am_rc 85 | _ => false) else _) = true; rw [if_pos rfl, hr, (kn_85).2.2.1]; rfl) hc (by rw [(kn_85).1]; exact Nat.le_of_ble_eq_true rfl) (fun v h' hv => by
    obtain ⟨rfl, hp⟩ := hv
    exact ⟨by unfold am_rok; rw [(kn_85).2.2.2], k h' hp⟩)
theorem kn_86 : am_ml 86 = 5 ∧ am_na 86 = 3 ∧ am_rc 86 = 0 ∧ am_rt 86 = none := by decide +kernel
theorem kv_86 {q : Nat} {x0 : Nat} {x1 : Int32} {fs : List Value} (hr : h.2.2 q = some (.inr (0, fs))) {P : am_H → Prop} (hm : am_mv xs L d 86 [.ref q, .ref x0, .int x1] h P) (hc : am_cats st ≤ 8) (k : ∀ h', P h' → am_w xs L (d + 1) y is l st h' Q) : am_w xs L (d + 1) y ((62, 3, 86, 3, cc) :: is) l (.int x1 :: .ref x0 :: .ref q :: st) h Q :=
  wp_inv [.ref q, .ref x0, .int x1] st hm (Or.inr (Or.inl rfl)) rfl ⟨rfl, (kn_86).2.1.symm⟩ (by unfold am_may; rw [if_neg (by decide)]; show (if (62 : Nat) = 62 then (match h.2.2 q with | some (.inr (ci, _)) => ci == am_rc 86 | _ => false) else _) = true; rw [if_pos rfl, hr, (kn_86).2.2.1]; rfl) hc (by rw [(kn_86).1]; exact Nat.le_of_ble_eq_true rfl) (fun v h' hv => by
    obtain ⟨rfl, hp⟩ := hv
    exact ⟨by unfold am_rok; rw [(kn_86).2.2.2], k h' hp⟩)
theorem kn_87 : am_ml 87 = 3 ∧ am_na 87 = 3 ∧ am_rc 87 = 0 ∧ am_rt 87 = some .boolean := by decide +kernel
theorem kv_87 {q : Nat} {x0 : Int32} {x1 : Int32} {fs : List Value} (hr : h.2.2 q = some (.inr (0, fs))) {P : Bool → am_H → Prop} (hm : am_mb xs L d 87 [.ref q, .int x0, .int x1] h P) (hc : am_cats st ≤ 8) (k : ∀ (z : Bool) h', P z h' → am_w xs L (d + 1) y is l (.int (if z = true then 1 else 0) :: st) h' Q) : am_w xs L (d + 1) y ((62, 3, 87, 3, cc) :: is) l (.int x1 :: .int x0 :: .ref q :: st) h Q :=
  wp_inv [.ref q, .int x0, .int x1] st hm (Or.inr (Or.inl rfl)) rfl ⟨rfl, (kn_87).2.1.symm⟩ (by unfold am_may; rw [if_neg (by decide)]; show (if (62 : Nat) = 62 then (match h.2.2 q with | some (.inr (ci, _)) => ci == am_rc 87 | _ => false) else _) = true; rw [if_pos rfl, hr, (kn_87).2.2.1]; rfl) hc (by rw [(kn_87).1]; exact Nat.le_of_ble_eq_true rfl) (fun v h' hv => by
    obtain ⟨z, rfl, hp⟩ := hv
    exact ⟨by unfold am_rok; rw [(kn_87).2.2.2]; cases z <;> rfl, k z h' hp⟩)
theorem kn_88 : am_ml 88 = 2 ∧ am_na 88 = 1 ∧ am_rc 88 = 0 ∧ am_rt 88 = none := by decide +kernel
theorem kv_88 {q : Nat} {fs : List Value} (hr : h.2.2 q = some (.inr (0, fs))) {P : am_H → Prop} (hm : am_mv xs L d 88 [.ref q] h P) (hc : am_cats st ≤ 8) (k : ∀ h', P h' → am_w xs L (d + 1) y is l st h' Q) : am_w xs L (d + 1) y ((62, 3, 88, 1, cc) :: is) l (.ref q :: st) h Q :=
  wp_inv [.ref q] st hm (Or.inr (Or.inl rfl)) rfl ⟨rfl, (kn_88).2.1.symm⟩ (by unfold am_may; rw [if_neg (by decide)]; show (if (62 : Nat) = 62 then (match h.2.2 q with | some (.inr (ci, _)) => ci == am_rc 88 | _ => false) else _) = true; rw [if_pos rfl, hr, (kn_88).2.2.1]; rfl) hc (by rw [(kn_88).1]; exact Nat.le_of_ble_eq_true rfl) (fun v h' hv => by
    obtain ⟨rfl, hp⟩ := hv
    exact ⟨by unfold am_rok; rw [(kn_88).2.2.2], k h' hp⟩)
theorem kn_89 : am_ml 89 = 5 ∧ am_na 89 = 2 ∧ am_rc 89 = 0 ∧ am_rt 89 = some .int := by decide +kernel
theorem kv_89 {q : Nat} {x0 : Int32} {fs : List Value} (hr : h.2.2 q = some (.inr (0, fs))) {P : Int32 → am_H → Prop} (hm : am_mi xs L d 89 [.ref q, .int x0] h P) (hc : am_cats st ≤ 8) (k : ∀ z h', P z h' → am_w xs L (d + 1) y is l (.int z :: st) h' Q) : am_w xs L (d + 1) y ((62, 3, 89, 2, cc) :: is) l (.int x0 :: .ref q :: st) h Q :=
  wp_inv [.ref q, .int x0] st hm (Or.inr (Or.inl rfl)) rfl ⟨rfl, (kn_89).2.1.symm⟩ (by unfold am_may; rw [if_neg (by decide)]; show (if (62 : Nat) = 62 then (match h.2.2 q with | some (.inr (ci, _)) => ci == am_rc 89 | _ => false) else _) = true; rw [if_pos rfl, hr, (kn_89).2.2.1]; rfl) hc (by rw [(kn_89).1]; exact Nat.le_of_ble_eq_true rfl) (fun v h' hv => by
    obtain ⟨z, rfl, hp⟩ := hv
    exact ⟨by unfold am_rok; rw [(kn_89).2.2.2], k z h' hp⟩)
theorem kn_90 : am_ml 90 = 5 ∧ am_na 90 = 3 ∧ am_rc 90 = 0 ∧ am_rt 90 = some .int := by decide +kernel
theorem kv_90 {q : Nat} {x0 : Int32} {x1 : Int32} {fs : List Value} (hr : h.2.2 q = some (.inr (0, fs))) {P : Int32 → am_H → Prop} (hm : am_mi xs L d 90 [.ref q, .int x0, .int x1] h P) (hc : am_cats st ≤ 8) (k : ∀ z h', P z h' → am_w xs L (d + 1) y is l (.int z :: st) h' Q) : am_w xs L (d + 1) y ((62, 3, 90, 3, cc) :: is) l (.int x1 :: .int x0 :: .ref q :: st) h Q :=
  wp_inv [.ref q, .int x0, .int x1] st hm (Or.inr (Or.inl rfl)) rfl ⟨rfl, (kn_90).2.1.symm⟩ (by unfold am_may; rw [if_neg (by decide)]; show (if (62 : Nat) = 62 then (match h.2.2 q with | some (.inr (ci, _)) => ci == am_rc 90 | _ => false) else _) = true; rw [if_pos rfl, hr, (kn_90).2.2.1]; rfl) hc (by rw [(kn_90).1]; exact Nat.le_of_ble_eq_true rfl) (fun v h' hv => by
    obtain ⟨z, rfl, hp⟩ := hv
    exact ⟨by unfold am_rok; rw [(kn_90).2.2.2], k z h' hp⟩)
theorem kn_91 : am_ml 91 = 4 ∧ am_na 91 = 3 ∧ am_rc 91 = 0 ∧ am_rt 91 = some .int := by decide +kernel
theorem kv_91 {q : Nat} {x0 : Int32} {x1 : Int32} {fs : List Value} (hr : h.2.2 q = some (.inr (0, fs))) {P : Int32 → am_H → Prop} (hm : am_mi xs L d 91 [.ref q, .int x0, .int x1] h P) (hc : am_cats st ≤ 8) (k : ∀ z h', P z h' → am_w xs L (d + 1) y is l (.int z :: st) h' Q) : am_w xs L (d + 1) y ((62, 3, 91, 3, cc) :: is) l (.int x1 :: .int x0 :: .ref q :: st) h Q :=
  wp_inv [.ref q, .int x0, .int x1] st hm (Or.inr (Or.inl rfl)) rfl ⟨rfl, (kn_91).2.1.symm⟩ (by unfold am_may; rw [if_neg (by decide)]; show (if (62 : Nat) = 62 then (match h.2.2 q with | some (.inr (ci, _)) => ci == am_rc 91 | _ => false) else _) = true; rw [if_pos rfl, hr, (kn_91).2.2.1]; rfl) hc (by rw [(kn_91).1]; exact Nat.le_of_ble_eq_true rfl) (fun v h' hv => by
    obtain ⟨z, rfl, hp⟩ := hv
    exact ⟨by unfold am_rok; rw [(kn_91).2.2.2], k z h' hp⟩)
theorem kn_92 : am_ml 92 = 2 ∧ am_na 92 = 2 ∧ am_rc 92 = 0 ∧ am_rt 92 = some .int := by decide +kernel
theorem kv_92 {q : Nat} {x0 : Int32} {fs : List Value} (hr : h.2.2 q = some (.inr (0, fs))) {P : Int32 → am_H → Prop} (hm : am_mi xs L d 92 [.ref q, .int x0] h P) (hc : am_cats st ≤ 8) (k : ∀ z h', P z h' → am_w xs L (d + 1) y is l (.int z :: st) h' Q) : am_w xs L (d + 1) y ((62, 3, 92, 2, cc) :: is) l (.int x0 :: .ref q :: st) h Q :=
  wp_inv [.ref q, .int x0] st hm (Or.inr (Or.inl rfl)) rfl ⟨rfl, (kn_92).2.1.symm⟩ (by unfold am_may; rw [if_neg (by decide)]; show (if (62 : Nat) = 62 then (match h.2.2 q with | some (.inr (ci, _)) => ci == am_rc 92 | _ => false) else _) = true; rw [if_pos rfl, hr, (kn_92).2.2.1]; rfl) hc (by rw [(kn_92).1]; exact Nat.le_of_ble_eq_true rfl) (fun v h' hv => by
    obtain ⟨z, rfl, hp⟩ := hv
    exact ⟨by unfold am_rok; rw [(kn_92).2.2.2], k z h' hp⟩)
theorem kn_93 : am_ml 93 = 1 ∧ am_na 93 = 1 ∧ am_rc 93 = 0 ∧ am_rt 93 = some .int := by decide +kernel
theorem kv_93 {q : Nat} {fs : List Value} (hr : h.2.2 q = some (.inr (0, fs))) {P : Int32 → am_H → Prop} (hm : am_mi xs L d 93 [.ref q] h P) (hc : am_cats st ≤ 8) (k : ∀ z h', P z h' → am_w xs L (d + 1) y is l (.int z :: st) h' Q) : am_w xs L (d + 1) y ((62, 3, 93, 1, cc) :: is) l (.ref q :: st) h Q :=
  wp_inv [.ref q] st hm (Or.inr (Or.inl rfl)) rfl ⟨rfl, (kn_93).2.1.symm⟩ (by unfold am_may; rw [if_neg (by decide)]; show (if (62 : Nat) = 62 then (match h.2.2 q with | some (.inr (ci, _)) => ci == am_rc 93 | _ => false) else _) = true; rw [if_pos rfl, hr, (kn_93).2.2.1]; rfl) hc (by rw [(kn_93).1]; exact Nat.le_of_ble_eq_true rfl) (fun v h' hv => by
    obtain ⟨z, rfl, hp⟩ := hv
    exact ⟨by unfold am_rok; rw [(kn_93).2.2.2], k z h' hp⟩)
theorem kn_94 : am_ml 94 = 3 ∧ am_na 94 = 1 ∧ am_rc 94 = 0 ∧ am_rt 94 = some .int := by decide +kernel
theorem kv_94 {q : Nat} {fs : List Value} (hr : h.2.2 q = some (.inr (0, fs))) {P : Int32 → am_H → Prop} (hm : am_mi xs L d 94 [.ref q] h P) (hc : am_cats st ≤ 8) (k : ∀ z h', P z h' → am_w xs L (d + 1) y is l (.int z :: st) h' Q) : am_w xs L (d + 1) y ((62, 3, 94, 1, cc) :: is) l (.ref q :: st) h Q :=
  wp_inv [.ref q] st hm (Or.inr (Or.inl rfl)) rfl ⟨rfl, (kn_94).2.1.symm⟩ (by unfold am_may; rw [if_neg (by decide)]; show (if (62 : Nat) = 62 then (match h.2.2 q with | some (.inr (ci, _)) => ci == am_rc 94 | _ => false) else _) = true; rw [if_pos rfl, hr, (kn_94).2.2.1]; rfl) hc (by rw [(kn_94).1]; exact Nat.le_of_ble_eq_true rfl) (fun v h' hv => by
    obtain ⟨z, rfl, hp⟩ := hv
    exact ⟨by unfold am_rok; rw [(kn_94).2.2.2], k z h' hp⟩)
theorem kn_95 : am_ml 95 = 5 ∧ am_na 95 = 2 ∧ am_rc 95 = 0 ∧ am_rt 95 = some .int := by decide +kernel
theorem kv_95 {q : Nat} {x0 : Int32} {fs : List Value} (hr : h.2.2 q = some (.inr (0, fs))) {P : Int32 → am_H → Prop} (hm : am_mi xs L d 95 [.ref q, .int x0] h P) (hc : am_cats st ≤ 8) (k : ∀ z h', P z h' → am_w xs L (d + 1) y is l (.int z :: st) h' Q) : am_w xs L (d + 1) y ((62, 3, 95, 2, cc) :: is) l (.int x0 :: .ref q :: st) h Q :=
  wp_inv [.ref q, .int x0] st hm (Or.inr (Or.inl rfl)) rfl ⟨rfl, (kn_95).2.1.symm⟩ (by unfold am_may; rw [if_neg (by decide)]; show (if (62 : Nat) = 62 then (match h.2.2 q with | some (.inr (ci, _)) => ci == am_rc 95 | _ => false) else _) = true; rw [if_pos rfl, hr, (kn_95).2.2.1]; rfl) hc (by rw [(kn_95).1]; exact Nat.le_of_ble_eq_true rfl) (fun v h' hv => by
    obtain ⟨z, rfl, hp⟩ := hv
    exact ⟨by unfold am_rok; rw [(kn_95).2.2.2], k z h' hp⟩)
theorem kn_96 : am_ml 96 = 8 ∧ am_na 96 = 4 ∧ am_rc 96 = 99 ∧ am_rt 96 = some .int := by decide +kernel
theorem kv_96 {x0 : Nat} {x1 : Int32} {x2 : Int32} {x3 : Int32} {P : Int32 → am_H → Prop} (hm : am_mi xs L d 96 [.ref x0, .int x1, .int x2, .int x3] h P) (hc : am_cats st ≤ 8) (k : ∀ z h', P z h' → am_w xs L (d + 1) y is l (.int z :: st) h' Q) : am_w xs L (d + 1) y ((60, 3, 96, 4, cc) :: is) l (.int x3 :: .int x2 :: .int x1 :: .ref x0 :: st) h Q :=
  wp_inv [.ref x0, .int x1, .int x2, .int x3] st hm (Or.inl rfl) rfl ⟨rfl, (kn_96).2.1.symm⟩ (by unfold am_may; rw [if_pos rfl, (kn_96).2.2.1]; rfl) hc (by rw [(kn_96).1]; exact Nat.le_of_ble_eq_true rfl) (fun v h' hv => by
    obtain ⟨z, rfl, hp⟩ := hv
    exact ⟨by unfold am_rok; rw [(kn_96).2.2.2], k z h' hp⟩)
theorem kn_97 : am_ml 97 = 5 ∧ am_na 97 = 3 ∧ am_rc 97 = 99 ∧ am_rt 97 = some .int := by decide +kernel
theorem kv_97 {x0 : Nat} {x1 : Int32} {x2 : Int32} {P : Int32 → am_H → Prop} (hm : am_mi xs L d 97 [.ref x0, .int x1, .int x2] h P) (hc : am_cats st ≤ 8) (k : ∀ z h', P z h' → am_w xs L (d + 1) y is l (.int z :: st) h' Q) : am_w xs L (d + 1) y ((60, 3, 97, 3, cc) :: is) l (.int x2 :: .int x1 :: .ref x0 :: st) h Q :=
  wp_inv [.ref x0, .int x1, .int x2] st hm (Or.inl rfl) rfl ⟨rfl, (kn_97).2.1.symm⟩ (by unfold am_may; rw [if_pos rfl, (kn_97).2.2.1]; rfl) hc (by rw [(kn_97).1]; exact Nat.le_of_ble_eq_true rfl) (fun v h' hv => by
    obtain ⟨z, rfl, hp⟩ := hv
    exact ⟨by unfold am_rok; rw [(kn_97).2.2.2], k z h' hp⟩)
theorem kn_98 : am_ml 98 = 7 ∧ am_na 98 = 5 ∧ am_rc 98 = 99 ∧ am_rt 98 = some .int := by decide +kernel
theorem kv_98 {x0 : Nat} {x1 : Int32} {x2 : Int32} {x3 : Int32} {x4 : Int32} {P : Int32 → am_H → Prop} (hm : am_mi xs L d 98 [.ref x0, .int x1, .int x2, .int x3, .int x4] h P) (hc : am_cats st ≤ 8) (k : ∀ z h', P z h' → am_w xs L (d + 1) y is l (.int z :: st) h' Q) : am_w xs L (d + 1) y ((60, 3, 98, 5, cc) :: is) l (.int x4 :: .int x3 :: .int x2 :: .int x1 :: .ref x0 :: st) h Q :=
  wp_inv [.ref x0, .int x1, .int x2, .int x3, .int x4] st hm (Or.inl rfl) rfl ⟨rfl, (kn_98).2.1.symm⟩ (by unfold am_may; rw [if_pos rfl, (kn_98).2.2.1]; rfl) hc (by rw [(kn_98).1]; exact Nat.le_of_ble_eq_true rfl) (fun v h' hv => by
    obtain ⟨z, rfl, hp⟩ := hv
    exact ⟨by unfold am_rok; rw [(kn_98).2.2.2], k z h' hp⟩)
theorem kn_99 : am_ml 99 = 7 ∧ am_na 99 = 3 ∧ am_rc 99 = 99 ∧ am_rt 99 = some .int := by decide +kernel
theorem kv_99 {x0 : Nat} {x1 : Int32} {x2 : Int32} {P : Int32 → am_H → Prop} (hm : am_mi xs L d 99 [.ref x0, .int x1, .int x2] h P) (hc : am_cats st ≤ 8) (k : ∀ z h', P z h' → am_w xs L (d + 1) y is l (.int z :: st) h' Q) : am_w xs L (d + 1) y ((60, 3, 99, 3, cc) :: is) l (.int x2 :: .int x1 :: .ref x0 :: st) h Q :=
  wp_inv [.ref x0, .int x1, .int x2] st hm (Or.inl rfl) rfl ⟨rfl, (kn_99).2.1.symm⟩ (by unfold am_may; rw [if_pos rfl, (kn_99).2.2.1]; rfl) hc (by rw [(kn_99).1]; exact Nat.le_of_ble_eq_true rfl) (fun v h' hv => by
    obtain ⟨z, rfl, hp⟩ := hv
    exact ⟨by unfold am_rok; rw [(kn_99).2.2.2], k z h' hp⟩)
theorem kn_100 : am_ml 100 = 1 ∧ am_na 100 = 1 ∧ am_rc 100 = 1 ∧ am_rt 100 = none := by decide +kernel
theorem kv_100 {q : Nat} {P : am_H → Prop} (hm : am_mv xs L d 100 [.ref q] h P) (hc : am_cats st ≤ 8) (k : ∀ h', P h' → am_w xs L (d + 1) y is l st h' Q) : am_w xs L (d + 1) y ((63, 3, 100, 1, cc) :: is) l (.ref q :: st) h Q :=
  wp_inv [.ref q] st hm (Or.inr (Or.inr rfl)) rfl ⟨rfl, (kn_100).2.1.symm⟩ (by unfold am_may; rw [if_neg (by decide)]; show (if (63 : Nat) = 62 then _ else (am_rc 100 != 99)) = true; rw [if_neg (by decide), (kn_100).2.2.1]; rfl) hc (by rw [(kn_100).1]; exact Nat.le_of_ble_eq_true rfl) (fun v h' hv => by
    obtain ⟨rfl, hp⟩ := hv
    exact ⟨by unfold am_rok; rw [(kn_100).2.2.2], k h' hp⟩)
theorem kn_101 : am_ml 101 = 2 ∧ am_na 101 = 2 ∧ am_rc 101 = 1 ∧ am_rt 101 = none := by decide +kernel
theorem kv_101 {q : Nat} {x0 : Int32} {fs : List Value} (hr : h.2.2 q = some (.inr (1, fs))) {P : am_H → Prop} (hm : am_mv xs L d 101 [.ref q, .int x0] h P) (hc : am_cats st ≤ 8) (k : ∀ h', P h' → am_w xs L (d + 1) y is l st h' Q) : am_w xs L (d + 1) y ((62, 3, 101, 2, cc) :: is) l (.int x0 :: .ref q :: st) h Q :=
  wp_inv [.ref q, .int x0] st hm (Or.inr (Or.inl rfl)) rfl ⟨rfl, (kn_101).2.1.symm⟩ (by unfold am_may; rw [if_neg (by decide)]; show (if (62 : Nat) = 62 then (match h.2.2 q with | some (.inr (ci, _)) => ci == am_rc 101 | _ => false) else _) = true; rw [if_pos rfl, hr, (kn_101).2.2.1]; rfl) hc (by rw [(kn_101).1]; exact Nat.le_of_ble_eq_true rfl) (fun v h' hv => by
    obtain ⟨rfl, hp⟩ := hv
    exact ⟨by unfold am_rok; rw [(kn_101).2.2.2], k h' hp⟩)
theorem kn_102 : am_ml 102 = 2 ∧ am_na 102 = 2 ∧ am_rc 102 = 1 ∧ am_rt 102 = none := by decide +kernel
theorem kv_102 {q : Nat} {x0 : Nat} {fs : List Value} (hr : h.2.2 q = some (.inr (1, fs))) {P : am_H → Prop} (hm : am_mv xs L d 102 [.ref q, .ref x0] h P) (hc : am_cats st ≤ 8) (k : ∀ h', P h' → am_w xs L (d + 1) y is l st h' Q) : am_w xs L (d + 1) y ((62, 3, 102, 2, cc) :: is) l (.ref x0 :: .ref q :: st) h Q :=
  wp_inv [.ref q, .ref x0] st hm (Or.inr (Or.inl rfl)) rfl ⟨rfl, (kn_102).2.1.symm⟩ (by unfold am_may; rw [if_neg (by decide)]; show (if (62 : Nat) = 62 then (match h.2.2 q with | some (.inr (ci, _)) => ci == am_rc 102 | _ => false) else _) = true; rw [if_pos rfl, hr, (kn_102).2.2.1]; rfl) hc (by rw [(kn_102).1]; exact Nat.le_of_ble_eq_true rfl) (fun v h' hv => by
    obtain ⟨rfl, hp⟩ := hv
    exact ⟨by unfold am_rok; rw [(kn_102).2.2.2], k h' hp⟩)
theorem kn_103 : am_ml 103 = 5 ∧ am_na 103 = 3 ∧ am_rc 103 = 99 ∧ am_rt 103 = some .int := by decide +kernel
theorem kv_103 {x0 : Nat} {x1 : Int32} {x2 : Int32} {P : Int32 → am_H → Prop} (hm : am_mi xs L d 103 [.ref x0, .int x1, .int x2] h P) (hc : am_cats st ≤ 8) (k : ∀ z h', P z h' → am_w xs L (d + 1) y is l (.int z :: st) h' Q) : am_w xs L (d + 1) y ((60, 3, 103, 3, cc) :: is) l (.int x2 :: .int x1 :: .ref x0 :: st) h Q :=
  wp_inv [.ref x0, .int x1, .int x2] st hm (Or.inl rfl) rfl ⟨rfl, (kn_103).2.1.symm⟩ (by unfold am_may; rw [if_pos rfl, (kn_103).2.2.1]; rfl) hc (by rw [(kn_103).1]; exact Nat.le_of_ble_eq_true rfl) (fun v h' hv => by
    obtain ⟨z, rfl, hp⟩ := hv
    exact ⟨by unfold am_rok; rw [(kn_103).2.2.2], k z h' hp⟩)
theorem kn_104 : am_ml 104 = 4 ∧ am_na 104 = 2 ∧ am_rc 104 = 99 ∧ am_rt 104 = some .int := by decide +kernel
theorem kv_104 {x0 : Nat} {x1 : Int32} {P : Int32 → am_H → Prop} (hm : am_mi xs L d 104 [.ref x0, .int x1] h P) (hc : am_cats st ≤ 8) (k : ∀ z h', P z h' → am_w xs L (d + 1) y is l (.int z :: st) h' Q) : am_w xs L (d + 1) y ((60, 3, 104, 2, cc) :: is) l (.int x1 :: .ref x0 :: st) h Q :=
  wp_inv [.ref x0, .int x1] st hm (Or.inl rfl) rfl ⟨rfl, (kn_104).2.1.symm⟩ (by unfold am_may; rw [if_pos rfl, (kn_104).2.2.1]; rfl) hc (by rw [(kn_104).1]; exact Nat.le_of_ble_eq_true rfl) (fun v h' hv => by
    obtain ⟨z, rfl, hp⟩ := hv
    exact ⟨by unfold am_rok; rw [(kn_104).2.2.2], k z h' hp⟩)
theorem kn_105 : am_ml 105 = 4 ∧ am_na 105 = 2 ∧ am_rc 105 = 99 ∧ am_rt 105 = some .int := by decide +kernel
theorem kv_105 {x0 : Nat} {x1 : Int32} {P : Int32 → am_H → Prop} (hm : am_mi xs L d 105 [.ref x0, .int x1] h P) (hc : am_cats st ≤ 8) (k : ∀ z h', P z h' → am_w xs L (d + 1) y is l (.int z :: st) h' Q) : am_w xs L (d + 1) y ((60, 3, 105, 2, cc) :: is) l (.int x1 :: .ref x0 :: st) h Q :=
  wp_inv [.ref x0, .int x1] st hm (Or.inl rfl) rfl ⟨rfl, (kn_105).2.1.symm⟩ (by unfold am_may; rw [if_pos rfl, (kn_105).2.2.1]; rfl) hc (by rw [(kn_105).1]; exact Nat.le_of_ble_eq_true rfl) (fun v h' hv => by
    obtain ⟨z, rfl, hp⟩ := hv
    exact ⟨by unfold am_rok; rw [(kn_105).2.2.2], k z h' hp⟩)
theorem kn_106 : am_ml 106 = 2 ∧ am_na 106 = 1 ∧ am_rc 106 = 2 ∧ am_rt 106 = none := by decide +kernel
theorem kv_106 {q : Nat} {P : am_H → Prop} (hm : am_mv xs L d 106 [.ref q] h P) (hc : am_cats st ≤ 8) (k : ∀ h', P h' → am_w xs L (d + 1) y is l st h' Q) : am_w xs L (d + 1) y ((63, 3, 106, 1, cc) :: is) l (.ref q :: st) h Q :=
  wp_inv [.ref q] st hm (Or.inr (Or.inr rfl)) rfl ⟨rfl, (kn_106).2.1.symm⟩ (by unfold am_may; rw [if_neg (by decide)]; show (if (63 : Nat) = 62 then _ else (am_rc 106 != 99)) = true; rw [if_neg (by decide), (kn_106).2.2.1]; rfl) hc (by rw [(kn_106).1]; exact Nat.le_of_ble_eq_true rfl) (fun v h' hv => by
    obtain ⟨rfl, hp⟩ := hv
    exact ⟨by unfold am_rok; rw [(kn_106).2.2.2], k h' hp⟩)
theorem kn_107 : am_ml 107 = 1 ∧ am_na 107 = 1 ∧ am_rc 107 = 2 ∧ am_rt 107 = none := by decide +kernel
theorem kv_107 {q : Nat} {fs : List Value} (hr : h.2.2 q = some (.inr (2, fs))) {P : am_H → Prop} (hm : am_mv xs L d 107 [.ref q] h P) (hc : am_cats st ≤ 8) (k : ∀ h', P h' → am_w xs L (d + 1) y is l st h' Q) : am_w xs L (d + 1) y ((62, 3, 107, 1, cc) :: is) l (.ref q :: st) h Q :=
  wp_inv [.ref q] st hm (Or.inr (Or.inl rfl)) rfl ⟨rfl, (kn_107).2.1.symm⟩ (by unfold am_may; rw [if_neg (by decide)]; show (if (62 : Nat) = 62 then (match h.2.2 q with | some (.inr (ci, _)) => ci == am_rc 107 | _ => false) else _) = true; rw [if_pos rfl, hr, (kn_107).2.2.1]; rfl) hc (by rw [(kn_107).1]; exact Nat.le_of_ble_eq_true rfl) (fun v h' hv => by
    obtain ⟨rfl, hp⟩ := hv
    exact ⟨by unfold am_rok; rw [(kn_107).2.2.2], k h' hp⟩)
theorem kn_108 : am_ml 108 = 2 ∧ am_na 108 = 2 ∧ am_rc 108 = 2 ∧ am_rt 108 = none := by decide +kernel
theorem kv_108 {q : Nat} {x0 : Nat} {fs : List Value} (hr : h.2.2 q = some (.inr (2, fs))) {P : am_H → Prop} (hm : am_mv xs L d 108 [.ref q, .ref x0] h P) (hc : am_cats st ≤ 8) (k : ∀ h', P h' → am_w xs L (d + 1) y is l st h' Q) : am_w xs L (d + 1) y ((62, 3, 108, 2, cc) :: is) l (.ref x0 :: .ref q :: st) h Q :=
  wp_inv [.ref q, .ref x0] st hm (Or.inr (Or.inl rfl)) rfl ⟨rfl, (kn_108).2.1.symm⟩ (by unfold am_may; rw [if_neg (by decide)]; show (if (62 : Nat) = 62 then (match h.2.2 q with | some (.inr (ci, _)) => ci == am_rc 108 | _ => false) else _) = true; rw [if_pos rfl, hr, (kn_108).2.2.1]; rfl) hc (by rw [(kn_108).1]; exact Nat.le_of_ble_eq_true rfl) (fun v h' hv => by
    obtain ⟨rfl, hp⟩ := hv
    exact ⟨by unfold am_rok; rw [(kn_108).2.2.2], k h' hp⟩)
theorem kn_109 : am_ml 109 = 1 ∧ am_na 109 = 1 ∧ am_rc 109 = 2 ∧ am_rt 109 = some .int := by decide +kernel
theorem kv_109 {q : Nat} {fs : List Value} (hr : h.2.2 q = some (.inr (2, fs))) {P : Int32 → am_H → Prop} (hm : am_mi xs L d 109 [.ref q] h P) (hc : am_cats st ≤ 8) (k : ∀ z h', P z h' → am_w xs L (d + 1) y is l (.int z :: st) h' Q) : am_w xs L (d + 1) y ((62, 3, 109, 1, cc) :: is) l (.ref q :: st) h Q :=
  wp_inv [.ref q] st hm (Or.inr (Or.inl rfl)) rfl ⟨rfl, (kn_109).2.1.symm⟩ (by unfold am_may; rw [if_neg (by decide)]; show (if (62 : Nat) = 62 then (match h.2.2 q with | some (.inr (ci, _)) => ci == am_rc 109 | _ => false) else _) = true; rw [if_pos rfl, hr, (kn_109).2.2.1]; rfl) hc (by rw [(kn_109).1]; exact Nat.le_of_ble_eq_true rfl) (fun v h' hv => by
    obtain ⟨z, rfl, hp⟩ := hv
    exact ⟨by unfold am_rok; rw [(kn_109).2.2.2], k z h' hp⟩)
theorem kn_110 : am_ml 110 = 2 ∧ am_na 110 = 2 ∧ am_rc 110 = 2 ∧ am_rt 110 = none := by decide +kernel
theorem kv_110 {q : Nat} {x0 : Nat} {fs : List Value} (hr : h.2.2 q = some (.inr (2, fs))) {P : am_H → Prop} (hm : am_mv xs L d 110 [.ref q, .ref x0] h P) (hc : am_cats st ≤ 8) (k : ∀ h', P h' → am_w xs L (d + 1) y is l st h' Q) : am_w xs L (d + 1) y ((62, 3, 110, 2, cc) :: is) l (.ref x0 :: .ref q :: st) h Q :=
  wp_inv [.ref q, .ref x0] st hm (Or.inr (Or.inl rfl)) rfl ⟨rfl, (kn_110).2.1.symm⟩ (by unfold am_may; rw [if_neg (by decide)]; show (if (62 : Nat) = 62 then (match h.2.2 q with | some (.inr (ci, _)) => ci == am_rc 110 | _ => false) else _) = true; rw [if_pos rfl, hr, (kn_110).2.2.1]; rfl) hc (by rw [(kn_110).1]; exact Nat.le_of_ble_eq_true rfl) (fun v h' hv => by
    obtain ⟨rfl, hp⟩ := hv
    exact ⟨by unfold am_rok; rw [(kn_110).2.2.2], k h' hp⟩)
theorem kn_111 : am_ml 111 = 1 ∧ am_na 111 = 1 ∧ am_rc 111 = 2 ∧ am_rt 111 = some .int := by decide +kernel
theorem kv_111 {q : Nat} {fs : List Value} (hr : h.2.2 q = some (.inr (2, fs))) {P : Int32 → am_H → Prop} (hm : am_mi xs L d 111 [.ref q] h P) (hc : am_cats st ≤ 8) (k : ∀ z h', P z h' → am_w xs L (d + 1) y is l (.int z :: st) h' Q) : am_w xs L (d + 1) y ((62, 3, 111, 1, cc) :: is) l (.ref q :: st) h Q :=
  wp_inv [.ref q] st hm (Or.inr (Or.inl rfl)) rfl ⟨rfl, (kn_111).2.1.symm⟩ (by unfold am_may; rw [if_neg (by decide)]; show (if (62 : Nat) = 62 then (match h.2.2 q with | some (.inr (ci, _)) => ci == am_rc 111 | _ => false) else _) = true; rw [if_pos rfl, hr, (kn_111).2.2.1]; rfl) hc (by rw [(kn_111).1]; exact Nat.le_of_ble_eq_true rfl) (fun v h' hv => by
    obtain ⟨z, rfl, hp⟩ := hv
    exact ⟨by unfold am_rok; rw [(kn_111).2.2.2], k z h' hp⟩)
theorem kn_112 : am_ml 112 = 2 ∧ am_na 112 = 2 ∧ am_rc 112 = 2 ∧ am_rt 112 = some .int := by decide +kernel
theorem kv_112 {q : Nat} {x0 : Nat} {fs : List Value} (hr : h.2.2 q = some (.inr (2, fs))) {P : Int32 → am_H → Prop} (hm : am_mi xs L d 112 [.ref q, .ref x0] h P) (hc : am_cats st ≤ 8) (k : ∀ z h', P z h' → am_w xs L (d + 1) y is l (.int z :: st) h' Q) : am_w xs L (d + 1) y ((62, 3, 112, 2, cc) :: is) l (.ref x0 :: .ref q :: st) h Q :=
  wp_inv [.ref q, .ref x0] st hm (Or.inr (Or.inl rfl)) rfl ⟨rfl, (kn_112).2.1.symm⟩ (by unfold am_may; rw [if_neg (by decide)]; show (if (62 : Nat) = 62 then (match h.2.2 q with | some (.inr (ci, _)) => ci == am_rc 112 | _ => false) else _) = true; rw [if_pos rfl, hr, (kn_112).2.2.1]; rfl) hc (by rw [(kn_112).1]; exact Nat.le_of_ble_eq_true rfl) (fun v h' hv => by
    obtain ⟨z, rfl, hp⟩ := hv
    exact ⟨by unfold am_rok; rw [(kn_112).2.2.2], k z h' hp⟩)
theorem kn_113 : am_ml 113 = 3 ∧ am_na 113 = 3 ∧ am_rc 113 = 2 ∧ am_rt 113 = none := by decide +kernel
theorem kv_113 {q : Nat} {x0 : Int32} {x1 : Nat} {fs : List Value} (hr : h.2.2 q = some (.inr (2, fs))) {P : am_H → Prop} (hm : am_mv xs L d 113 [.ref q, .int x0, .ref x1] h P) (hc : am_cats st ≤ 8) (k : ∀ h', P h' → am_w xs L (d + 1) y is l st h' Q) : am_w xs L (d + 1) y ((62, 3, 113, 3, cc) :: is) l (.ref x1 :: .int x0 :: .ref q :: st) h Q :=
  wp_inv [.ref q, .int x0, .ref x1] st hm (Or.inr (Or.inl rfl)) rfl ⟨rfl, (kn_113).2.1.symm⟩ (by unfold am_may; rw [if_neg (by decide)]; show (if (62 : Nat) = 62 then (match h.2.2 q with | some (.inr (ci, _)) => ci == am_rc 113 | _ => false) else _) = true; rw [if_pos rfl, hr, (kn_113).2.2.1]; rfl) hc (by rw [(kn_113).1]; exact Nat.le_of_ble_eq_true rfl) (fun v h' hv => by
    obtain ⟨rfl, hp⟩ := hv
    exact ⟨by unfold am_rok; rw [(kn_113).2.2.2], k h' hp⟩)
theorem kn_114 : am_ml 114 = 4 ∧ am_na 114 = 1 ∧ am_rc 114 = 99 ∧ am_rt 114 = some .long := by decide +kernel
theorem kv_114 {x0 : UInt32} {P : Int64 → am_H → Prop} (hm : am_mj xs L d 114 [.float x0] h P) (hc : am_cats st ≤ 8) (k : ∀ z h', P z h' → am_w xs L (d + 1) y is l (.long z :: st) h' Q) : am_w xs L (d + 1) y ((60, 3, 114, 1, cc) :: is) l (.float x0 :: st) h Q :=
  wp_inv [.float x0] st hm (Or.inl rfl) rfl ⟨rfl, (kn_114).2.1.symm⟩ (by unfold am_may; rw [if_pos rfl, (kn_114).2.2.1]; rfl) hc (by rw [(kn_114).1]; exact Nat.le_of_ble_eq_true rfl) (fun v h' hv => by
    obtain ⟨z, rfl, hp⟩ := hv
    exact ⟨by unfold am_rok; rw [(kn_114).2.2.2], k z h' hp⟩)
theorem kn_115 : am_ml 115 = 3 ∧ am_na 115 = 2 ∧ am_rc 115 = 99 ∧ am_rt 115 = some .long := by decide +kernel
theorem kv_115 {x0 : Int64} {x1 : Int32} {P : Int64 → am_H → Prop} (hm : am_mj xs L d 115 [.long x0, .int x1] h P) (hc : am_cats st ≤ 8) (k : ∀ z h', P z h' → am_w xs L (d + 1) y is l (.long z :: st) h' Q) : am_w xs L (d + 1) y ((60, 3, 115, 2, cc) :: is) l (.int x1 :: .long x0 :: st) h Q :=
  wp_inv [.long x0, .int x1] st hm (Or.inl rfl) rfl ⟨rfl, (kn_115).2.1.symm⟩ (by unfold am_may; rw [if_pos rfl, (kn_115).2.2.1]; rfl) hc (by rw [(kn_115).1]; exact Nat.le_of_ble_eq_true rfl) (fun v h' hv => by
    obtain ⟨z, rfl, hp⟩ := hv
    exact ⟨by unfold am_rok; rw [(kn_115).2.2.2], k z h' hp⟩)
theorem kn_116 : am_ml 116 = 4 ∧ am_na 116 = 1 ∧ am_rc 116 = 99 ∧ am_rt 116 = some .int := by decide +kernel
theorem kv_116 {x0 : Int64} {P : Int32 → am_H → Prop} (hm : am_mi xs L d 116 [.long x0] h P) (hc : am_cats st ≤ 8) (k : ∀ z h', P z h' → am_w xs L (d + 1) y is l (.int z :: st) h' Q) : am_w xs L (d + 1) y ((60, 3, 116, 1, cc) :: is) l (.long x0 :: st) h Q :=
  wp_inv [.long x0] st hm (Or.inl rfl) rfl ⟨rfl, (kn_116).2.1.symm⟩ (by unfold am_may; rw [if_pos rfl, (kn_116).2.2.1]; rfl) hc (by rw [(kn_116).1]; exact Nat.le_of_ble_eq_true rfl) (fun v h' hv => by
    obtain ⟨z, rfl, hp⟩ := hv
    exact ⟨by unfold am_rok; rw [(kn_116).2.2.2], k z h' hp⟩)
theorem kn_117 : am_ml 117 = 2 ∧ am_na 117 = 1 ∧ am_rc 117 = 99 ∧ am_rt 117 = some .int := by decide +kernel
theorem kv_117 {x0 : Int64} {P : Int32 → am_H → Prop} (hm : am_mi xs L d 117 [.long x0] h P) (hc : am_cats st ≤ 8) (k : ∀ z h', P z h' → am_w xs L (d + 1) y is l (.int z :: st) h' Q) : am_w xs L (d + 1) y ((60, 3, 117, 1, cc) :: is) l (.long x0 :: st) h Q :=
  wp_inv [.long x0] st hm (Or.inl rfl) rfl ⟨rfl, (kn_117).2.1.symm⟩ (by unfold am_may; rw [if_pos rfl, (kn_117).2.2.1]; rfl) hc (by rw [(kn_117).1]; exact Nat.le_of_ble_eq_true rfl) (fun v h' hv => by
    obtain ⟨z, rfl, hp⟩ := hv
    exact ⟨by unfold am_rok; rw [(kn_117).2.2.2], k z h' hp⟩)
theorem kn_118 : am_ml 118 = 3 ∧ am_na 118 = 2 ∧ am_rc 118 = 99 ∧ am_rt 118 = some .int := by decide +kernel
theorem kv_118 {x0 : Int64} {x1 : Int32} {P : Int32 → am_H → Prop} (hm : am_mi xs L d 118 [.long x0, .int x1] h P) (hc : am_cats st ≤ 8) (k : ∀ z h', P z h' → am_w xs L (d + 1) y is l (.int z :: st) h' Q) : am_w xs L (d + 1) y ((60, 3, 118, 2, cc) :: is) l (.int x1 :: .long x0 :: st) h Q :=
  wp_inv [.long x0, .int x1] st hm (Or.inl rfl) rfl ⟨rfl, (kn_118).2.1.symm⟩ (by unfold am_may; rw [if_pos rfl, (kn_118).2.2.1]; rfl) hc (by rw [(kn_118).1]; exact Nat.le_of_ble_eq_true rfl) (fun v h' hv => by
    obtain ⟨z, rfl, hp⟩ := hv
    exact ⟨by unfold am_rok; rw [(kn_118).2.2.2], k z h' hp⟩)
theorem kn_119 : am_ml 119 = 5 ∧ am_na 119 = 1 ∧ am_rc 119 = 99 ∧ am_rt 119 = some .int := by decide +kernel
theorem kv_119 {x0 : Int64} {P : Int32 → am_H → Prop} (hm : am_mi xs L d 119 [.long x0] h P) (hc : am_cats st ≤ 8) (k : ∀ z h', P z h' → am_w xs L (d + 1) y is l (.int z :: st) h' Q) : am_w xs L (d + 1) y ((60, 3, 119, 1, cc) :: is) l (.long x0 :: st) h Q :=
  wp_inv [.long x0] st hm (Or.inl rfl) rfl ⟨rfl, (kn_119).2.1.symm⟩ (by unfold am_may; rw [if_pos rfl, (kn_119).2.2.1]; rfl) hc (by rw [(kn_119).1]; exact Nat.le_of_ble_eq_true rfl) (fun v h' hv => by
    obtain ⟨z, rfl, hp⟩ := hv
    exact ⟨by unfold am_rok; rw [(kn_119).2.2.2], k z h' hp⟩)
theorem kn_120 : am_ml 120 = 3 ∧ am_na 120 = 2 ∧ am_rc 120 = 99 ∧ am_rt 120 = some .long := by decide +kernel
theorem kv_120 {x0 : Int64} {x1 : Int32} {P : Int64 → am_H → Prop} (hm : am_mj xs L d 120 [.long x0, .int x1] h P) (hc : am_cats st ≤ 8) (k : ∀ z h', P z h' → am_w xs L (d + 1) y is l (.long z :: st) h' Q) : am_w xs L (d + 1) y ((60, 3, 120, 2, cc) :: is) l (.int x1 :: .long x0 :: st) h Q :=
  wp_inv [.long x0, .int x1] st hm (Or.inl rfl) rfl ⟨rfl, (kn_120).2.1.symm⟩ (by unfold am_may; rw [if_pos rfl, (kn_120).2.2.1]; rfl) hc (by rw [(kn_120).1]; exact Nat.le_of_ble_eq_true rfl) (fun v h' hv => by
    obtain ⟨z, rfl, hp⟩ := hv
    exact ⟨by unfold am_rok; rw [(kn_120).2.2.2], k z h' hp⟩)
theorem kn_121 : am_ml 121 = 7 ∧ am_na 121 = 2 ∧ am_rc 121 = 99 ∧ am_rt 121 = some .long := by decide +kernel
theorem kv_121 {x0 : Int64} {x1 : Int32} {P : Int64 → am_H → Prop} (hm : am_mj xs L d 121 [.long x0, .int x1] h P) (hc : am_cats st ≤ 8) (k : ∀ z h', P z h' → am_w xs L (d + 1) y is l (.long z :: st) h' Q) : am_w xs L (d + 1) y ((60, 3, 121, 2, cc) :: is) l (.int x1 :: .long x0 :: st) h Q :=
  wp_inv [.long x0, .int x1] st hm (Or.inl rfl) rfl ⟨rfl, (kn_121).2.1.symm⟩ (by unfold am_may; rw [if_pos rfl, (kn_121).2.2.1]; rfl) hc (by rw [(kn_121).1]; exact Nat.le_of_ble_eq_true rfl) (fun v h' hv => by
    obtain ⟨z, rfl, hp⟩ := hv
    exact ⟨by unfold am_rok; rw [(kn_121).2.2.2], k z h' hp⟩)
theorem kn_122 : am_ml 122 = 2 ∧ am_na 122 = 1 ∧ am_rc 122 = 99 ∧ am_rt 122 = some .int := by decide +kernel
theorem kv_122 {x0 : Int64} {P : Int32 → am_H → Prop} (hm : am_mi xs L d 122 [.long x0] h P) (hc : am_cats st ≤ 8) (k : ∀ z h', P z h' → am_w xs L (d + 1) y is l (.int z :: st) h' Q) : am_w xs L (d + 1) y ((60, 3, 122, 1, cc) :: is) l (.long x0 :: st) h Q :=
  wp_inv [.long x0] st hm (Or.inl rfl) rfl ⟨rfl, (kn_122).2.1.symm⟩ (by unfold am_may; rw [if_pos rfl, (kn_122).2.2.1]; rfl) hc (by rw [(kn_122).1]; exact Nat.le_of_ble_eq_true rfl) (fun v h' hv => by
    obtain ⟨z, rfl, hp⟩ := hv
    exact ⟨by unfold am_rok; rw [(kn_122).2.2.2], k z h' hp⟩)
theorem kn_123 : am_ml 123 = 1 ∧ am_na 123 = 1 ∧ am_rc 123 = 3 ∧ am_rt 123 = none := by decide +kernel
theorem kv_123 {q : Nat} {P : am_H → Prop} (hm : am_mv xs L d 123 [.ref q] h P) (hc : am_cats st ≤ 8) (k : ∀ h', P h' → am_w xs L (d + 1) y is l st h' Q) : am_w xs L (d + 1) y ((63, 3, 123, 1, cc) :: is) l (.ref q :: st) h Q :=
  wp_inv [.ref q] st hm (Or.inr (Or.inr rfl)) rfl ⟨rfl, (kn_123).2.1.symm⟩ (by unfold am_may; rw [if_neg (by decide)]; show (if (63 : Nat) = 62 then _ else (am_rc 123 != 99)) = true; rw [if_neg (by decide), (kn_123).2.2.1]; rfl) hc (by rw [(kn_123).1]; exact Nat.le_of_ble_eq_true rfl) (fun v h' hv => by
    obtain ⟨rfl, hp⟩ := hv
    exact ⟨by unfold am_rok; rw [(kn_123).2.2.2], k h' hp⟩)
theorem kn_124 : am_ml 124 = 5 ∧ am_na 124 = 3 ∧ am_rc 124 = 3 ∧ am_rt 124 = some .int := by decide +kernel
theorem kv_124 {q : Nat} {x0 : Nat} {x1 : Int32} {fs : List Value} (hr : h.2.2 q = some (.inr (3, fs))) {P : Int32 → am_H → Prop} (hm : am_mi xs L d 124 [.ref q, .ref x0, .int x1] h P) (hc : am_cats st ≤ 8) (k : ∀ z h', P z h' → am_w xs L (d + 1) y is l (.int z :: st) h' Q) : am_w xs L (d + 1) y ((62, 3, 124, 3, cc) :: is) l (.int x1 :: .ref x0 :: .ref q :: st) h Q :=
  wp_inv [.ref q, .ref x0, .int x1] st hm (Or.inr (Or.inl rfl)) rfl ⟨rfl, (kn_124).2.1.symm⟩ (by unfold am_may; rw [if_neg (by decide)]; show (if (62 : Nat) = 62 then (match h.2.2 q with | some (.inr (ci, _)) => ci == am_rc 124 | _ => false) else _) = true; rw [if_pos rfl, hr, (kn_124).2.2.1]; rfl) hc (by rw [(kn_124).1]; exact Nat.le_of_ble_eq_true rfl) (fun v h' hv => by
    obtain ⟨z, rfl, hp⟩ := hv
    exact ⟨by unfold am_rok; rw [(kn_124).2.2.2], k z h' hp⟩)
theorem kn_125 : am_ml 125 = 2 ∧ am_na 125 = 1 ∧ am_rc 125 = 3 ∧ am_rt 125 = some .boolean := by decide +kernel
theorem kv_125 {q : Nat} {fs : List Value} (hr : h.2.2 q = some (.inr (3, fs))) {P : Bool → am_H → Prop} (hm : am_mb xs L d 125 [.ref q] h P) (hc : am_cats st ≤ 8) (k : ∀ (z : Bool) h', P z h' → am_w xs L (d + 1) y is l (.int (if z = true then 1 else 0) :: st) h' Q) : am_w xs L (d + 1) y ((62, 3, 125, 1, cc) :: is) l (.ref q :: st) h Q :=
  wp_inv [.ref q] st hm (Or.inr (Or.inl rfl)) rfl ⟨rfl, (kn_125).2.1.symm⟩ (by unfold am_may; rw [if_neg (by decide)]; show (if (62 : Nat) = 62 then (match h.2.2 q with | some (.inr (ci, _)) => ci == am_rc 125 | _ => false) else _) = true; rw [if_pos rfl, hr, (kn_125).2.2.1]; rfl) hc (by rw [(kn_125).1]; exact Nat.le_of_ble_eq_true rfl) (fun v h' hv => by
    obtain ⟨z, rfl, hp⟩ := hv
    exact ⟨by unfold am_rok; rw [(kn_125).2.2.2]; cases z <;> rfl, k z h' hp⟩)
theorem kn_126 : am_ml 126 = 4 ∧ am_na 126 = 2 ∧ am_rc 126 = 3 ∧ am_rt 126 = some .int := by decide +kernel
theorem kv_126 {q : Nat} {x0 : Int64} {fs : List Value} (hr : h.2.2 q = some (.inr (3, fs))) {P : Int32 → am_H → Prop} (hm : am_mi xs L d 126 [.ref q, .long x0] h P) (hc : am_cats st ≤ 8) (k : ∀ z h', P z h' → am_w xs L (d + 1) y is l (.int z :: st) h' Q) : am_w xs L (d + 1) y ((62, 3, 126, 2, cc) :: is) l (.long x0 :: .ref q :: st) h Q :=
  wp_inv [.ref q, .long x0] st hm (Or.inr (Or.inl rfl)) rfl ⟨rfl, (kn_126).2.1.symm⟩ (by unfold am_may; rw [if_neg (by decide)]; show (if (62 : Nat) = 62 then (match h.2.2 q with | some (.inr (ci, _)) => ci == am_rc 126 | _ => false) else _) = true; rw [if_pos rfl, hr, (kn_126).2.2.1]; rfl) hc (by rw [(kn_126).1]; exact Nat.le_of_ble_eq_true rfl) (fun v h' hv => by
    obtain ⟨z, rfl, hp⟩ := hv
    exact ⟨by unfold am_rok; rw [(kn_126).2.2.2], k z h' hp⟩)
theorem kn_127 : am_ml 127 = 2 ∧ am_na 127 = 2 ∧ am_rc 127 = 3 ∧ am_rt 127 = some .boolean := by decide +kernel
theorem kv_127 {q : Nat} {x0 : Int32} {fs : List Value} (hr : h.2.2 q = some (.inr (3, fs))) {P : Bool → am_H → Prop} (hm : am_mb xs L d 127 [.ref q, .int x0] h P) (hc : am_cats st ≤ 8) (k : ∀ (z : Bool) h', P z h' → am_w xs L (d + 1) y is l (.int (if z = true then 1 else 0) :: st) h' Q) : am_w xs L (d + 1) y ((62, 3, 127, 2, cc) :: is) l (.int x0 :: .ref q :: st) h Q :=
  wp_inv [.ref q, .int x0] st hm (Or.inr (Or.inl rfl)) rfl ⟨rfl, (kn_127).2.1.symm⟩ (by unfold am_may; rw [if_neg (by decide)]; show (if (62 : Nat) = 62 then (match h.2.2 q with | some (.inr (ci, _)) => ci == am_rc 127 | _ => false) else _) = true; rw [if_pos rfl, hr, (kn_127).2.2.1]; rfl) hc (by rw [(kn_127).1]; exact Nat.le_of_ble_eq_true rfl) (fun v h' hv => by
    obtain ⟨z, rfl, hp⟩ := hv
    exact ⟨by unfold am_rok; rw [(kn_127).2.2.2]; cases z <;> rfl, k z h' hp⟩)
theorem kn_128 : am_ml 128 = 1 ∧ am_na 128 = 1 ∧ am_rc 128 = 3 ∧ am_rt 128 = some .boolean := by decide +kernel
theorem kv_128 {q : Nat} {fs : List Value} (hr : h.2.2 q = some (.inr (3, fs))) {P : Bool → am_H → Prop} (hm : am_mb xs L d 128 [.ref q] h P) (hc : am_cats st ≤ 8) (k : ∀ (z : Bool) h', P z h' → am_w xs L (d + 1) y is l (.int (if z = true then 1 else 0) :: st) h' Q) : am_w xs L (d + 1) y ((62, 3, 128, 1, cc) :: is) l (.ref q :: st) h Q :=
  wp_inv [.ref q] st hm (Or.inr (Or.inl rfl)) rfl ⟨rfl, (kn_128).2.1.symm⟩ (by unfold am_may; rw [if_neg (by decide)]; show (if (62 : Nat) = 62 then (match h.2.2 q with | some (.inr (ci, _)) => ci == am_rc 128 | _ => false) else _) = true; rw [if_pos rfl, hr, (kn_128).2.2.1]; rfl) hc (by rw [(kn_128).1]; exact Nat.le_of_ble_eq_true rfl) (fun v h' hv => by
    obtain ⟨z, rfl, hp⟩ := hv
    exact ⟨by unfold am_rok; rw [(kn_128).2.2.2]; cases z <;> rfl, k z h' hp⟩)
theorem kn_129 : am_ml 129 = 2 ∧ am_na 129 = 2 ∧ am_rc 129 = 3 ∧ am_rt 129 = some .boolean := by decide +kernel
theorem kv_129 {q : Nat} {x0 : Int32} {fs : List Value} (hr : h.2.2 q = some (.inr (3, fs))) {P : Bool → am_H → Prop} (hm : am_mb xs L d 129 [.ref q, .int x0] h P) (hc : am_cats st ≤ 8) (k : ∀ (z : Bool) h', P z h' → am_w xs L (d + 1) y is l (.int (if z = true then 1 else 0) :: st) h' Q) : am_w xs L (d + 1) y ((62, 3, 129, 2, cc) :: is) l (.int x0 :: .ref q :: st) h Q :=
  wp_inv [.ref q, .int x0] st hm (Or.inr (Or.inl rfl)) rfl ⟨rfl, (kn_129).2.1.symm⟩ (by unfold am_may; rw [if_neg (by decide)]; show (if (62 : Nat) = 62 then (match h.2.2 q with | some (.inr (ci, _)) => ci == am_rc 129 | _ => false) else _) = true; rw [if_pos rfl, hr, (kn_129).2.2.1]; rfl) hc (by rw [(kn_129).1]; exact Nat.le_of_ble_eq_true rfl) (fun v h' hv => by
    obtain ⟨z, rfl, hp⟩ := hv
    exact ⟨by unfold am_rok; rw [(kn_129).2.2.2]; cases z <;> rfl, k z h' hp⟩)
theorem kn_130 : am_ml 130 = 2 ∧ am_na 130 = 2 ∧ am_rc 130 = 3 ∧ am_rt 130 = some .boolean := by decide +kernel
theorem kv_130 {q : Nat} {x0 : Int32} {fs : List Value} (hr : h.2.2 q = some (.inr (3, fs))) {P : Bool → am_H → Prop} (hm : am_mb xs L d 130 [.ref q, .int x0] h P) (hc : am_cats st ≤ 8) (k : ∀ (z : Bool) h', P z h' → am_w xs L (d + 1) y is l (.int (if z = true then 1 else 0) :: st) h' Q) : am_w xs L (d + 1) y ((62, 3, 130, 2, cc) :: is) l (.int x0 :: .ref q :: st) h Q :=
  wp_inv [.ref q, .int x0] st hm (Or.inr (Or.inl rfl)) rfl ⟨rfl, (kn_130).2.1.symm⟩ (by unfold am_may; rw [if_neg (by decide)]; show (if (62 : Nat) = 62 then (match h.2.2 q with | some (.inr (ci, _)) => ci == am_rc 130 | _ => false) else _) = true; rw [if_pos rfl, hr, (kn_130).2.2.1]; rfl) hc (by rw [(kn_130).1]; exact Nat.le_of_ble_eq_true rfl) (fun v h' hv => by
    obtain ⟨z, rfl, hp⟩ := hv
    exact ⟨by unfold am_rok; rw [(kn_130).2.2.2]; cases z <;> rfl, k z h' hp⟩)
theorem kn_131 : am_ml 131 = 2 ∧ am_na 131 = 2 ∧ am_rc 131 = 3 ∧ am_rt 131 = some .boolean := by decide +kernel
theorem kv_131 {q : Nat} {x0 : Int32} {fs : List Value} (hr : h.2.2 q = some (.inr (3, fs))) {P : Bool → am_H → Prop} (hm : am_mb xs L d 131 [.ref q, .int x0] h P) (hc : am_cats st ≤ 8) (k : ∀ (z : Bool) h', P z h' → am_w xs L (d + 1) y is l (.int (if z = true then 1 else 0) :: st) h' Q) : am_w xs L (d + 1) y ((62, 3, 131, 2, cc) :: is) l (.int x0 :: .ref q :: st) h Q :=
  wp_inv [.ref q, .int x0] st hm (Or.inr (Or.inl rfl)) rfl ⟨rfl, (kn_131).2.1.symm⟩ (by unfold am_may; rw [if_neg (by decide)]; show (if (62 : Nat) = 62 then (match h.2.2 q with | some (.inr (ci, _)) => ci == am_rc 131 | _ => false) else _) = true; rw [if_pos rfl, hr, (kn_131).2.2.1]; rfl) hc (by rw [(kn_131).1]; exact Nat.le_of_ble_eq_true rfl) (fun v h' hv => by
    obtain ⟨z, rfl, hp⟩ := hv
    exact ⟨by unfold am_rok; rw [(kn_131).2.2.2]; cases z <;> rfl, k z h' hp⟩)
theorem kn_132 : am_ml 132 = 1 ∧ am_na 132 = 1 ∧ am_rc 132 = 3 ∧ am_rt 132 = some .boolean := by decide +kernel
theorem kv_132 {q : Nat} {fs : List Value} (hr : h.2.2 q = some (.inr (3, fs))) {P : Bool → am_H → Prop} (hm : am_mb xs L d 132 [.ref q] h P) (hc : am_cats st ≤ 8) (k : ∀ (z : Bool) h', P z h' → am_w xs L (d + 1) y is l (.int (if z = true then 1 else 0) :: st) h' Q) : am_w xs L (d + 1) y ((62, 3, 132, 1, cc) :: is) l (.ref q :: st) h Q :=
  wp_inv [.ref q] st hm (Or.inr (Or.inl rfl)) rfl ⟨rfl, (kn_132).2.1.symm⟩ (by unfold am_may; rw [if_neg (by decide)]; show (if (62 : Nat) = 62 then (match h.2.2 q with | some (.inr (ci, _)) => ci == am_rc 132 | _ => false) else _) = true; rw [if_pos rfl, hr, (kn_132).2.2.1]; rfl) hc (by rw [(kn_132).1]; exact Nat.le_of_ble_eq_true rfl) (fun v h' hv => by
    obtain ⟨z, rfl, hp⟩ := hv
    exact ⟨by unfold am_rok; rw [(kn_132).2.2.2]; cases z <;> rfl, k z h' hp⟩)
theorem kn_133 : am_ml 133 = 1 ∧ am_na 133 = 1 ∧ am_rc 133 = 3 ∧ am_rt 133 = some .boolean := by decide +kernel
theorem kv_133 {q : Nat} {fs : List Value} (hr : h.2.2 q = some (.inr (3, fs))) {P : Bool → am_H → Prop} (hm : am_mb xs L d 133 [.ref q] h P) (hc : am_cats st ≤ 8) (k : ∀ (z : Bool) h', P z h' → am_w xs L (d + 1) y is l (.int (if z = true then 1 else 0) :: st) h' Q) : am_w xs L (d + 1) y ((62, 3, 133, 1, cc) :: is) l (.ref q :: st) h Q :=
  wp_inv [.ref q] st hm (Or.inr (Or.inl rfl)) rfl ⟨rfl, (kn_133).2.1.symm⟩ (by unfold am_may; rw [if_neg (by decide)]; show (if (62 : Nat) = 62 then (match h.2.2 q with | some (.inr (ci, _)) => ci == am_rc 133 | _ => false) else _) = true; rw [if_pos rfl, hr, (kn_133).2.2.1]; rfl) hc (by rw [(kn_133).1]; exact Nat.le_of_ble_eq_true rfl) (fun v h' hv => by
    obtain ⟨z, rfl, hp⟩ := hv
    exact ⟨by unfold am_rok; rw [(kn_133).2.2.2]; cases z <;> rfl, k z h' hp⟩)
theorem kn_134 : am_ml 134 = 1 ∧ am_na 134 = 1 ∧ am_rc 134 = 3 ∧ am_rt 134 = some .boolean := by decide +kernel
theorem kv_134 {q : Nat} {fs : List Value} (hr : h.2.2 q = some (.inr (3, fs))) {P : Bool → am_H → Prop} (hm : am_mb xs L d 134 [.ref q] h P) (hc : am_cats st ≤ 8) (k : ∀ (z : Bool) h', P z h' → am_w xs L (d + 1) y is l (.int (if z = true then 1 else 0) :: st) h' Q) : am_w xs L (d + 1) y ((62, 3, 134, 1, cc) :: is) l (.ref q :: st) h Q :=
  wp_inv [.ref q] st hm (Or.inr (Or.inl rfl)) rfl ⟨rfl, (kn_134).2.1.symm⟩ (by unfold am_may; rw [if_neg (by decide)]; show (if (62 : Nat) = 62 then (match h.2.2 q with | some (.inr (ci, _)) => ci == am_rc 134 | _ => false) else _) = true; rw [if_pos rfl, hr, (kn_134).2.2.1]; rfl) hc (by rw [(kn_134).1]; exact Nat.le_of_ble_eq_true rfl) (fun v h' hv => by
    obtain ⟨z, rfl, hp⟩ := hv
    exact ⟨by unfold am_rok; rw [(kn_134).2.2.2]; cases z <;> rfl, k z h' hp⟩)
theorem kn_135 : am_ml 135 = 2 ∧ am_na 135 = 1 ∧ am_rc 135 = 3 ∧ am_rt 135 = some .boolean := by decide +kernel
theorem kv_135 {q : Nat} {fs : List Value} (hr : h.2.2 q = some (.inr (3, fs))) {P : Bool → am_H → Prop} (hm : am_mb xs L d 135 [.ref q] h P) (hc : am_cats st ≤ 8) (k : ∀ (z : Bool) h', P z h' → am_w xs L (d + 1) y is l (.int (if z = true then 1 else 0) :: st) h' Q) : am_w xs L (d + 1) y ((62, 3, 135, 1, cc) :: is) l (.ref q :: st) h Q :=
  wp_inv [.ref q] st hm (Or.inr (Or.inl rfl)) rfl ⟨rfl, (kn_135).2.1.symm⟩ (by unfold am_may; rw [if_neg (by decide)]; show (if (62 : Nat) = 62 then (match h.2.2 q with | some (.inr (ci, _)) => ci == am_rc 135 | _ => false) else _) = true; rw [if_pos rfl, hr, (kn_135).2.2.1]; rfl) hc (by rw [(kn_135).1]; exact Nat.le_of_ble_eq_true rfl) (fun v h' hv => by
    obtain ⟨z, rfl, hp⟩ := hv
    exact ⟨by unfold am_rok; rw [(kn_135).2.2.2]; cases z <;> rfl, k z h' hp⟩)
theorem kn_136 : am_ml 136 = 1 ∧ am_na 136 = 1 ∧ am_rc 136 = 3 ∧ am_rt 136 = some .boolean := by decide +kernel
theorem kv_136 {q : Nat} {fs : List Value} (hr : h.2.2 q = some (.inr (3, fs))) {P : Bool → am_H → Prop} (hm : am_mb xs L d 136 [.ref q] h P) (hc : am_cats st ≤ 8) (k : ∀ (z : Bool) h', P z h' → am_w xs L (d + 1) y is l (.int (if z = true then 1 else 0) :: st) h' Q) : am_w xs L (d + 1) y ((62, 3, 136, 1, cc) :: is) l (.ref q :: st) h Q :=
  wp_inv [.ref q] st hm (Or.inr (Or.inl rfl)) rfl ⟨rfl, (kn_136).2.1.symm⟩ (by unfold am_may; rw [if_neg (by decide)]; show (if (62 : Nat) = 62 then (match h.2.2 q with | some (.inr (ci, _)) => ci == am_rc 136 | _ => false) else _) = true; rw [if_pos rfl, hr, (kn_136).2.2.1]; rfl) hc (by rw [(kn_136).1]; exact Nat.le_of_ble_eq_true rfl) (fun v h' hv => by
    obtain ⟨z, rfl, hp⟩ := hv
    exact ⟨by unfold am_rok; rw [(kn_136).2.2.2]; cases z <;> rfl, k z h' hp⟩)
theorem kn_137 : am_ml 137 = 5 ∧ am_na 137 = 2 ∧ am_rc 137 = 3 ∧ am_rt 137 = some .boolean := by decide +kernel
theorem kv_137 {q : Nat} {x0 : Int32} {fs : List Value} (hr : h.2.2 q = some (.inr (3, fs))) {P : Bool → am_H → Prop} (hm : am_mb xs L d 137 [.ref q, .int x0] h P) (hc : am_cats st ≤ 8) (k : ∀ (z : Bool) h', P z h' → am_w xs L (d + 1) y is l (.int (if z = true then 1 else 0) :: st) h' Q) : am_w xs L (d + 1) y ((62, 3, 137, 2, cc) :: is) l (.int x0 :: .ref q :: st) h Q :=
  wp_inv [.ref q, .int x0] st hm (Or.inr (Or.inl rfl)) rfl ⟨rfl, (kn_137).2.1.symm⟩ (by unfold am_may; rw [if_neg (by decide)]; show (if (62 : Nat) = 62 then (match h.2.2 q with | some (.inr (ci, _)) => ci == am_rc 137 | _ => false) else _) = true; rw [if_pos rfl, hr, (kn_137).2.2.1]; rfl) hc (by rw [(kn_137).1]; exact Nat.le_of_ble_eq_true rfl) (fun v h' hv => by
    obtain ⟨z, rfl, hp⟩ := hv
    exact ⟨by unfold am_rok; rw [(kn_137).2.2.2]; cases z <;> rfl, k z h' hp⟩)
theorem kn_138 : am_ml 138 = 1 ∧ am_na 138 = 1 ∧ am_rc 138 = 3 ∧ am_rt 138 = some .boolean := by decide +kernel
theorem kv_138 {q : Nat} {fs : List Value} (hr : h.2.2 q = some (.inr (3, fs))) {P : Bool → am_H → Prop} (hm : am_mb xs L d 138 [.ref q] h P) (hc : am_cats st ≤ 8) (k : ∀ (z : Bool) h', P z h' → am_w xs L (d + 1) y is l (.int (if z = true then 1 else 0) :: st) h' Q) : am_w xs L (d + 1) y ((62, 3, 138, 1, cc) :: is) l (.ref q :: st) h Q :=
  wp_inv [.ref q] st hm (Or.inr (Or.inl rfl)) rfl ⟨rfl, (kn_138).2.1.symm⟩ (by unfold am_may; rw [if_neg (by decide)]; show (if (62 : Nat) = 62 then (match h.2.2 q with | some (.inr (ci, _)) => ci == am_rc 138 | _ => false) else _) = true; rw [if_pos rfl, hr, (kn_138).2.2.1]; rfl) hc (by rw [(kn_138).1]; exact Nat.le_of_ble_eq_true rfl) (fun v h' hv => by
    obtain ⟨z, rfl, hp⟩ := hv
    exact ⟨by unfold am_rok; rw [(kn_138).2.2.2]; cases z <;> rfl, k z h' hp⟩)
theorem kn_139 : am_ml 139 = 2 ∧ am_na 139 = 1 ∧ am_rc 139 = 3 ∧ am_rt 139 = some .boolean := by decide +kernel
theorem kv_139 {q : Nat} {fs : List Value} (hr : h.2.2 q = some (.inr (3, fs))) {P : Bool → am_H → Prop} (hm : am_mb xs L d 139 [.ref q] h P) (hc : am_cats st ≤ 8) (k : ∀ (z : Bool) h', P z h' → am_w xs L (d + 1) y is l (.int (if z = true then 1 else 0) :: st) h' Q) : am_w xs L (d + 1) y ((62, 3, 139, 1, cc) :: is) l (.ref q :: st) h Q :=
  wp_inv [.ref q] st hm (Or.inr (Or.inl rfl)) rfl ⟨rfl, (kn_139).2.1.symm⟩ (by unfold am_may; rw [if_neg (by decide)]; show (if (62 : Nat) = 62 then (match h.2.2 q with | some (.inr (ci, _)) => ci == am_rc 139 | _ => false) else _) = true; rw [if_pos rfl, hr, (kn_139).2.2.1]; rfl) hc (by rw [(kn_139).1]; exact Nat.le_of_ble_eq_true rfl) (fun v h' hv => by
    obtain ⟨z, rfl, hp⟩ := hv
    exact ⟨by unfold am_rok; rw [(kn_139).2.2.2]; cases z <;> rfl, k z h' hp⟩)
theorem kn_140 : am_ml 140 = 1 ∧ am_na 140 = 1 ∧ am_rc 140 = 3 ∧ am_rt 140 = some .boolean := by decide +kernel
theorem kv_140 {q : Nat} {fs : List Value} (hr : h.2.2 q = some (.inr (3, fs))) {P : Bool → am_H → Prop} (hm : am_mb xs L d 140 [.ref q] h P) (hc : am_cats st ≤ 8) (k : ∀ (z : Bool) h', P z h' → am_w xs L (d + 1) y is l (.int (if z = true then 1 else 0) :: st) h' Q) : am_w xs L (d + 1) y ((62, 3, 140, 1, cc) :: is) l (.ref q :: st) h Q :=
  wp_inv [.ref q] st hm (Or.inr (Or.inl rfl)) rfl ⟨rfl, (kn_140).2.1.symm⟩ (by unfold am_may; rw [if_neg (by decide)]; show (if (62 : Nat) = 62 then (match h.2.2 q with | some (.inr (ci, _)) => ci == am_rc 140 | _ => false) else _) = true; rw [if_pos rfl, hr, (kn_140).2.2.1]; rfl) hc (by rw [(kn_140).1]; exact Nat.le_of_ble_eq_true rfl) (fun v h' hv => by
    obtain ⟨z, rfl, hp⟩ := hv
    exact ⟨by unfold am_rok; rw [(kn_140).2.2.2]; cases z <;> rfl, k z h' hp⟩)
theorem kn_141 : am_ml 141 = 2 ∧ am_na 141 = 2 ∧ am_rc 141 = 3 ∧ am_rt 141 = some .boolean := by decide +kernel
theorem kv_141 {q : Nat} {x0 : Int32} {fs : List Value} (hr : h.2.2 q = some (.inr (3, fs))) {P : Bool → am_H → Prop} (hm : am_mb xs L d 141 [.ref q, .int x0] h P) (hc : am_cats st ≤ 8) (k : ∀ (z : Bool) h', P z h' → am_w xs L (d + 1) y is l (.int (if z = true then 1 else 0) :: st) h' Q) : am_w xs L (d + 1) y ((62, 3, 141, 2, cc) :: is) l (.int x0 :: .ref q :: st) h Q :=
  wp_inv [.ref q, .int x0] st hm (Or.inr (Or.inl rfl)) rfl ⟨rfl, (kn_141).2.1.symm⟩ (by unfold am_may; rw [if_neg (by decide)]; show (if (62 : Nat) = 62 then (match h.2.2 q with | some (.inr (ci, _)) => ci == am_rc 141 | _ => false) else _) = true; rw [if_pos rfl, hr, (kn_141).2.2.1]; rfl) hc (by rw [(kn_141).1]; exact Nat.le_of_ble_eq_true rfl) (fun v h' hv => by
    obtain ⟨z, rfl, hp⟩ := hv
    exact ⟨by unfold am_rok; rw [(kn_141).2.2.2]; cases z <;> rfl, k z h' hp⟩)
theorem kn_142 : am_ml 142 = 1 ∧ am_na 142 = 1 ∧ am_rc 142 = 3 ∧ am_rt 142 = some .boolean := by decide +kernel
theorem kv_142 {q : Nat} {fs : List Value} (hr : h.2.2 q = some (.inr (3, fs))) {P : Bool → am_H → Prop} (hm : am_mb xs L d 142 [.ref q] h P) (hc : am_cats st ≤ 8) (k : ∀ (z : Bool) h', P z h' → am_w xs L (d + 1) y is l (.int (if z = true then 1 else 0) :: st) h' Q) : am_w xs L (d + 1) y ((62, 3, 142, 1, cc) :: is) l (.ref q :: st) h Q :=
  wp_inv [.ref q] st hm (Or.inr (Or.inl rfl)) rfl ⟨rfl, (kn_142).2.1.symm⟩ (by unfold am_may; rw [if_neg (by decide)]; show (if (62 : Nat) = 62 then (match h.2.2 q with | some (.inr (ci, _)) => ci == am_rc 142 | _ => false) else _) = true; rw [if_pos rfl, hr, (kn_142).2.2.1]; rfl) hc (by rw [(kn_142).1]; exact Nat.le_of_ble_eq_true rfl) (fun v h' hv => by
    obtain ⟨z, rfl, hp⟩ := hv
    exact ⟨by unfold am_rok; rw [(kn_142).2.2.2]; cases z <;> rfl, k z h' hp⟩)
theorem kn_143 : am_ml 143 = 1 ∧ am_na 143 = 1 ∧ am_rc 143 = 3 ∧ am_rt 143 = some .int := by decide +kernel
theorem kv_143 {q : Nat} {fs : List Value} (hr : h.2.2 q = some (.inr (3, fs))) {P : Int32 → am_H → Prop} (hm : am_mi xs L d 143 [.ref q] h P) (hc : am_cats st ≤ 8) (k : ∀ z h', P z h' → am_w xs L (d + 1) y is l (.int z :: st) h' Q) : am_w xs L (d + 1) y ((62, 3, 143, 1, cc) :: is) l (.ref q :: st) h Q :=
  wp_inv [.ref q] st hm (Or.inr (Or.inl rfl)) rfl ⟨rfl, (kn_143).2.1.symm⟩ (by unfold am_may; rw [if_neg (by decide)]; show (if (62 : Nat) = 62 then (match h.2.2 q with | some (.inr (ci, _)) => ci == am_rc 143 | _ => false) else _) = true; rw [if_pos rfl, hr, (kn_143).2.2.1]; rfl) hc (by rw [(kn_143).1]; exact Nat.le_of_ble_eq_true rfl) (fun v h' hv => by
    obtain ⟨z, rfl, hp⟩ := hv
    exact ⟨by unfold am_rok; rw [(kn_143).2.2.2], k z h' hp⟩)
theorem kn_144 : am_ml 144 = 3 ∧ am_na 144 = 2 ∧ am_rc 144 = 3 ∧ am_rt 144 = some (.object "GapLetter$Tongue") := by decide +kernel
theorem kv_144 {q : Nat} {x0 : Nat} {fs : List Value} (hr : h.2.2 q = some (.inr (3, fs))) {P : Nat → am_H → Prop} (hm : am_ma xs L d 144 [.ref q, .ref x0] h P) (hc : am_cats st ≤ 8) (k : ∀ z h', P z h' → am_w xs L (d + 1) y is l (.ref z :: st) h' Q) : am_w xs L (d + 1) y ((62, 3, 144, 2, cc) :: is) l (.ref x0 :: .ref q :: st) h Q :=
  wp_inv [.ref q, .ref x0] st hm (Or.inr (Or.inl rfl)) rfl ⟨rfl, (kn_144).2.1.symm⟩ (by unfold am_may; rw [if_neg (by decide)]; show (if (62 : Nat) = 62 then (match h.2.2 q with | some (.inr (ci, _)) => ci == am_rc 144 | _ => false) else _) = true; rw [if_pos rfl, hr, (kn_144).2.2.1]; rfl) hc (by rw [(kn_144).1]; exact Nat.le_of_ble_eq_true rfl) (fun v h' hv => by
    obtain ⟨z, rfl, hp⟩ := hv
    exact ⟨by unfold am_rok; rw [(kn_144).2.2.2], k z h' hp⟩)
theorem kn_145 : am_ml 145 = 1 ∧ am_na 145 = 1 ∧ am_rc 145 = 4 ∧ am_rt 145 = none := by decide +kernel
theorem kv_145 {q : Nat} {P : am_H → Prop} (hm : am_mv xs L d 145 [.ref q] h P) (hc : am_cats st ≤ 8) (k : ∀ h', P h' → am_w xs L (d + 1) y is l st h' Q) : am_w xs L (d + 1) y ((63, 3, 145, 1, cc) :: is) l (.ref q :: st) h Q :=
  wp_inv [.ref q] st hm (Or.inr (Or.inr rfl)) rfl ⟨rfl, (kn_145).2.1.symm⟩ (by unfold am_may; rw [if_neg (by decide)]; show (if (63 : Nat) = 62 then _ else (am_rc 145 != 99)) = true; rw [if_neg (by decide), (kn_145).2.2.1]; rfl) hc (by rw [(kn_145).1]; exact Nat.le_of_ble_eq_true rfl) (fun v h' hv => by
    obtain ⟨rfl, hp⟩ := hv
    exact ⟨by unfold am_rok; rw [(kn_145).2.2.2], k h' hp⟩)
theorem kn_146 : am_ml 146 = 3 ∧ am_na 146 = 3 ∧ am_rc 146 = 4 ∧ am_rt 146 = none := by decide +kernel
theorem kv_146 {q : Nat} {x0 : Nat} {x1 : Int32} {fs : List Value} (hr : h.2.2 q = some (.inr (4, fs))) {P : am_H → Prop} (hm : am_mv xs L d 146 [.ref q, .ref x0, .int x1] h P) (hc : am_cats st ≤ 8) (k : ∀ h', P h' → am_w xs L (d + 1) y is l st h' Q) : am_w xs L (d + 1) y ((62, 3, 146, 3, cc) :: is) l (.int x1 :: .ref x0 :: .ref q :: st) h Q :=
  wp_inv [.ref q, .ref x0, .int x1] st hm (Or.inr (Or.inl rfl)) rfl ⟨rfl, (kn_146).2.1.symm⟩ (by unfold am_may; rw [if_neg (by decide)]; show (if (62 : Nat) = 62 then (match h.2.2 q with | some (.inr (ci, _)) => ci == am_rc 146 | _ => false) else _) = true; rw [if_pos rfl, hr, (kn_146).2.2.1]; rfl) hc (by rw [(kn_146).1]; exact Nat.le_of_ble_eq_true rfl) (fun v h' hv => by
    obtain ⟨rfl, hp⟩ := hv
    exact ⟨by unfold am_rok; rw [(kn_146).2.2.2], k h' hp⟩)
theorem kn_147 : am_ml 147 = 1 ∧ am_na 147 = 1 ∧ am_rc 147 = 4 ∧ am_rt 147 = none := by decide +kernel
theorem kv_147 {q : Nat} {fs : List Value} (hr : h.2.2 q = some (.inr (4, fs))) {P : am_H → Prop} (hm : am_mv xs L d 147 [.ref q] h P) (hc : am_cats st ≤ 8) (k : ∀ h', P h' → am_w xs L (d + 1) y is l st h' Q) : am_w xs L (d + 1) y ((62, 3, 147, 1, cc) :: is) l (.ref q :: st) h Q :=
  wp_inv [.ref q] st hm (Or.inr (Or.inl rfl)) rfl ⟨rfl, (kn_147).2.1.symm⟩ (by unfold am_may; rw [if_neg (by decide)]; show (if (62 : Nat) = 62 then (match h.2.2 q with | some (.inr (ci, _)) => ci == am_rc 147 | _ => false) else _) = true; rw [if_pos rfl, hr, (kn_147).2.2.1]; rfl) hc (by rw [(kn_147).1]; exact Nat.le_of_ble_eq_true rfl) (fun v h' hv => by
    obtain ⟨rfl, hp⟩ := hv
    exact ⟨by unfold am_rok; rw [(kn_147).2.2.2], k h' hp⟩)
theorem kn_148 : am_ml 148 = 2 ∧ am_na 148 = 2 ∧ am_rc 148 = 4 ∧ am_rt 148 = some .int := by decide +kernel
theorem kv_148 {q : Nat} {x0 : Int32} {fs : List Value} (hr : h.2.2 q = some (.inr (4, fs))) {P : Int32 → am_H → Prop} (hm : am_mi xs L d 148 [.ref q, .int x0] h P) (hc : am_cats st ≤ 8) (k : ∀ z h', P z h' → am_w xs L (d + 1) y is l (.int z :: st) h' Q) : am_w xs L (d + 1) y ((62, 3, 148, 2, cc) :: is) l (.int x0 :: .ref q :: st) h Q :=
  wp_inv [.ref q, .int x0] st hm (Or.inr (Or.inl rfl)) rfl ⟨rfl, (kn_148).2.1.symm⟩ (by unfold am_may; rw [if_neg (by decide)]; show (if (62 : Nat) = 62 then (match h.2.2 q with | some (.inr (ci, _)) => ci == am_rc 148 | _ => false) else _) = true; rw [if_pos rfl, hr, (kn_148).2.2.1]; rfl) hc (by rw [(kn_148).1]; exact Nat.le_of_ble_eq_true rfl) (fun v h' hv => by
    obtain ⟨z, rfl, hp⟩ := hv
    exact ⟨by unfold am_rok; rw [(kn_148).2.2.2], k z h' hp⟩)
theorem kn_149 : am_ml 149 = 1 ∧ am_na 149 = 1 ∧ am_rc 149 = 99 ∧ am_rt 149 = some .boolean := by decide +kernel
theorem kv_149 {x0 : Int32} {P : Bool → am_H → Prop} (hm : am_mb xs L d 149 [.int x0] h P) (hc : am_cats st ≤ 8) (k : ∀ (z : Bool) h', P z h' → am_w xs L (d + 1) y is l (.int (if z = true then 1 else 0) :: st) h' Q) : am_w xs L (d + 1) y ((60, 3, 149, 1, cc) :: is) l (.int x0 :: st) h Q :=
  wp_inv [.int x0] st hm (Or.inl rfl) rfl ⟨rfl, (kn_149).2.1.symm⟩ (by unfold am_may; rw [if_pos rfl, (kn_149).2.2.1]; rfl) hc (by rw [(kn_149).1]; exact Nat.le_of_ble_eq_true rfl) (fun v h' hv => by
    obtain ⟨z, rfl, hp⟩ := hv
    exact ⟨by unfold am_rok; rw [(kn_149).2.2.2]; cases z <;> rfl, k z h' hp⟩)
theorem kn_150 : am_ml 150 = 1 ∧ am_na 150 = 1 ∧ am_rc 150 = 4 ∧ am_rt 150 = none := by decide +kernel
theorem kv_150 {q : Nat} {fs : List Value} (hr : h.2.2 q = some (.inr (4, fs))) {P : am_H → Prop} (hm : am_mv xs L d 150 [.ref q] h P) (hc : am_cats st ≤ 8) (k : ∀ h', P h' → am_w xs L (d + 1) y is l st h' Q) : am_w xs L (d + 1) y ((62, 3, 150, 1, cc) :: is) l (.ref q :: st) h Q :=
  wp_inv [.ref q] st hm (Or.inr (Or.inl rfl)) rfl ⟨rfl, (kn_150).2.1.symm⟩ (by unfold am_may; rw [if_neg (by decide)]; show (if (62 : Nat) = 62 then (match h.2.2 q with | some (.inr (ci, _)) => ci == am_rc 150 | _ => false) else _) = true; rw [if_pos rfl, hr, (kn_150).2.2.1]; rfl) hc (by rw [(kn_150).1]; exact Nat.le_of_ble_eq_true rfl) (fun v h' hv => by
    obtain ⟨rfl, hp⟩ := hv
    exact ⟨by unfold am_rok; rw [(kn_150).2.2.2], k h' hp⟩)
theorem kn_151 : am_ml 151 = 1 ∧ am_na 151 = 1 ∧ am_rc 151 = 99 ∧ am_rt 151 = some .boolean := by decide +kernel
theorem kv_151 {x0 : Int32} {P : Bool → am_H → Prop} (hm : am_mb xs L d 151 [.int x0] h P) (hc : am_cats st ≤ 8) (k : ∀ (z : Bool) h', P z h' → am_w xs L (d + 1) y is l (.int (if z = true then 1 else 0) :: st) h' Q) : am_w xs L (d + 1) y ((60, 3, 151, 1, cc) :: is) l (.int x0 :: st) h Q :=
  wp_inv [.int x0] st hm (Or.inl rfl) rfl ⟨rfl, (kn_151).2.1.symm⟩ (by unfold am_may; rw [if_pos rfl, (kn_151).2.2.1]; rfl) hc (by rw [(kn_151).1]; exact Nat.le_of_ble_eq_true rfl) (fun v h' hv => by
    obtain ⟨z, rfl, hp⟩ := hv
    exact ⟨by unfold am_rok; rw [(kn_151).2.2.2]; cases z <;> rfl, k z h' hp⟩)
theorem kn_152 : am_ml 152 = 1 ∧ am_na 152 = 1 ∧ am_rc 152 = 4 ∧ am_rt 152 = none := by decide +kernel
theorem kv_152 {q : Nat} {fs : List Value} (hr : h.2.2 q = some (.inr (4, fs))) {P : am_H → Prop} (hm : am_mv xs L d 152 [.ref q] h P) (hc : am_cats st ≤ 8) (k : ∀ h', P h' → am_w xs L (d + 1) y is l st h' Q) : am_w xs L (d + 1) y ((62, 3, 152, 1, cc) :: is) l (.ref q :: st) h Q :=
  wp_inv [.ref q] st hm (Or.inr (Or.inl rfl)) rfl ⟨rfl, (kn_152).2.1.symm⟩ (by unfold am_may; rw [if_neg (by decide)]; show (if (62 : Nat) = 62 then (match h.2.2 q with | some (.inr (ci, _)) => ci == am_rc 152 | _ => false) else _) = true; rw [if_pos rfl, hr, (kn_152).2.2.1]; rfl) hc (by rw [(kn_152).1]; exact Nat.le_of_ble_eq_true rfl) (fun v h' hv => by
    obtain ⟨rfl, hp⟩ := hv
    exact ⟨by unfold am_rok; rw [(kn_152).2.2.2], k h' hp⟩)
theorem kn_153 : am_ml 153 = 2 ∧ am_na 153 = 1 ∧ am_rc 153 = 4 ∧ am_rt 153 = none := by decide +kernel
theorem kv_153 {q : Nat} {fs : List Value} (hr : h.2.2 q = some (.inr (4, fs))) {P : am_H → Prop} (hm : am_mv xs L d 153 [.ref q] h P) (hc : am_cats st ≤ 8) (k : ∀ h', P h' → am_w xs L (d + 1) y is l st h' Q) : am_w xs L (d + 1) y ((62, 3, 153, 1, cc) :: is) l (.ref q :: st) h Q :=
  wp_inv [.ref q] st hm (Or.inr (Or.inl rfl)) rfl ⟨rfl, (kn_153).2.1.symm⟩ (by unfold am_may; rw [if_neg (by decide)]; show (if (62 : Nat) = 62 then (match h.2.2 q with | some (.inr (ci, _)) => ci == am_rc 153 | _ => false) else _) = true; rw [if_pos rfl, hr, (kn_153).2.2.1]; rfl) hc (by rw [(kn_153).1]; exact Nat.le_of_ble_eq_true rfl) (fun v h' hv => by
    obtain ⟨rfl, hp⟩ := hv
    exact ⟨by unfold am_rok; rw [(kn_153).2.2.2], k h' hp⟩)
theorem kn_154 : am_ml 154 = 1 ∧ am_na 154 = 1 ∧ am_rc 154 = 5 ∧ am_rt 154 = none := by decide +kernel
theorem kv_154 {q : Nat} {P : am_H → Prop} (hm : am_mv xs L d 154 [.ref q] h P) (hc : am_cats st ≤ 8) (k : ∀ h', P h' → am_w xs L (d + 1) y is l st h' Q) : am_w xs L (d + 1) y ((63, 3, 154, 1, cc) :: is) l (.ref q :: st) h Q :=
  wp_inv [.ref q] st hm (Or.inr (Or.inr rfl)) rfl ⟨rfl, (kn_154).2.1.symm⟩ (by unfold am_may; rw [if_neg (by decide)]; show (if (63 : Nat) = 62 then _ else (am_rc 154 != 99)) = true; rw [if_neg (by decide), (kn_154).2.2.1]; rfl) hc (by rw [(kn_154).1]; exact Nat.le_of_ble_eq_true rfl) (fun v h' hv => by
    obtain ⟨rfl, hp⟩ := hv
    exact ⟨by unfold am_rok; rw [(kn_154).2.2.2], k h' hp⟩)
theorem kn_155 : am_ml 155 = 1 ∧ am_na 155 = 1 ∧ am_rc 155 = 5 ∧ am_rt 155 = none := by decide +kernel
theorem kv_155 {q : Nat} {fs : List Value} (hr : h.2.2 q = some (.inr (5, fs))) {P : am_H → Prop} (hm : am_mv xs L d 155 [.ref q] h P) (hc : am_cats st ≤ 8) (k : ∀ h', P h' → am_w xs L (d + 1) y is l st h' Q) : am_w xs L (d + 1) y ((62, 3, 155, 1, cc) :: is) l (.ref q :: st) h Q :=
  wp_inv [.ref q] st hm (Or.inr (Or.inl rfl)) rfl ⟨rfl, (kn_155).2.1.symm⟩ (by unfold am_may; rw [if_neg (by decide)]; show (if (62 : Nat) = 62 then (match h.2.2 q with | some (.inr (ci, _)) => ci == am_rc 155 | _ => false) else _) = true; rw [if_pos rfl, hr, (kn_155).2.2.1]; rfl) hc (by rw [(kn_155).1]; exact Nat.le_of_ble_eq_true rfl) (fun v h' hv => by
    obtain ⟨rfl, hp⟩ := hv
    exact ⟨by unfold am_rok; rw [(kn_155).2.2.2], k h' hp⟩)
theorem kn_156 : am_ml 156 = 4 ∧ am_na 156 = 2 ∧ am_rc 156 = 5 ∧ am_rt 156 = some .boolean := by decide +kernel
theorem kv_156 {q : Nat} {x0 : Int64} {fs : List Value} (hr : h.2.2 q = some (.inr (5, fs))) {P : Bool → am_H → Prop} (hm : am_mb xs L d 156 [.ref q, .long x0] h P) (hc : am_cats st ≤ 8) (k : ∀ (z : Bool) h', P z h' → am_w xs L (d + 1) y is l (.int (if z = true then 1 else 0) :: st) h' Q) : am_w xs L (d + 1) y ((62, 3, 156, 2, cc) :: is) l (.long x0 :: .ref q :: st) h Q :=
  wp_inv [.ref q, .long x0] st hm (Or.inr (Or.inl rfl)) rfl ⟨rfl, (kn_156).2.1.symm⟩ (by unfold am_may; rw [if_neg (by decide)]; show (if (62 : Nat) = 62 then (match h.2.2 q with | some (.inr (ci, _)) => ci == am_rc 156 | _ => false) else _) = true; rw [if_pos rfl, hr, (kn_156).2.2.1]; rfl) hc (by rw [(kn_156).1]; exact Nat.le_of_ble_eq_true rfl) (fun v h' hv => by
    obtain ⟨z, rfl, hp⟩ := hv
    exact ⟨by unfold am_rok; rw [(kn_156).2.2.2]; cases z <;> rfl, k z h' hp⟩)
theorem kn_157 : am_ml 157 = 4 ∧ am_na 157 = 2 ∧ am_rc 157 = 5 ∧ am_rt 157 = some .int := by decide +kernel
theorem kv_157 {q : Nat} {x0 : Int64} {fs : List Value} (hr : h.2.2 q = some (.inr (5, fs))) {P : Int32 → am_H → Prop} (hm : am_mi xs L d 157 [.ref q, .long x0] h P) (hc : am_cats st ≤ 8) (k : ∀ z h', P z h' → am_w xs L (d + 1) y is l (.int z :: st) h' Q) : am_w xs L (d + 1) y ((62, 3, 157, 2, cc) :: is) l (.long x0 :: .ref q :: st) h Q :=
  wp_inv [.ref q, .long x0] st hm (Or.inr (Or.inl rfl)) rfl ⟨rfl, (kn_157).2.1.symm⟩ (by unfold am_may; rw [if_neg (by decide)]; show (if (62 : Nat) = 62 then (match h.2.2 q with | some (.inr (ci, _)) => ci == am_rc 157 | _ => false) else _) = true; rw [if_pos rfl, hr, (kn_157).2.2.1]; rfl) hc (by rw [(kn_157).1]; exact Nat.le_of_ble_eq_true rfl) (fun v h' hv => by
    obtain ⟨z, rfl, hp⟩ := hv
    exact ⟨by unfold am_rok; rw [(kn_157).2.2.2], k z h' hp⟩)
theorem kn_158 : am_ml 158 = 3 ∧ am_na 158 = 2 ∧ am_rc 158 = 5 ∧ am_rt 158 = none := by decide +kernel
theorem kv_158 {q : Nat} {x0 : Int64} {fs : List Value} (hr : h.2.2 q = some (.inr (5, fs))) {P : am_H → Prop} (hm : am_mv xs L d 158 [.ref q, .long x0] h P) (hc : am_cats st ≤ 8) (k : ∀ h', P h' → am_w xs L (d + 1) y is l st h' Q) : am_w xs L (d + 1) y ((62, 3, 158, 2, cc) :: is) l (.long x0 :: .ref q :: st) h Q :=
  wp_inv [.ref q, .long x0] st hm (Or.inr (Or.inl rfl)) rfl ⟨rfl, (kn_158).2.1.symm⟩ (by unfold am_may; rw [if_neg (by decide)]; show (if (62 : Nat) = 62 then (match h.2.2 q with | some (.inr (ci, _)) => ci == am_rc 158 | _ => false) else _) = true; rw [if_pos rfl, hr, (kn_158).2.2.1]; rfl) hc (by rw [(kn_158).1]; exact Nat.le_of_ble_eq_true rfl) (fun v h' hv => by
    obtain ⟨rfl, hp⟩ := hv
    exact ⟨by unfold am_rok; rw [(kn_158).2.2.2], k h' hp⟩)
theorem kn_159 : am_ml 159 = 3 ∧ am_na 159 = 2 ∧ am_rc 159 = 5 ∧ am_rt 159 = none := by decide +kernel
theorem kv_159 {q : Nat} {x0 : Int64} {fs : List Value} (hr : h.2.2 q = some (.inr (5, fs))) {P : am_H → Prop} (hm : am_mv xs L d 159 [.ref q, .long x0] h P) (hc : am_cats st ≤ 8) (k : ∀ h', P h' → am_w xs L (d + 1) y is l st h' Q) : am_w xs L (d + 1) y ((62, 3, 159, 2, cc) :: is) l (.long x0 :: .ref q :: st) h Q :=
  wp_inv [.ref q, .long x0] st hm (Or.inr (Or.inl rfl)) rfl ⟨rfl, (kn_159).2.1.symm⟩ (by unfold am_may; rw [if_neg (by decide)]; show (if (62 : Nat) = 62 then (match h.2.2 q with | some (.inr (ci, _)) => ci == am_rc 159 | _ => false) else _) = true; rw [if_pos rfl, hr, (kn_159).2.2.1]; rfl) hc (by rw [(kn_159).1]; exact Nat.le_of_ble_eq_true rfl) (fun v h' hv => by
    obtain ⟨rfl, hp⟩ := hv
    exact ⟨by unfold am_rok; rw [(kn_159).2.2.2], k h' hp⟩)
theorem kn_160 : am_ml 160 = 3 ∧ am_na 160 = 2 ∧ am_rc 160 = 5 ∧ am_rt 160 = none := by decide +kernel
theorem kv_160 {q : Nat} {x0 : Int32} {fs : List Value} (hr : h.2.2 q = some (.inr (5, fs))) {P : am_H → Prop} (hm : am_mv xs L d 160 [.ref q, .int x0] h P) (hc : am_cats st ≤ 8) (k : ∀ h', P h' → am_w xs L (d + 1) y is l st h' Q) : am_w xs L (d + 1) y ((62, 3, 160, 2, cc) :: is) l (.int x0 :: .ref q :: st) h Q :=
  wp_inv [.ref q, .int x0] st hm (Or.inr (Or.inl rfl)) rfl ⟨rfl, (kn_160).2.1.symm⟩ (by unfold am_may; rw [if_neg (by decide)]; show (if (62 : Nat) = 62 then (match h.2.2 q with | some (.inr (ci, _)) => ci == am_rc 160 | _ => false) else _) = true; rw [if_pos rfl, hr, (kn_160).2.2.1]; rfl) hc (by rw [(kn_160).1]; exact Nat.le_of_ble_eq_true rfl) (fun v h' hv => by
    obtain ⟨rfl, hp⟩ := hv
    exact ⟨by unfold am_rok; rw [(kn_160).2.2.2], k h' hp⟩)
theorem kn_161 : am_ml 161 = 4 ∧ am_na 161 = 2 ∧ am_rc 161 = 5 ∧ am_rt 161 = some .boolean := by decide +kernel
theorem kv_161 {q : Nat} {x0 : Int64} {fs : List Value} (hr : h.2.2 q = some (.inr (5, fs))) {P : Bool → am_H → Prop} (hm : am_mb xs L d 161 [.ref q, .long x0] h P) (hc : am_cats st ≤ 8) (k : ∀ (z : Bool) h', P z h' → am_w xs L (d + 1) y is l (.int (if z = true then 1 else 0) :: st) h' Q) : am_w xs L (d + 1) y ((62, 3, 161, 2, cc) :: is) l (.long x0 :: .ref q :: st) h Q :=
  wp_inv [.ref q, .long x0] st hm (Or.inr (Or.inl rfl)) rfl ⟨rfl, (kn_161).2.1.symm⟩ (by unfold am_may; rw [if_neg (by decide)]; show (if (62 : Nat) = 62 then (match h.2.2 q with | some (.inr (ci, _)) => ci == am_rc 161 | _ => false) else _) = true; rw [if_pos rfl, hr, (kn_161).2.2.1]; rfl) hc (by rw [(kn_161).1]; exact Nat.le_of_ble_eq_true rfl) (fun v h' hv => by
    obtain ⟨z, rfl, hp⟩ := hv
    exact ⟨by unfold am_rok; rw [(kn_161).2.2.2]; cases z <;> rfl, k z h' hp⟩)
theorem kn_162 : am_ml 162 = 4 ∧ am_na 162 = 3 ∧ am_rc 162 = 5 ∧ am_rt 162 = none := by decide +kernel
theorem kv_162 {q : Nat} {x0 : Int64} {x1 : Int32} {fs : List Value} (hr : h.2.2 q = some (.inr (5, fs))) {P : am_H → Prop} (hm : am_mv xs L d 162 [.ref q, .long x0, .int x1] h P) (hc : am_cats st ≤ 8) (k : ∀ h', P h' → am_w xs L (d + 1) y is l st h' Q) : am_w xs L (d + 1) y ((62, 3, 162, 3, cc) :: is) l (.int x1 :: .long x0 :: .ref q :: st) h Q :=
  wp_inv [.ref q, .long x0, .int x1] st hm (Or.inr (Or.inl rfl)) rfl ⟨rfl, (kn_162).2.1.symm⟩ (by unfold am_may; rw [if_neg (by decide)]; show (if (62 : Nat) = 62 then (match h.2.2 q with | some (.inr (ci, _)) => ci == am_rc 162 | _ => false) else _) = true; rw [if_pos rfl, hr, (kn_162).2.2.1]; rfl) hc (by rw [(kn_162).1]; exact Nat.le_of_ble_eq_true rfl) (fun v h' hv => by
    obtain ⟨rfl, hp⟩ := hv
    exact ⟨by unfold am_rok; rw [(kn_162).2.2.2], k h' hp⟩)
theorem kn_163 : am_ml 163 = 5 ∧ am_na 163 = 4 ∧ am_rc 163 = 5 ∧ am_rt 163 = none := by decide +kernel
theorem kv_163 {q : Nat} {x0 : Int32} {x1 : Int64} {x2 : Int32} {fs : List Value} (hr : h.2.2 q = some (.inr (5, fs))) {P : am_H → Prop} (hm : am_mv xs L d 163 [.ref q, .int x0, .long x1, .int x2] h P) (hc : am_cats st ≤ 8) (k : ∀ h', P h' → am_w xs L (d + 1) y is l st h' Q) : am_w xs L (d + 1) y ((62, 3, 163, 4, cc) :: is) l (.int x2 :: .long x1 :: .int x0 :: .ref q :: st) h Q :=
  wp_inv [.ref q, .int x0, .long x1, .int x2] st hm (Or.inr (Or.inl rfl)) rfl ⟨rfl, (kn_163).2.1.symm⟩ (by unfold am_may; rw [if_neg (by decide)]; show (if (62 : Nat) = 62 then (match h.2.2 q with | some (.inr (ci, _)) => ci == am_rc 163 | _ => false) else _) = true; rw [if_pos rfl, hr, (kn_163).2.2.1]; rfl) hc (by rw [(kn_163).1]; exact Nat.le_of_ble_eq_true rfl) (fun v h' hv => by
    obtain ⟨rfl, hp⟩ := hv
    exact ⟨by unfold am_rok; rw [(kn_163).2.2.2], k h' hp⟩)
theorem kn_164 : am_ml 164 = 4 ∧ am_na 164 = 3 ∧ am_rc 164 = 5 ∧ am_rt 164 = none := by decide +kernel
theorem kv_164 {q : Nat} {x0 : Int64} {x1 : Int32} {fs : List Value} (hr : h.2.2 q = some (.inr (5, fs))) {P : am_H → Prop} (hm : am_mv xs L d 164 [.ref q, .long x0, .int x1] h P) (hc : am_cats st ≤ 8) (k : ∀ h', P h' → am_w xs L (d + 1) y is l st h' Q) : am_w xs L (d + 1) y ((62, 3, 164, 3, cc) :: is) l (.int x1 :: .long x0 :: .ref q :: st) h Q :=
  wp_inv [.ref q, .long x0, .int x1] st hm (Or.inr (Or.inl rfl)) rfl ⟨rfl, (kn_164).2.1.symm⟩ (by unfold am_may; rw [if_neg (by decide)]; show (if (62 : Nat) = 62 then (match h.2.2 q with | some (.inr (ci, _)) => ci == am_rc 164 | _ => false) else _) = true; rw [if_pos rfl, hr, (kn_164).2.2.1]; rfl) hc (by rw [(kn_164).1]; exact Nat.le_of_ble_eq_true rfl) (fun v h' hv => by
    obtain ⟨rfl, hp⟩ := hv
    exact ⟨by unfold am_rok; rw [(kn_164).2.2.2], k h' hp⟩)
theorem kn_165 : am_ml 165 = 2 ∧ am_na 165 = 2 ∧ am_rc 165 = 5 ∧ am_rt 165 = some .boolean := by decide +kernel
theorem kv_165 {q : Nat} {x0 : Int32} {fs : List Value} (hr : h.2.2 q = some (.inr (5, fs))) {P : Bool → am_H → Prop} (hm : am_mb xs L d 165 [.ref q, .int x0] h P) (hc : am_cats st ≤ 8) (k : ∀ (z : Bool) h', P z h' → am_w xs L (d + 1) y is l (.int (if z = true then 1 else 0) :: st) h' Q) : am_w xs L (d + 1) y ((62, 3, 165, 2, cc) :: is) l (.int x0 :: .ref q :: st) h Q :=
  wp_inv [.ref q, .int x0] st hm (Or.inr (Or.inl rfl)) rfl ⟨rfl, (kn_165).2.1.symm⟩ (by unfold am_may; rw [if_neg (by decide)]; show (if (62 : Nat) = 62 then (match h.2.2 q with | some (.inr (ci, _)) => ci == am_rc 165 | _ => false) else _) = true; rw [if_pos rfl, hr, (kn_165).2.2.1]; rfl) hc (by rw [(kn_165).1]; exact Nat.le_of_ble_eq_true rfl) (fun v h' hv => by
    obtain ⟨z, rfl, hp⟩ := hv
    exact ⟨by unfold am_rok; rw [(kn_165).2.2.2]; cases z <;> rfl, k z h' hp⟩)
theorem kn_166 : am_ml 166 = 3 ∧ am_na 166 = 3 ∧ am_rc 166 = 5 ∧ am_rt 166 = none := by decide +kernel
theorem kv_166 {q : Nat} {x0 : Int32} {x1 : Int32} {fs : List Value} (hr : h.2.2 q = some (.inr (5, fs))) {P : am_H → Prop} (hm : am_mv xs L d 166 [.ref q, .int x0, .int x1] h P) (hc : am_cats st ≤ 8) (k : ∀ h', P h' → am_w xs L (d + 1) y is l st h' Q) : am_w xs L (d + 1) y ((62, 3, 166, 3, cc) :: is) l (.int x1 :: .int x0 :: .ref q :: st) h Q :=
  wp_inv [.ref q, .int x0, .int x1] st hm (Or.inr (Or.inl rfl)) rfl ⟨rfl, (kn_166).2.1.symm⟩ (by unfold am_may; rw [if_neg (by decide)]; show (if (62 : Nat) = 62 then (match h.2.2 q with | some (.inr (ci, _)) => ci == am_rc 166 | _ => false) else _) = true; rw [if_pos rfl, hr, (kn_166).2.2.1]; rfl) hc (by rw [(kn_166).1]; exact Nat.le_of_ble_eq_true rfl) (fun v h' hv => by
    obtain ⟨rfl, hp⟩ := hv
    exact ⟨by unfold am_rok; rw [(kn_166).2.2.2], k h' hp⟩)
theorem kn_167 : am_ml 167 = 3 ∧ am_na 167 = 2 ∧ am_rc 167 = 5 ∧ am_rt 167 = none := by decide +kernel
theorem kv_167 {q : Nat} {x0 : Int64} {fs : List Value} (hr : h.2.2 q = some (.inr (5, fs))) {P : am_H → Prop} (hm : am_mv xs L d 167 [.ref q, .long x0] h P) (hc : am_cats st ≤ 8) (k : ∀ h', P h' → am_w xs L (d + 1) y is l st h' Q) : am_w xs L (d + 1) y ((62, 3, 167, 2, cc) :: is) l (.long x0 :: .ref q :: st) h Q :=
  wp_inv [.ref q, .long x0] st hm (Or.inr (Or.inl rfl)) rfl ⟨rfl, (kn_167).2.1.symm⟩ (by unfold am_may; rw [if_neg (by decide)]; show (if (62 : Nat) = 62 then (match h.2.2 q with | some (.inr (ci, _)) => ci == am_rc 167 | _ => false) else _) = true; rw [if_pos rfl, hr, (kn_167).2.2.1]; rfl) hc (by rw [(kn_167).1]; exact Nat.le_of_ble_eq_true rfl) (fun v h' hv => by
    obtain ⟨rfl, hp⟩ := hv
    exact ⟨by unfold am_rok; rw [(kn_167).2.2.2], k h' hp⟩)
theorem kn_168 : am_ml 168 = 4 ∧ am_na 168 = 3 ∧ am_rc 168 = 5 ∧ am_rt 168 = none := by decide +kernel
theorem kv_168 {q : Nat} {x0 : Int64} {x1 : Int32} {fs : List Value} (hr : h.2.2 q = some (.inr (5, fs))) {P : am_H → Prop} (hm : am_mv xs L d 168 [.ref q, .long x0, .int x1] h P) (hc : am_cats st ≤ 8) (k : ∀ h', P h' → am_w xs L (d + 1) y is l st h' Q) : am_w xs L (d + 1) y ((62, 3, 168, 3, cc) :: is) l (.int x1 :: .long x0 :: .ref q :: st) h Q :=
  wp_inv [.ref q, .long x0, .int x1] st hm (Or.inr (Or.inl rfl)) rfl ⟨rfl, (kn_168).2.1.symm⟩ (by unfold am_may; rw [if_neg (by decide)]; show (if (62 : Nat) = 62 then (match h.2.2 q with | some (.inr (ci, _)) => ci == am_rc 168 | _ => false) else _) = true; rw [if_pos rfl, hr, (kn_168).2.2.1]; rfl) hc (by rw [(kn_168).1]; exact Nat.le_of_ble_eq_true rfl) (fun v h' hv => by
    obtain ⟨rfl, hp⟩ := hv
    exact ⟨by unfold am_rok; rw [(kn_168).2.2.2], k h' hp⟩)
theorem kn_169 : am_ml 169 = 4 ∧ am_na 169 = 1 ∧ am_rc 169 = 5 ∧ am_rt 169 = none := by decide +kernel
theorem kv_169 {q : Nat} {fs : List Value} (hr : h.2.2 q = some (.inr (5, fs))) {P : am_H → Prop} (hm : am_mv xs L d 169 [.ref q] h P) (hc : am_cats st ≤ 8) (k : ∀ h', P h' → am_w xs L (d + 1) y is l st h' Q) : am_w xs L (d + 1) y ((62, 3, 169, 1, cc) :: is) l (.ref q :: st) h Q :=
  wp_inv [.ref q] st hm (Or.inr (Or.inl rfl)) rfl ⟨rfl, (kn_169).2.1.symm⟩ (by unfold am_may; rw [if_neg (by decide)]; show (if (62 : Nat) = 62 then (match h.2.2 q with | some (.inr (ci, _)) => ci == am_rc 169 | _ => false) else _) = true; rw [if_pos rfl, hr, (kn_169).2.2.1]; rfl) hc (by rw [(kn_169).1]; exact Nat.le_of_ble_eq_true rfl) (fun v h' hv => by
    obtain ⟨rfl, hp⟩ := hv
    exact ⟨by unfold am_rok; rw [(kn_169).2.2.2], k h' hp⟩)
theorem kn_170 : am_ml 170 = 1 ∧ am_na 170 = 1 ∧ am_rc 170 = 5 ∧ am_rt 170 = some .int := by decide +kernel
theorem kv_170 {q : Nat} {fs : List Value} (hr : h.2.2 q = some (.inr (5, fs))) {P : Int32 → am_H → Prop} (hm : am_mi xs L d 170 [.ref q] h P) (hc : am_cats st ≤ 8) (k : ∀ z h', P z h' → am_w xs L (d + 1) y is l (.int z :: st) h' Q) : am_w xs L (d + 1) y ((62, 3, 170, 1, cc) :: is) l (.ref q :: st) h Q :=
  wp_inv [.ref q] st hm (Or.inr (Or.inl rfl)) rfl ⟨rfl, (kn_170).2.1.symm⟩ (by unfold am_may; rw [if_neg (by decide)]; show (if (62 : Nat) = 62 then (match h.2.2 q with | some (.inr (ci, _)) => ci == am_rc 170 | _ => false) else _) = true; rw [if_pos rfl, hr, (kn_170).2.2.1]; rfl) hc (by rw [(kn_170).1]; exact Nat.le_of_ble_eq_true rfl) (fun v h' hv => by
    obtain ⟨z, rfl, hp⟩ := hv
    exact ⟨by unfold am_rok; rw [(kn_170).2.2.2], k z h' hp⟩)
theorem kn_171 : am_ml 171 = 4 ∧ am_na 171 = 2 ∧ am_rc 171 = 5 ∧ am_rt 171 = some .int := by decide +kernel
theorem kv_171 {q : Nat} {x0 : Int32} {fs : List Value} (hr : h.2.2 q = some (.inr (5, fs))) {P : Int32 → am_H → Prop} (hm : am_mi xs L d 171 [.ref q, .int x0] h P) (hc : am_cats st ≤ 8) (k : ∀ z h', P z h' → am_w xs L (d + 1) y is l (.int z :: st) h' Q) : am_w xs L (d + 1) y ((62, 3, 171, 2, cc) :: is) l (.int x0 :: .ref q :: st) h Q :=
  wp_inv [.ref q, .int x0] st hm (Or.inr (Or.inl rfl)) rfl ⟨rfl, (kn_171).2.1.symm⟩ (by unfold am_may; rw [if_neg (by decide)]; show (if (62 : Nat) = 62 then (match h.2.2 q with | some (.inr (ci, _)) => ci == am_rc 171 | _ => false) else _) = true; rw [if_pos rfl, hr, (kn_171).2.2.1]; rfl) hc (by rw [(kn_171).1]; exact Nat.le_of_ble_eq_true rfl) (fun v h' hv => by
    obtain ⟨z, rfl, hp⟩ := hv
    exact ⟨by unfold am_rok; rw [(kn_171).2.2.2], k z h' hp⟩)
theorem kn_172 : am_ml 172 = 5 ∧ am_na 172 = 3 ∧ am_rc 172 = 5 ∧ am_rt 172 = some .int := by decide +kernel
theorem kv_172 {q : Nat} {x0 : Int32} {x1 : Int32} {fs : List Value} (hr : h.2.2 q = some (.inr (5, fs))) {P : Int32 → am_H → Prop} (hm : am_mi xs L d 172 [.ref q, .int x0, .int x1] h P) (hc : am_cats st ≤ 8) (k : ∀ z h', P z h' → am_w xs L (d + 1) y is l (.int z :: st) h' Q) : am_w xs L (d + 1) y ((62, 3, 172, 3, cc) :: is) l (.int x1 :: .int x0 :: .ref q :: st) h Q :=
  wp_inv [.ref q, .int x0, .int x1] st hm (Or.inr (Or.inl rfl)) rfl ⟨rfl, (kn_172).2.1.symm⟩ (by unfold am_may; rw [if_neg (by decide)]; show (if (62 : Nat) = 62 then (match h.2.2 q with | some (.inr (ci, _)) => ci == am_rc 172 | _ => false) else _) = true; rw [if_pos rfl, hr, (kn_172).2.2.1]; rfl) hc (by rw [(kn_172).1]; exact Nat.le_of_ble_eq_true rfl) (fun v h' hv => by
    obtain ⟨z, rfl, hp⟩ := hv
    exact ⟨by unfold am_rok; rw [(kn_172).2.2.2], k z h' hp⟩)
theorem kn_173 : am_ml 173 = 2 ∧ am_na 173 = 2 ∧ am_rc 173 = 5 ∧ am_rt 173 = some .int := by decide +kernel
theorem kv_173 {q : Nat} {x0 : Int32} {fs : List Value} (hr : h.2.2 q = some (.inr (5, fs))) {P : Int32 → am_H → Prop} (hm : am_mi xs L d 173 [.ref q, .int x0] h P) (hc : am_cats st ≤ 8) (k : ∀ z h', P z h' → am_w xs L (d + 1) y is l (.int z :: st) h' Q) : am_w xs L (d + 1) y ((62, 3, 173, 2, cc) :: is) l (.int x0 :: .ref q :: st) h Q :=
  wp_inv [.ref q, .int x0] st hm (Or.inr (Or.inl rfl)) rfl ⟨rfl, (kn_173).2.1.symm⟩ (by unfold am_may; rw [if_neg (by decide)]; show (if (62 : Nat) = 62 then (match h.2.2 q with | some (.inr (ci, _)) => ci == am_rc 173 | _ => false) else _) = true; rw [if_pos rfl, hr, (kn_173).2.2.1]; rfl) hc (by rw [(kn_173).1]; exact Nat.le_of_ble_eq_true rfl) (fun v h' hv => by
    obtain ⟨z, rfl, hp⟩ := hv
    exact ⟨by unfold am_rok; rw [(kn_173).2.2.2], k z h' hp⟩)
theorem kn_174 : am_ml 174 = 7 ∧ am_na 174 = 3 ∧ am_rc 174 = 5 ∧ am_rt 174 = some .int := by decide +kernel
theorem kv_174 {q : Nat} {x0 : Int32} {x1 : Int32} {fs : List Value} (hr : h.2.2 q = some (.inr (5, fs))) {P : Int32 → am_H → Prop} (hm : am_mi xs L d 174 [.ref q, .int x0, .int x1] h P) (hc : am_cats st ≤ 8) (k : ∀ z h', P z h' → am_w xs L (d + 1) y is l (.int z :: st) h' Q) : am_w xs L (d + 1) y ((62, 3, 174, 3, cc) :: is) l (.int x1 :: .int x0 :: .ref q :: st) h Q :=
  wp_inv [.ref q, .int x0, .int x1] st hm (Or.inr (Or.inl rfl)) rfl ⟨rfl, (kn_174).2.1.symm⟩ (by unfold am_may; rw [if_neg (by decide)]; show (if (62 : Nat) = 62 then (match h.2.2 q with | some (.inr (ci, _)) => ci == am_rc 174 | _ => false) else _) = true; rw [if_pos rfl, hr, (kn_174).2.2.1]; rfl) hc (by rw [(kn_174).1]; exact Nat.le_of_ble_eq_true rfl) (fun v h' hv => by
    obtain ⟨z, rfl, hp⟩ := hv
    exact ⟨by unfold am_rok; rw [(kn_174).2.2.2], k z h' hp⟩)
theorem kn_175 : am_ml 175 = 6 ∧ am_na 175 = 3 ∧ am_rc 175 = 5 ∧ am_rt 175 = some .int := by decide +kernel
theorem kv_175 {q : Nat} {x0 : Int32} {x1 : Int32} {fs : List Value} (hr : h.2.2 q = some (.inr (5, fs))) {P : Int32 → am_H → Prop} (hm : am_mi xs L d 175 [.ref q, .int x0, .int x1] h P) (hc : am_cats st ≤ 8) (k : ∀ z h', P z h' → am_w xs L (d + 1) y is l (.int z :: st) h' Q) : am_w xs L (d + 1) y ((62, 3, 175, 3, cc) :: is) l (.int x1 :: .int x0 :: .ref q :: st) h Q :=
  wp_inv [.ref q, .int x0, .int x1] st hm (Or.inr (Or.inl rfl)) rfl ⟨rfl, (kn_175).2.1.symm⟩ (by unfold am_may; rw [if_neg (by decide)]; show (if (62 : Nat) = 62 then (match h.2.2 q with | some (.inr (ci, _)) => ci == am_rc 175 | _ => false) else _) = true; rw [if_pos rfl, hr, (kn_175).2.2.1]; rfl) hc (by rw [(kn_175).1]; exact Nat.le_of_ble_eq_true rfl) (fun v h' hv => by
    obtain ⟨z, rfl, hp⟩ := hv
    exact ⟨by unfold am_rok; rw [(kn_175).2.2.2], k z h' hp⟩)
theorem kn_176 : am_ml 176 = 4 ∧ am_na 176 = 3 ∧ am_rc 176 = 5 ∧ am_rt 176 = some .int := by decide +kernel
theorem kv_176 {q : Nat} {x0 : Int32} {x1 : Int32} {fs : List Value} (hr : h.2.2 q = some (.inr (5, fs))) {P : Int32 → am_H → Prop} (hm : am_mi xs L d 176 [.ref q, .int x0, .int x1] h P) (hc : am_cats st ≤ 8) (k : ∀ z h', P z h' → am_w xs L (d + 1) y is l (.int z :: st) h' Q) : am_w xs L (d + 1) y ((62, 3, 176, 3, cc) :: is) l (.int x1 :: .int x0 :: .ref q :: st) h Q :=
  wp_inv [.ref q, .int x0, .int x1] st hm (Or.inr (Or.inl rfl)) rfl ⟨rfl, (kn_176).2.1.symm⟩ (by unfold am_may; rw [if_neg (by decide)]; show (if (62 : Nat) = 62 then (match h.2.2 q with | some (.inr (ci, _)) => ci == am_rc 176 | _ => false) else _) = true; rw [if_pos rfl, hr, (kn_176).2.2.1]; rfl) hc (by rw [(kn_176).1]; exact Nat.le_of_ble_eq_true rfl) (fun v h' hv => by
    obtain ⟨z, rfl, hp⟩ := hv
    exact ⟨by unfold am_rok; rw [(kn_176).2.2.2], k z h' hp⟩)
theorem kn_177 : am_ml 177 = 4 ∧ am_na 177 = 2 ∧ am_rc 177 = 5 ∧ am_rt 177 = some .int := by decide +kernel
theorem kv_177 {q : Nat} {x0 : Int32} {fs : List Value} (hr : h.2.2 q = some (.inr (5, fs))) {P : Int32 → am_H → Prop} (hm : am_mi xs L d 177 [.ref q, .int x0] h P) (hc : am_cats st ≤ 8) (k : ∀ z h', P z h' → am_w xs L (d + 1) y is l (.int z :: st) h' Q) : am_w xs L (d + 1) y ((62, 3, 177, 2, cc) :: is) l (.int x0 :: .ref q :: st) h Q :=
  wp_inv [.ref q, .int x0] st hm (Or.inr (Or.inl rfl)) rfl ⟨rfl, (kn_177).2.1.symm⟩ (by unfold am_may; rw [if_neg (by decide)]; show (if (62 : Nat) = 62 then (match h.2.2 q with | some (.inr (ci, _)) => ci == am_rc 177 | _ => false) else _) = true; rw [if_pos rfl, hr, (kn_177).2.2.1]; rfl) hc (by rw [(kn_177).1]; exact Nat.le_of_ble_eq_true rfl) (fun v h' hv => by
    obtain ⟨z, rfl, hp⟩ := hv
    exact ⟨by unfold am_rok; rw [(kn_177).2.2.2], k z h' hp⟩)
theorem kn_178 : am_ml 178 = 1 ∧ am_na 178 = 1 ∧ am_rc 178 = 8 ∧ am_rt 178 = none := by decide +kernel
theorem kv_178 {q : Nat} {P : am_H → Prop} (hm : am_mv xs L d 178 [.ref q] h P) (hc : am_cats st ≤ 8) (k : ∀ h', P h' → am_w xs L (d + 1) y is l st h' Q) : am_w xs L (d + 1) y ((63, 3, 178, 1, cc) :: is) l (.ref q :: st) h Q :=
  wp_inv [.ref q] st hm (Or.inr (Or.inr rfl)) rfl ⟨rfl, (kn_178).2.1.symm⟩ (by unfold am_may; rw [if_neg (by decide)]; show (if (63 : Nat) = 62 then _ else (am_rc 178 != 99)) = true; rw [if_neg (by decide), (kn_178).2.2.1]; rfl) hc (by rw [(kn_178).1]; exact Nat.le_of_ble_eq_true rfl) (fun v h' hv => by
    obtain ⟨rfl, hp⟩ := hv
    exact ⟨by unfold am_rok; rw [(kn_178).2.2.2], k h' hp⟩)
theorem kn_179 : am_ml 179 = 1 ∧ am_na 179 = 1 ∧ am_rc 179 = 8 ∧ am_rt 179 = some .int := by decide +kernel
theorem kv_179 {q : Nat} {fs : List Value} (hr : h.2.2 q = some (.inr (8, fs))) {P : Int32 → am_H → Prop} (hm : am_mi xs L d 179 [.ref q] h P) (hc : am_cats st ≤ 8) (k : ∀ z h', P z h' → am_w xs L (d + 1) y is l (.int z :: st) h' Q) : am_w xs L (d + 1) y ((62, 3, 179, 1, cc) :: is) l (.ref q :: st) h Q :=
  wp_inv [.ref q] st hm (Or.inr (Or.inl rfl)) rfl ⟨rfl, (kn_179).2.1.symm⟩ (by unfold am_may; rw [if_neg (by decide)]; show (if (62 : Nat) = 62 then (match h.2.2 q with | some (.inr (ci, _)) => ci == am_rc 179 | _ => false) else _) = true; rw [if_pos rfl, hr, (kn_179).2.2.1]; rfl) hc (by rw [(kn_179).1]; exact Nat.le_of_ble_eq_true rfl) (fun v h' hv => by
    obtain ⟨z, rfl, hp⟩ := hv
    exact ⟨by unfold am_rok; rw [(kn_179).2.2.2], k z h' hp⟩)
theorem kn_180 : am_ml 180 = 8 ∧ am_na 180 = 6 ∧ am_rc 180 = 8 ∧ am_rt 180 = some .int := by decide +kernel
theorem kv_180 {q : Nat} {x0 : Int32} {x1 : Int32} {x2 : Int32} {x3 : Int32} {x4 : Int32} {fs : List Value} (hr : h.2.2 q = some (.inr (8, fs))) {P : Int32 → am_H → Prop} (hm : am_mi xs L d 180 [.ref q, .int x0, .int x1, .int x2, .int x3, .int x4] h P) (hc : am_cats st ≤ 8) (k : ∀ z h', P z h' → am_w xs L (d + 1) y is l (.int z :: st) h' Q) : am_w xs L (d + 1) y ((62, 3, 180, 6, cc) :: is) l (.int x4 :: .int x3 :: .int x2 :: .int x1 :: .int x0 :: .ref q :: st) h Q :=
  wp_inv [.ref q, .int x0, .int x1, .int x2, .int x3, .int x4] st hm (Or.inr (Or.inl rfl)) rfl ⟨rfl, (kn_180).2.1.symm⟩ (by unfold am_may; rw [if_neg (by decide)]; show (if (62 : Nat) = 62 then (match h.2.2 q with | some (.inr (ci, _)) => ci == am_rc 180 | _ => false) else _) = true; rw [if_pos rfl, hr, (kn_180).2.2.1]; rfl) hc (by rw [(kn_180).1]; exact Nat.le_of_ble_eq_true rfl) (fun v h' hv => by
    obtain ⟨z, rfl, hp⟩ := hv
    exact ⟨by unfold am_rok; rw [(kn_180).2.2.2], k z h' hp⟩)
theorem kn_181 : am_ml 181 = 2 ∧ am_na 181 = 2 ∧ am_rc 181 = 8 ∧ am_rt 181 = some .int := by decide +kernel
theorem kv_181 {q : Nat} {x0 : Int32} {fs : List Value} (hr : h.2.2 q = some (.inr (8, fs))) {P : Int32 → am_H → Prop} (hm : am_mi xs L d 181 [.ref q, .int x0] h P) (hc : am_cats st ≤ 8) (k : ∀ z h', P z h' → am_w xs L (d + 1) y is l (.int z :: st) h' Q) : am_w xs L (d + 1) y ((62, 3, 181, 2, cc) :: is) l (.int x0 :: .ref q :: st) h Q :=
  wp_inv [.ref q, .int x0] st hm (Or.inr (Or.inl rfl)) rfl ⟨rfl, (kn_181).2.1.symm⟩ (by unfold am_may; rw [if_neg (by decide)]; show (if (62 : Nat) = 62 then (match h.2.2 q with | some (.inr (ci, _)) => ci == am_rc 181 | _ => false) else _) = true; rw [if_pos rfl, hr, (kn_181).2.2.1]; rfl) hc (by rw [(kn_181).1]; exact Nat.le_of_ble_eq_true rfl) (fun v h' hv => by
    obtain ⟨z, rfl, hp⟩ := hv
    exact ⟨by unfold am_rok; rw [(kn_181).2.2.2], k z h' hp⟩)
theorem kn_182 : am_ml 182 = 2 ∧ am_na 182 = 2 ∧ am_rc 182 = 8 ∧ am_rt 182 = some .int := by decide +kernel
theorem kv_182 {q : Nat} {x0 : Int32} {fs : List Value} (hr : h.2.2 q = some (.inr (8, fs))) {P : Int32 → am_H → Prop} (hm : am_mi xs L d 182 [.ref q, .int x0] h P) (hc : am_cats st ≤ 8) (k : ∀ z h', P z h' → am_w xs L (d + 1) y is l (.int z :: st) h' Q) : am_w xs L (d + 1) y ((62, 3, 182, 2, cc) :: is) l (.int x0 :: .ref q :: st) h Q :=
  wp_inv [.ref q, .int x0] st hm (Or.inr (Or.inl rfl)) rfl ⟨rfl, (kn_182).2.1.symm⟩ (by unfold am_may; rw [if_neg (by decide)]; show (if (62 : Nat) = 62 then (match h.2.2 q with | some (.inr (ci, _)) => ci == am_rc 182 | _ => false) else _) = true; rw [if_pos rfl, hr, (kn_182).2.2.1]; rfl) hc (by rw [(kn_182).1]; exact Nat.le_of_ble_eq_true rfl) (fun v h' hv => by
    obtain ⟨z, rfl, hp⟩ := hv
    exact ⟨by unfold am_rok; rw [(kn_182).2.2.2], k z h' hp⟩)
theorem kn_183 : am_ml 183 = 3 ∧ am_na 183 = 1 ∧ am_rc 183 = 8 ∧ am_rt 183 = none := by decide +kernel
theorem kv_183 {q : Nat} {fs : List Value} (hr : h.2.2 q = some (.inr (8, fs))) {P : am_H → Prop} (hm : am_mv xs L d 183 [.ref q] h P) (hc : am_cats st ≤ 8) (k : ∀ h', P h' → am_w xs L (d + 1) y is l st h' Q) : am_w xs L (d + 1) y ((62, 3, 183, 1, cc) :: is) l (.ref q :: st) h Q :=
  wp_inv [.ref q] st hm (Or.inr (Or.inl rfl)) rfl ⟨rfl, (kn_183).2.1.symm⟩ (by unfold am_may; rw [if_neg (by decide)]; show (if (62 : Nat) = 62 then (match h.2.2 q with | some (.inr (ci, _)) => ci == am_rc 183 | _ => false) else _) = true; rw [if_pos rfl, hr, (kn_183).2.2.1]; rfl) hc (by rw [(kn_183).1]; exact Nat.le_of_ble_eq_true rfl) (fun v h' hv => by
    obtain ⟨rfl, hp⟩ := hv
    exact ⟨by unfold am_rok; rw [(kn_183).2.2.2], k h' hp⟩)
theorem kn_184 : am_ml 184 = 2 ∧ am_na 184 = 2 ∧ am_rc 184 = 8 ∧ am_rt 184 = some .int := by decide +kernel
theorem kv_184 {q : Nat} {x0 : Int32} {fs : List Value} (hr : h.2.2 q = some (.inr (8, fs))) {P : Int32 → am_H → Prop} (hm : am_mi xs L d 184 [.ref q, .int x0] h P) (hc : am_cats st ≤ 8) (k : ∀ z h', P z h' → am_w xs L (d + 1) y is l (.int z :: st) h' Q) : am_w xs L (d + 1) y ((62, 3, 184, 2, cc) :: is) l (.int x0 :: .ref q :: st) h Q :=
  wp_inv [.ref q, .int x0] st hm (Or.inr (Or.inl rfl)) rfl ⟨rfl, (kn_184).2.1.symm⟩ (by unfold am_may; rw [if_neg (by decide)]; show (if (62 : Nat) = 62 then (match h.2.2 q with | some (.inr (ci, _)) => ci == am_rc 184 | _ => false) else _) = true; rw [if_pos rfl, hr, (kn_184).2.2.1]; rfl) hc (by rw [(kn_184).1]; exact Nat.le_of_ble_eq_true rfl) (fun v h' hv => by
    obtain ⟨z, rfl, hp⟩ := hv
    exact ⟨by unfold am_rok; rw [(kn_184).2.2.2], k z h' hp⟩)
theorem kn_185 : am_ml 185 = 1 ∧ am_na 185 = 1 ∧ am_rc 185 = 99 ∧ am_rt 185 = some .boolean := by decide +kernel
theorem kv_185 {x0 : Int32} {P : Bool → am_H → Prop} (hm : am_mb xs L d 185 [.int x0] h P) (hc : am_cats st ≤ 8) (k : ∀ (z : Bool) h', P z h' → am_w xs L (d + 1) y is l (.int (if z = true then 1 else 0) :: st) h' Q) : am_w xs L (d + 1) y ((60, 3, 185, 1, cc) :: is) l (.int x0 :: st) h Q :=
  wp_inv [.int x0] st hm (Or.inl rfl) rfl ⟨rfl, (kn_185).2.1.symm⟩ (by unfold am_may; rw [if_pos rfl, (kn_185).2.2.1]; rfl) hc (by rw [(kn_185).1]; exact Nat.le_of_ble_eq_true rfl) (fun v h' hv => by
    obtain ⟨z, rfl, hp⟩ := hv
    exact ⟨by unfold am_rok; rw [(kn_185).2.2.2]; cases z <;> rfl, k z h' hp⟩)
theorem kn_186 : am_ml 186 = 1 ∧ am_na 186 = 1 ∧ am_rc 186 = 99 ∧ am_rt 186 = some .boolean := by decide +kernel
theorem kv_186 {x0 : Int32} {P : Bool → am_H → Prop} (hm : am_mb xs L d 186 [.int x0] h P) (hc : am_cats st ≤ 8) (k : ∀ (z : Bool) h', P z h' → am_w xs L (d + 1) y is l (.int (if z = true then 1 else 0) :: st) h' Q) : am_w xs L (d + 1) y ((60, 3, 186, 1, cc) :: is) l (.int x0 :: st) h Q :=
  wp_inv [.int x0] st hm (Or.inl rfl) rfl ⟨rfl, (kn_186).2.1.symm⟩ (by unfold am_may; rw [if_pos rfl, (kn_186).2.2.1]; rfl) hc (by rw [(kn_186).1]; exact Nat.le_of_ble_eq_true rfl) (fun v h' hv => by
    obtain ⟨z, rfl, hp⟩ := hv
    exact ⟨by unfold am_rok; rw [(kn_186).2.2.2]; cases z <;> rfl, k z h' hp⟩)
theorem kn_187 : am_ml 187 = 2 ∧ am_na 187 = 1 ∧ am_rc 187 = 8 ∧ am_rt 187 = none := by decide +kernel
theorem kv_187 {q : Nat} {fs : List Value} (hr : h.2.2 q = some (.inr (8, fs))) {P : am_H → Prop} (hm : am_mv xs L d 187 [.ref q] h P) (hc : am_cats st ≤ 8) (k : ∀ h', P h' → am_w xs L (d + 1) y is l st h' Q) : am_w xs L (d + 1) y ((62, 3, 187, 1, cc) :: is) l (.ref q :: st) h Q :=
  wp_inv [.ref q] st hm (Or.inr (Or.inl rfl)) rfl ⟨rfl, (kn_187).2.1.symm⟩ (by unfold am_may; rw [if_neg (by decide)]; show (if (62 : Nat) = 62 then (match h.2.2 q with | some (.inr (ci, _)) => ci == am_rc 187 | _ => false) else _) = true; rw [if_pos rfl, hr, (kn_187).2.2.1]; rfl) hc (by rw [(kn_187).1]; exact Nat.le_of_ble_eq_true rfl) (fun v h' hv => by
    obtain ⟨rfl, hp⟩ := hv
    exact ⟨by unfold am_rok; rw [(kn_187).2.2.2], k h' hp⟩)
theorem kn_188 : am_ml 188 = 1 ∧ am_na 188 = 1 ∧ am_rc 188 = 8 ∧ am_rt 188 = none := by decide +kernel
theorem kv_188 {q : Nat} {fs : List Value} (hr : h.2.2 q = some (.inr (8, fs))) {P : am_H → Prop} (hm : am_mv xs L d 188 [.ref q] h P) (hc : am_cats st ≤ 8) (k : ∀ h', P h' → am_w xs L (d + 1) y is l st h' Q) : am_w xs L (d + 1) y ((62, 3, 188, 1, cc) :: is) l (.ref q :: st) h Q :=
  wp_inv [.ref q] st hm (Or.inr (Or.inl rfl)) rfl ⟨rfl, (kn_188).2.1.symm⟩ (by unfold am_may; rw [if_neg (by decide)]; show (if (62 : Nat) = 62 then (match h.2.2 q with | some (.inr (ci, _)) => ci == am_rc 188 | _ => false) else _) = true; rw [if_pos rfl, hr, (kn_188).2.2.1]; rfl) hc (by rw [(kn_188).1]; exact Nat.le_of_ble_eq_true rfl) (fun v h' hv => by
    obtain ⟨rfl, hp⟩ := hv
    exact ⟨by unfold am_rok; rw [(kn_188).2.2.2], k h' hp⟩)
theorem kn_189 : am_ml 189 = 2 ∧ am_na 189 = 2 ∧ am_rc 189 = 8 ∧ am_rt 189 = some .boolean := by decide +kernel
theorem kv_189 {q : Nat} {x0 : UInt32} {fs : List Value} (hr : h.2.2 q = some (.inr (8, fs))) {P : Bool → am_H → Prop} (hm : am_mb xs L d 189 [.ref q, .float x0] h P) (hc : am_cats st ≤ 8) (k : ∀ (z : Bool) h', P z h' → am_w xs L (d + 1) y is l (.int (if z = true then 1 else 0) :: st) h' Q) : am_w xs L (d + 1) y ((62, 3, 189, 2, cc) :: is) l (.float x0 :: .ref q :: st) h Q :=
  wp_inv [.ref q, .float x0] st hm (Or.inr (Or.inl rfl)) rfl ⟨rfl, (kn_189).2.1.symm⟩ (by unfold am_may; rw [if_neg (by decide)]; show (if (62 : Nat) = 62 then (match h.2.2 q with | some (.inr (ci, _)) => ci == am_rc 189 | _ => false) else _) = true; rw [if_pos rfl, hr, (kn_189).2.2.1]; rfl) hc (by rw [(kn_189).1]; exact Nat.le_of_ble_eq_true rfl) (fun v h' hv => by
    obtain ⟨z, rfl, hp⟩ := hv
    exact ⟨by unfold am_rok; rw [(kn_189).2.2.2]; cases z <;> rfl, k z h' hp⟩)
theorem kn_190 : am_ml 190 = 4 ∧ am_na 190 = 1 ∧ am_rc 190 = 99 ∧ am_rt 190 = some .long := by decide +kernel
theorem kv_190 {x0 : UInt32} {P : Int64 → am_H → Prop} (hm : am_mj xs L d 190 [.float x0] h P) (hc : am_cats st ≤ 8) (k : ∀ z h', P z h' → am_w xs L (d + 1) y is l (.long z :: st) h' Q) : am_w xs L (d + 1) y ((60, 3, 190, 1, cc) :: is) l (.float x0 :: st) h Q :=
  wp_inv [.float x0] st hm (Or.inl rfl) rfl ⟨rfl, (kn_190).2.1.symm⟩ (by unfold am_may; rw [if_pos rfl, (kn_190).2.2.1]; rfl) hc (by rw [(kn_190).1]; exact Nat.le_of_ble_eq_true rfl) (fun v h' hv => by
    obtain ⟨z, rfl, hp⟩ := hv
    exact ⟨by unfold am_rok; rw [(kn_190).2.2.2], k z h' hp⟩)
theorem kn_191 : am_ml 191 = 2 ∧ am_na 191 = 1 ∧ am_rc 191 = 8 ∧ am_rt 191 = none := by decide +kernel
theorem kv_191 {q : Nat} {fs : List Value} (hr : h.2.2 q = some (.inr (8, fs))) {P : am_H → Prop} (hm : am_mv xs L d 191 [.ref q] h P) (hc : am_cats st ≤ 8) (k : ∀ h', P h' → am_w xs L (d + 1) y is l st h' Q) : am_w xs L (d + 1) y ((62, 3, 191, 1, cc) :: is) l (.ref q :: st) h Q :=
  wp_inv [.ref q] st hm (Or.inr (Or.inl rfl)) rfl ⟨rfl, (kn_191).2.1.symm⟩ (by unfold am_may; rw [if_neg (by decide)]; show (if (62 : Nat) = 62 then (match h.2.2 q with | some (.inr (ci, _)) => ci == am_rc 191 | _ => false) else _) = true; rw [if_pos rfl, hr, (kn_191).2.2.1]; rfl) hc (by rw [(kn_191).1]; exact Nat.le_of_ble_eq_true rfl) (fun v h' hv => by
    obtain ⟨rfl, hp⟩ := hv
    exact ⟨by unfold am_rok; rw [(kn_191).2.2.2], k h' hp⟩)
theorem kn_192 : am_ml 192 = 2 ∧ am_na 192 = 2 ∧ am_rc 192 = 8 ∧ am_rt 192 = none := by decide +kernel
theorem kv_192 {q : Nat} {x0 : Int32} {fs : List Value} (hr : h.2.2 q = some (.inr (8, fs))) {P : am_H → Prop} (hm : am_mv xs L d 192 [.ref q, .int x0] h P) (hc : am_cats st ≤ 8) (k : ∀ h', P h' → am_w xs L (d + 1) y is l st h' Q) : am_w xs L (d + 1) y ((62, 3, 192, 2, cc) :: is) l (.int x0 :: .ref q :: st) h Q :=
  wp_inv [.ref q, .int x0] st hm (Or.inr (Or.inl rfl)) rfl ⟨rfl, (kn_192).2.1.symm⟩ (by unfold am_may; rw [if_neg (by decide)]; show (if (62 : Nat) = 62 then (match h.2.2 q with | some (.inr (ci, _)) => ci == am_rc 192 | _ => false) else _) = true; rw [if_pos rfl, hr, (kn_192).2.2.1]; rfl) hc (by rw [(kn_192).1]; exact Nat.le_of_ble_eq_true rfl) (fun v h' hv => by
    obtain ⟨rfl, hp⟩ := hv
    exact ⟨by unfold am_rok; rw [(kn_192).2.2.2], k h' hp⟩)
theorem kn_193 : am_ml 193 = 4 ∧ am_na 193 = 4 ∧ am_rc 193 = 8 ∧ am_rt 193 = some .int := by decide +kernel
theorem kv_193 {q : Nat} {x0 : UInt32} {x1 : Int32} {x2 : Int32} {fs : List Value} (hr : h.2.2 q = some (.inr (8, fs))) {P : Int32 → am_H → Prop} (hm : am_mi xs L d 193 [.ref q, .float x0, .int x1, .int x2] h P) (hc : am_cats st ≤ 8) (k : ∀ z h', P z h' → am_w xs L (d + 1) y is l (.int z :: st) h' Q) : am_w xs L (d + 1) y ((62, 3, 193, 4, cc) :: is) l (.int x2 :: .int x1 :: .float x0 :: .ref q :: st) h Q :=
  wp_inv [.ref q, .float x0, .int x1, .int x2] st hm (Or.inr (Or.inl rfl)) rfl ⟨rfl, (kn_193).2.1.symm⟩ (by unfold am_may; rw [if_neg (by decide)]; show (if (62 : Nat) = 62 then (match h.2.2 q with | some (.inr (ci, _)) => ci == am_rc 193 | _ => false) else _) = true; rw [if_pos rfl, hr, (kn_193).2.2.1]; rfl) hc (by rw [(kn_193).1]; exact Nat.le_of_ble_eq_true rfl) (fun v h' hv => by
    obtain ⟨z, rfl, hp⟩ := hv
    exact ⟨by unfold am_rok; rw [(kn_193).2.2.2], k z h' hp⟩)
theorem kn_194 : am_ml 194 = 2 ∧ am_na 194 = 2 ∧ am_rc 194 = 8 ∧ am_rt 194 = none := by decide +kernel
theorem kv_194 {q : Nat} {x0 : UInt32} {fs : List Value} (hr : h.2.2 q = some (.inr (8, fs))) {P : am_H → Prop} (hm : am_mv xs L d 194 [.ref q, .float x0] h P) (hc : am_cats st ≤ 8) (k : ∀ h', P h' → am_w xs L (d + 1) y is l st h' Q) : am_w xs L (d + 1) y ((62, 3, 194, 2, cc) :: is) l (.float x0 :: .ref q :: st) h Q :=
  wp_inv [.ref q, .float x0] st hm (Or.inr (Or.inl rfl)) rfl ⟨rfl, (kn_194).2.1.symm⟩ (by unfold am_may; rw [if_neg (by decide)]; show (if (62 : Nat) = 62 then (match h.2.2 q with | some (.inr (ci, _)) => ci == am_rc 194 | _ => false) else _) = true; rw [if_pos rfl, hr, (kn_194).2.2.1]; rfl) hc (by rw [(kn_194).1]; exact Nat.le_of_ble_eq_true rfl) (fun v h' hv => by
    obtain ⟨rfl, hp⟩ := hv
    exact ⟨by unfold am_rok; rw [(kn_194).2.2.2], k h' hp⟩)
theorem kn_195 : am_ml 195 = 4 ∧ am_na 195 = 3 ∧ am_rc 195 = 8 ∧ am_rt 195 = some .int := by decide +kernel
theorem kv_195 {q : Nat} {x0 : Int32} {x1 : Int32} {fs : List Value} (hr : h.2.2 q = some (.inr (8, fs))) {P : Int32 → am_H → Prop} (hm : am_mi xs L d 195 [.ref q, .int x0, .int x1] h P) (hc : am_cats st ≤ 8) (k : ∀ z h', P z h' → am_w xs L (d + 1) y is l (.int z :: st) h' Q) : am_w xs L (d + 1) y ((62, 3, 195, 3, cc) :: is) l (.int x1 :: .int x0 :: .ref q :: st) h Q :=
  wp_inv [.ref q, .int x0, .int x1] st hm (Or.inr (Or.inl rfl)) rfl ⟨rfl, (kn_195).2.1.symm⟩ (by unfold am_may; rw [if_neg (by decide)]; show (if (62 : Nat) = 62 then (match h.2.2 q with | some (.inr (ci, _)) => ci == am_rc 195 | _ => false) else _) = true; rw [if_pos rfl, hr, (kn_195).2.2.1]; rfl) hc (by rw [(kn_195).1]; exact Nat.le_of_ble_eq_true rfl) (fun v h' hv => by
    obtain ⟨z, rfl, hp⟩ := hv
    exact ⟨by unfold am_rok; rw [(kn_195).2.2.2], k z h' hp⟩)
theorem kn_196 : am_ml 196 = 3 ∧ am_na 196 = 3 ∧ am_rc 196 = 99 ∧ am_rt 196 = some .boolean := by decide +kernel
theorem kv_196 {x0 : Int32} {x1 : Int32} {x2 : Int32} {P : Bool → am_H → Prop} (hm : am_mb xs L d 196 [.int x0, .int x1, .int x2] h P) (hc : am_cats st ≤ 8) (k : ∀ (z : Bool) h', P z h' → am_w xs L (d + 1) y is l (.int (if z = true then 1 else 0) :: st) h' Q) : am_w xs L (d + 1) y ((60, 3, 196, 3, cc) :: is) l (.int x2 :: .int x1 :: .int x0 :: st) h Q :=
  wp_inv [.int x0, .int x1, .int x2] st hm (Or.inl rfl) rfl ⟨rfl, (kn_196).2.1.symm⟩ (by unfold am_may; rw [if_pos rfl, (kn_196).2.2.1]; rfl) hc (by rw [(kn_196).1]; exact Nat.le_of_ble_eq_true rfl) (fun v h' hv => by
    obtain ⟨z, rfl, hp⟩ := hv
    exact ⟨by unfold am_rok; rw [(kn_196).2.2.2]; cases z <;> rfl, k z h' hp⟩)
theorem kn_197 : am_ml 197 = 3 ∧ am_na 197 = 1 ∧ am_rc 197 = 8 ∧ am_rt 197 = none := by decide +kernel
theorem kv_197 {q : Nat} {fs : List Value} (hr : h.2.2 q = some (.inr (8, fs))) {P : am_H → Prop} (hm : am_mv xs L d 197 [.ref q] h P) (hc : am_cats st ≤ 8) (k : ∀ h', P h' → am_w xs L (d + 1) y is l st h' Q) : am_w xs L (d + 1) y ((62, 3, 197, 1, cc) :: is) l (.ref q :: st) h Q :=
  wp_inv [.ref q] st hm (Or.inr (Or.inl rfl)) rfl ⟨rfl, (kn_197).2.1.symm⟩ (by unfold am_may; rw [if_neg (by decide)]; show (if (62 : Nat) = 62 then (match h.2.2 q with | some (.inr (ci, _)) => ci == am_rc 197 | _ => false) else _) = true; rw [if_pos rfl, hr, (kn_197).2.2.1]; rfl) hc (by rw [(kn_197).1]; exact Nat.le_of_ble_eq_true rfl) (fun v h' hv => by
    obtain ⟨rfl, hp⟩ := hv
    exact ⟨by unfold am_rok; rw [(kn_197).2.2.2], k h' hp⟩)
theorem kn_198 : am_ml 198 = 3 ∧ am_na 198 = 3 ∧ am_rc 198 = 8 ∧ am_rt 198 = none := by decide +kernel
theorem kv_198 {q : Nat} {x0 : Int32} {x1 : Int32} {fs : List Value} (hr : h.2.2 q = some (.inr (8, fs))) {P : am_H → Prop} (hm : am_mv xs L d 198 [.ref q, .int x0, .int x1] h P) (hc : am_cats st ≤ 8) (k : ∀ h', P h' → am_w xs L (d + 1) y is l st h' Q) : am_w xs L (d + 1) y ((62, 3, 198, 3, cc) :: is) l (.int x1 :: .int x0 :: .ref q :: st) h Q :=
  wp_inv [.ref q, .int x0, .int x1] st hm (Or.inr (Or.inl rfl)) rfl ⟨rfl, (kn_198).2.1.symm⟩ (by unfold am_may; rw [if_neg (by decide)]; show (if (62 : Nat) = 62 then (match h.2.2 q with | some (.inr (ci, _)) => ci == am_rc 198 | _ => false) else _) = true; rw [if_pos rfl, hr, (kn_198).2.2.1]; rfl) hc (by rw [(kn_198).1]; exact Nat.le_of_ble_eq_true rfl) (fun v h' hv => by
    obtain ⟨rfl, hp⟩ := hv
    exact ⟨by unfold am_rok; rw [(kn_198).2.2.2], k h' hp⟩)
theorem kn_199 : am_ml 199 = 3 ∧ am_na 199 = 1 ∧ am_rc 199 = 8 ∧ am_rt 199 = some .long := by decide +kernel
theorem kv_199 {q : Nat} {fs : List Value} (hr : h.2.2 q = some (.inr (8, fs))) {P : Int64 → am_H → Prop} (hm : am_mj xs L d 199 [.ref q] h P) (hc : am_cats st ≤ 8) (k : ∀ z h', P z h' → am_w xs L (d + 1) y is l (.long z :: st) h' Q) : am_w xs L (d + 1) y ((62, 3, 199, 1, cc) :: is) l (.ref q :: st) h Q :=
  wp_inv [.ref q] st hm (Or.inr (Or.inl rfl)) rfl ⟨rfl, (kn_199).2.1.symm⟩ (by unfold am_may; rw [if_neg (by decide)]; show (if (62 : Nat) = 62 then (match h.2.2 q with | some (.inr (ci, _)) => ci == am_rc 199 | _ => false) else _) = true; rw [if_pos rfl, hr, (kn_199).2.2.1]; rfl) hc (by rw [(kn_199).1]; exact Nat.le_of_ble_eq_true rfl) (fun v h' hv => by
    obtain ⟨z, rfl, hp⟩ := hv
    exact ⟨by unfold am_rok; rw [(kn_199).2.2.2], k z h' hp⟩)
theorem kn_200 : am_ml 200 = 1 ∧ am_na 200 = 1 ∧ am_rc 200 = 8 ∧ am_rt 200 = some .boolean := by decide +kernel
theorem kv_200 {q : Nat} {fs : List Value} (hr : h.2.2 q = some (.inr (8, fs))) {P : Bool → am_H → Prop} (hm : am_mb xs L d 200 [.ref q] h P) (hc : am_cats st ≤ 8) (k : ∀ (z : Bool) h', P z h' → am_w xs L (d + 1) y is l (.int (if z = true then 1 else 0) :: st) h' Q) : am_w xs L (d + 1) y ((62, 3, 200, 1, cc) :: is) l (.ref q :: st) h Q :=
  wp_inv [.ref q] st hm (Or.inr (Or.inl rfl)) rfl ⟨rfl, (kn_200).2.1.symm⟩ (by unfold am_may; rw [if_neg (by decide)]; show (if (62 : Nat) = 62 then (match h.2.2 q with | some (.inr (ci, _)) => ci == am_rc 200 | _ => false) else _) = true; rw [if_pos rfl, hr, (kn_200).2.2.1]; rfl) hc (by rw [(kn_200).1]; exact Nat.le_of_ble_eq_true rfl) (fun v h' hv => by
    obtain ⟨z, rfl, hp⟩ := hv
    exact ⟨by unfold am_rok; rw [(kn_200).2.2.2]; cases z <;> rfl, k z h' hp⟩)
theorem kn_201 : am_ml 201 = 5 ∧ am_na 201 = 4 ∧ am_rc 201 = 8 ∧ am_rt 201 = none := by decide +kernel
theorem kv_201 {q : Nat} {x0 : Int64} {x1 : Int32} {x2 : Int32} {fs : List Value} (hr : h.2.2 q = some (.inr (8, fs))) {P : am_H → Prop} (hm : am_mv xs L d 201 [.ref q, .long x0, .int x1, .int x2] h P) (hc : am_cats st ≤ 8) (k : ∀ h', P h' → am_w xs L (d + 1) y is l st h' Q) : am_w xs L (d + 1) y ((62, 3, 201, 4, cc) :: is) l (.int x2 :: .int x1 :: .long x0 :: .ref q :: st) h Q :=
  wp_inv [.ref q, .long x0, .int x1, .int x2] st hm (Or.inr (Or.inl rfl)) rfl ⟨rfl, (kn_201).2.1.symm⟩ (by unfold am_may; rw [if_neg (by decide)]; show (if (62 : Nat) = 62 then (match h.2.2 q with | some (.inr (ci, _)) => ci == am_rc 201 | _ => false) else _) = true; rw [if_pos rfl, hr, (kn_201).2.2.1]; rfl) hc (by rw [(kn_201).1]; exact Nat.le_of_ble_eq_true rfl) (fun v h' hv => by
    obtain ⟨rfl, hp⟩ := hv
    exact ⟨by unfold am_rok; rw [(kn_201).2.2.2], k h' hp⟩)
theorem kn_202 : am_ml 202 = 7 ∧ am_na 202 = 1 ∧ am_rc 202 = 8 ∧ am_rt 202 = none := by decide +kernel
theorem kv_202 {q : Nat} {fs : List Value} (hr : h.2.2 q = some (.inr (8, fs))) {P : am_H → Prop} (hm : am_mv xs L d 202 [.ref q] h P) (hc : am_cats st ≤ 8) (k : ∀ h', P h' → am_w xs L (d + 1) y is l st h' Q) : am_w xs L (d + 1) y ((62, 3, 202, 1, cc) :: is) l (.ref q :: st) h Q :=
  wp_inv [.ref q] st hm (Or.inr (Or.inl rfl)) rfl ⟨rfl, (kn_202).2.1.symm⟩ (by unfold am_may; rw [if_neg (by decide)]; show (if (62 : Nat) = 62 then (match h.2.2 q with | some (.inr (ci, _)) => ci == am_rc 202 | _ => false) else _) = true; rw [if_pos rfl, hr, (kn_202).2.2.1]; rfl) hc (by rw [(kn_202).1]; exact Nat.le_of_ble_eq_true rfl) (fun v h' hv => by
    obtain ⟨rfl, hp⟩ := hv
    exact ⟨by unfold am_rok; rw [(kn_202).2.2.2], k h' hp⟩)
theorem kn_203 : am_ml 203 = 2 ∧ am_na 203 = 1 ∧ am_rc 203 = 8 ∧ am_rt 203 = some .int := by decide +kernel
theorem kv_203 {q : Nat} {fs : List Value} (hr : h.2.2 q = some (.inr (8, fs))) {P : Int32 → am_H → Prop} (hm : am_mi xs L d 203 [.ref q] h P) (hc : am_cats st ≤ 8) (k : ∀ z h', P z h' → am_w xs L (d + 1) y is l (.int z :: st) h' Q) : am_w xs L (d + 1) y ((62, 3, 203, 1, cc) :: is) l (.ref q :: st) h Q :=
  wp_inv [.ref q] st hm (Or.inr (Or.inl rfl)) rfl ⟨rfl, (kn_203).2.1.symm⟩ (by unfold am_may; rw [if_neg (by decide)]; show (if (62 : Nat) = 62 then (match h.2.2 q with | some (.inr (ci, _)) => ci == am_rc 203 | _ => false) else _) = true; rw [if_pos rfl, hr, (kn_203).2.2.1]; rfl) hc (by rw [(kn_203).1]; exact Nat.le_of_ble_eq_true rfl) (fun v h' hv => by
    obtain ⟨z, rfl, hp⟩ := hv
    exact ⟨by unfold am_rok; rw [(kn_203).2.2.2], k z h' hp⟩)
theorem kn_204 : am_ml 204 = 3 ∧ am_na 204 = 2 ∧ am_rc 204 = 8 ∧ am_rt 204 = some .boolean := by decide +kernel
theorem kv_204 {q : Nat} {x0 : Int32} {fs : List Value} (hr : h.2.2 q = some (.inr (8, fs))) {P : Bool → am_H → Prop} (hm : am_mb xs L d 204 [.ref q, .int x0] h P) (hc : am_cats st ≤ 8) (k : ∀ (z : Bool) h', P z h' → am_w xs L (d + 1) y is l (.int (if z = true then 1 else 0) :: st) h' Q) : am_w xs L (d + 1) y ((62, 3, 204, 2, cc) :: is) l (.int x0 :: .ref q :: st) h Q :=
  wp_inv [.ref q, .int x0] st hm (Or.inr (Or.inl rfl)) rfl ⟨rfl, (kn_204).2.1.symm⟩ (by unfold am_may; rw [if_neg (by decide)]; show (if (62 : Nat) = 62 then (match h.2.2 q with | some (.inr (ci, _)) => ci == am_rc 204 | _ => false) else _) = true; rw [if_pos rfl, hr, (kn_204).2.2.1]; rfl) hc (by rw [(kn_204).1]; exact Nat.le_of_ble_eq_true rfl) (fun v h' hv => by
    obtain ⟨z, rfl, hp⟩ := hv
    exact ⟨by unfold am_rok; rw [(kn_204).2.2.2]; cases z <;> rfl, k z h' hp⟩)
theorem kn_205 : am_ml 205 = 5 ∧ am_na 205 = 2 ∧ am_rc 205 = 8 ∧ am_rt 205 = none := by decide +kernel
theorem kv_205 {q : Nat} {x0 : Int32} {fs : List Value} (hr : h.2.2 q = some (.inr (8, fs))) {P : am_H → Prop} (hm : am_mv xs L d 205 [.ref q, .int x0] h P) (hc : am_cats st ≤ 8) (k : ∀ h', P h' → am_w xs L (d + 1) y is l st h' Q) : am_w xs L (d + 1) y ((62, 3, 205, 2, cc) :: is) l (.int x0 :: .ref q :: st) h Q :=
  wp_inv [.ref q, .int x0] st hm (Or.inr (Or.inl rfl)) rfl ⟨rfl, (kn_205).2.1.symm⟩ (by unfold am_may; rw [if_neg (by decide)]; show (if (62 : Nat) = 62 then (match h.2.2 q with | some (.inr (ci, _)) => ci == am_rc 205 | _ => false) else _) = true; rw [if_pos rfl, hr, (kn_205).2.2.1]; rfl) hc (by rw [(kn_205).1]; exact Nat.le_of_ble_eq_true rfl) (fun v h' hv => by
    obtain ⟨rfl, hp⟩ := hv
    exact ⟨by unfold am_rok; rw [(kn_205).2.2.2], k h' hp⟩)
theorem kn_206 : am_ml 206 = 3 ∧ am_na 206 = 1 ∧ am_rc 206 = 8 ∧ am_rt 206 = some .long := by decide +kernel
theorem kv_206 {q : Nat} {fs : List Value} (hr : h.2.2 q = some (.inr (8, fs))) {P : Int64 → am_H → Prop} (hm : am_mj xs L d 206 [.ref q] h P) (hc : am_cats st ≤ 8) (k : ∀ z h', P z h' → am_w xs L (d + 1) y is l (.long z :: st) h' Q) : am_w xs L (d + 1) y ((62, 3, 206, 1, cc) :: is) l (.ref q :: st) h Q :=
  wp_inv [.ref q] st hm (Or.inr (Or.inl rfl)) rfl ⟨rfl, (kn_206).2.1.symm⟩ (by unfold am_may; rw [if_neg (by decide)]; show (if (62 : Nat) = 62 then (match h.2.2 q with | some (.inr (ci, _)) => ci == am_rc 206 | _ => false) else _) = true; rw [if_pos rfl, hr, (kn_206).2.2.1]; rfl) hc (by rw [(kn_206).1]; exact Nat.le_of_ble_eq_true rfl) (fun v h' hv => by
    obtain ⟨z, rfl, hp⟩ := hv
    exact ⟨by unfold am_rok; rw [(kn_206).2.2.2], k z h' hp⟩)
theorem kn_207 : am_ml 207 = 3 ∧ am_na 207 = 1 ∧ am_rc 207 = 8 ∧ am_rt 207 = none := by decide +kernel
theorem kv_207 {q : Nat} {fs : List Value} (hr : h.2.2 q = some (.inr (8, fs))) {P : am_H → Prop} (hm : am_mv xs L d 207 [.ref q] h P) (hc : am_cats st ≤ 8) (k : ∀ h', P h' → am_w xs L (d + 1) y is l st h' Q) : am_w xs L (d + 1) y ((62, 3, 207, 1, cc) :: is) l (.ref q :: st) h Q :=
  wp_inv [.ref q] st hm (Or.inr (Or.inl rfl)) rfl ⟨rfl, (kn_207).2.1.symm⟩ (by unfold am_may; rw [if_neg (by decide)]; show (if (62 : Nat) = 62 then (match h.2.2 q with | some (.inr (ci, _)) => ci == am_rc 207 | _ => false) else _) = true; rw [if_pos rfl, hr, (kn_207).2.2.1]; rfl) hc (by rw [(kn_207).1]; exact Nat.le_of_ble_eq_true rfl) (fun v h' hv => by
    obtain ⟨rfl, hp⟩ := hv
    exact ⟨by unfold am_rok; rw [(kn_207).2.2.2], k h' hp⟩)
theorem kn_208 : am_ml 208 = 4 ∧ am_na 208 = 2 ∧ am_rc 208 = 8 ∧ am_rt 208 = none := by decide +kernel
theorem kv_208 {q : Nat} {x0 : Int32} {fs : List Value} (hr : h.2.2 q = some (.inr (8, fs))) {P : am_H → Prop} (hm : am_mv xs L d 208 [.ref q, .int x0] h P) (hc : am_cats st ≤ 8) (k : ∀ h', P h' → am_w xs L (d + 1) y is l st h' Q) : am_w xs L (d + 1) y ((62, 3, 208, 2, cc) :: is) l (.int x0 :: .ref q :: st) h Q :=
  wp_inv [.ref q, .int x0] st hm (Or.inr (Or.inl rfl)) rfl ⟨rfl, (kn_208).2.1.symm⟩ (by unfold am_may; rw [if_neg (by decide)]; show (if (62 : Nat) = 62 then (match h.2.2 q with | some (.inr (ci, _)) => ci == am_rc 208 | _ => false) else _) = true; rw [if_pos rfl, hr, (kn_208).2.2.1]; rfl) hc (by rw [(kn_208).1]; exact Nat.le_of_ble_eq_true rfl) (fun v h' hv => by
    obtain ⟨rfl, hp⟩ := hv
    exact ⟨by unfold am_rok; rw [(kn_208).2.2.2], k h' hp⟩)
theorem kn_209 : am_ml 209 = 3 ∧ am_na 209 = 1 ∧ am_rc 209 = 8 ∧ am_rt 209 = none := by decide +kernel
theorem kv_209 {q : Nat} {fs : List Value} (hr : h.2.2 q = some (.inr (8, fs))) {P : am_H → Prop} (hm : am_mv xs L d 209 [.ref q] h P) (hc : am_cats st ≤ 8) (k : ∀ h', P h' → am_w xs L (d + 1) y is l st h' Q) : am_w xs L (d + 1) y ((62, 3, 209, 1, cc) :: is) l (.ref q :: st) h Q :=
  wp_inv [.ref q] st hm (Or.inr (Or.inl rfl)) rfl ⟨rfl, (kn_209).2.1.symm⟩ (by unfold am_may; rw [if_neg (by decide)]; show (if (62 : Nat) = 62 then (match h.2.2 q with | some (.inr (ci, _)) => ci == am_rc 209 | _ => false) else _) = true; rw [if_pos rfl, hr, (kn_209).2.2.1]; rfl) hc (by rw [(kn_209).1]; exact Nat.le_of_ble_eq_true rfl) (fun v h' hv => by
    obtain ⟨rfl, hp⟩ := hv
    exact ⟨by unfold am_rok; rw [(kn_209).2.2.2], k h' hp⟩)
theorem kn_210 : am_ml 210 = 2 ∧ am_na 210 = 2 ∧ am_rc 210 = 8 ∧ am_rt 210 = some .int := by decide +kernel
theorem kv_210 {q : Nat} {x0 : Int32} {fs : List Value} (hr : h.2.2 q = some (.inr (8, fs))) {P : Int32 → am_H → Prop} (hm : am_mi xs L d 210 [.ref q, .int x0] h P) (hc : am_cats st ≤ 8) (k : ∀ z h', P z h' → am_w xs L (d + 1) y is l (.int z :: st) h' Q) : am_w xs L (d + 1) y ((62, 3, 210, 2, cc) :: is) l (.int x0 :: .ref q :: st) h Q :=
  wp_inv [.ref q, .int x0] st hm (Or.inr (Or.inl rfl)) rfl ⟨rfl, (kn_210).2.1.symm⟩ (by unfold am_may; rw [if_neg (by decide)]; show (if (62 : Nat) = 62 then (match h.2.2 q with | some (.inr (ci, _)) => ci == am_rc 210 | _ => false) else _) = true; rw [if_pos rfl, hr, (kn_210).2.2.1]; rfl) hc (by rw [(kn_210).1]; exact Nat.le_of_ble_eq_true rfl) (fun v h' hv => by
    obtain ⟨z, rfl, hp⟩ := hv
    exact ⟨by unfold am_rok; rw [(kn_210).2.2.2], k z h' hp⟩)
theorem kn_211 : am_ml 211 = 1 ∧ am_na 211 = 1 ∧ am_rc 211 = 8 ∧ am_rt 211 = some .int := by decide +kernel
theorem kv_211 {q : Nat} {fs : List Value} (hr : h.2.2 q = some (.inr (8, fs))) {P : Int32 → am_H → Prop} (hm : am_mi xs L d 211 [.ref q] h P) (hc : am_cats st ≤ 8) (k : ∀ z h', P z h' → am_w xs L (d + 1) y is l (.int z :: st) h' Q) : am_w xs L (d + 1) y ((62, 3, 211, 1, cc) :: is) l (.ref q :: st) h Q :=
  wp_inv [.ref q] st hm (Or.inr (Or.inl rfl)) rfl ⟨rfl, (kn_211).2.1.symm⟩ (by unfold am_may; rw [if_neg (by decide)]; show (if (62 : Nat) = 62 then (match h.2.2 q with | some (.inr (ci, _)) => ci == am_rc 211 | _ => false) else _) = true; rw [if_pos rfl, hr, (kn_211).2.2.1]; rfl) hc (by rw [(kn_211).1]; exact Nat.le_of_ble_eq_true rfl) (fun v h' hv => by
    obtain ⟨z, rfl, hp⟩ := hv
    exact ⟨by unfold am_rok; rw [(kn_211).2.2.2], k z h' hp⟩)
theorem kn_212 : am_ml 212 = 1 ∧ am_na 212 = 1 ∧ am_rc 212 = 8 ∧ am_rt 212 = some .int := by decide +kernel
theorem kv_212 {q : Nat} {fs : List Value} (hr : h.2.2 q = some (.inr (8, fs))) {P : Int32 → am_H → Prop} (hm : am_mi xs L d 212 [.ref q] h P) (hc : am_cats st ≤ 8) (k : ∀ z h', P z h' → am_w xs L (d + 1) y is l (.int z :: st) h' Q) : am_w xs L (d + 1) y ((62, 3, 212, 1, cc) :: is) l (.ref q :: st) h Q :=
  wp_inv [.ref q] st hm (Or.inr (Or.inl rfl)) rfl ⟨rfl, (kn_212).2.1.symm⟩ (by unfold am_may; rw [if_neg (by decide)]; show (if (62 : Nat) = 62 then (match h.2.2 q with | some (.inr (ci, _)) => ci == am_rc 212 | _ => false) else _) = true; rw [if_pos rfl, hr, (kn_212).2.2.1]; rfl) hc (by rw [(kn_212).1]; exact Nat.le_of_ble_eq_true rfl) (fun v h' hv => by
    obtain ⟨z, rfl, hp⟩ := hv
    exact ⟨by unfold am_rok; rw [(kn_212).2.2.2], k z h' hp⟩)
theorem kn_213 : am_ml 213 = 1 ∧ am_na 213 = 1 ∧ am_rc 213 = 8 ∧ am_rt 213 = some .int := by decide +kernel
theorem kv_213 {q : Nat} {fs : List Value} (hr : h.2.2 q = some (.inr (8, fs))) {P : Int32 → am_H → Prop} (hm : am_mi xs L d 213 [.ref q] h P) (hc : am_cats st ≤ 8) (k : ∀ z h', P z h' → am_w xs L (d + 1) y is l (.int z :: st) h' Q) : am_w xs L (d + 1) y ((62, 3, 213, 1, cc) :: is) l (.ref q :: st) h Q :=
  wp_inv [.ref q] st hm (Or.inr (Or.inl rfl)) rfl ⟨rfl, (kn_213).2.1.symm⟩ (by unfold am_may; rw [if_neg (by decide)]; show (if (62 : Nat) = 62 then (match h.2.2 q with | some (.inr (ci, _)) => ci == am_rc 213 | _ => false) else _) = true; rw [if_pos rfl, hr, (kn_213).2.2.1]; rfl) hc (by rw [(kn_213).1]; exact Nat.le_of_ble_eq_true rfl) (fun v h' hv => by
    obtain ⟨z, rfl, hp⟩ := hv
    exact ⟨by unfold am_rok; rw [(kn_213).2.2.2], k z h' hp⟩)
theorem kn_214 : am_ml 214 = 3 ∧ am_na 214 = 3 ∧ am_rc 214 = 8 ∧ am_rt 214 = some .int := by decide +kernel
theorem kv_214 {q : Nat} {x0 : Int32} {x1 : Int32} {fs : List Value} (hr : h.2.2 q = some (.inr (8, fs))) {P : Int32 → am_H → Prop} (hm : am_mi xs L d 214 [.ref q, .int x0, .int x1] h P) (hc : am_cats st ≤ 8) (k : ∀ z h', P z h' → am_w xs L (d + 1) y is l (.int z :: st) h' Q) : am_w xs L (d + 1) y ((62, 3, 214, 3, cc) :: is) l (.int x1 :: .int x0 :: .ref q :: st) h Q :=
  wp_inv [.ref q, .int x0, .int x1] st hm (Or.inr (Or.inl rfl)) rfl ⟨rfl, (kn_214).2.1.symm⟩ (by unfold am_may; rw [if_neg (by decide)]; show (if (62 : Nat) = 62 then (match h.2.2 q with | some (.inr (ci, _)) => ci == am_rc 214 | _ => false) else _) = true; rw [if_pos rfl, hr, (kn_214).2.2.1]; rfl) hc (by rw [(kn_214).1]; exact Nat.le_of_ble_eq_true rfl) (fun v h' hv => by
    obtain ⟨z, rfl, hp⟩ := hv
    exact ⟨by unfold am_rok; rw [(kn_214).2.2.2], k z h' hp⟩)
theorem kn_215 : am_ml 215 = 2 ∧ am_na 215 = 2 ∧ am_rc 215 = 8 ∧ am_rt 215 = some .boolean := by decide +kernel
theorem kv_215 {q : Nat} {x0 : Int32} {fs : List Value} (hr : h.2.2 q = some (.inr (8, fs))) {P : Bool → am_H → Prop} (hm : am_mb xs L d 215 [.ref q, .int x0] h P) (hc : am_cats st ≤ 8) (k : ∀ (z : Bool) h', P z h' → am_w xs L (d + 1) y is l (.int (if z = true then 1 else 0) :: st) h' Q) : am_w xs L (d + 1) y ((62, 3, 215, 2, cc) :: is) l (.int x0 :: .ref q :: st) h Q :=
  wp_inv [.ref q, .int x0] st hm (Or.inr (Or.inl rfl)) rfl ⟨rfl, (kn_215).2.1.symm⟩ (by unfold am_may; rw [if_neg (by decide)]; show (if (62 : Nat) = 62 then (match h.2.2 q with | some (.inr (ci, _)) => ci == am_rc 215 | _ => false) else _) = true; rw [if_pos rfl, hr, (kn_215).2.2.1]; rfl) hc (by rw [(kn_215).1]; exact Nat.le_of_ble_eq_true rfl) (fun v h' hv => by
    obtain ⟨z, rfl, hp⟩ := hv
    exact ⟨by unfold am_rok; rw [(kn_215).2.2.2]; cases z <;> rfl, k z h' hp⟩)
theorem kn_216 : am_ml 216 = 5 ∧ am_na 216 = 1 ∧ am_rc 216 = 99 ∧ am_rt 216 = some .int := by decide +kernel
theorem kv_216 {x0 : Int64} {P : Int32 → am_H → Prop} (hm : am_mi xs L d 216 [.long x0] h P) (hc : am_cats st ≤ 8) (k : ∀ z h', P z h' → am_w xs L (d + 1) y is l (.int z :: st) h' Q) : am_w xs L (d + 1) y ((60, 3, 216, 1, cc) :: is) l (.long x0 :: st) h Q :=
  wp_inv [.long x0] st hm (Or.inl rfl) rfl ⟨rfl, (kn_216).2.1.symm⟩ (by unfold am_may; rw [if_pos rfl, (kn_216).2.2.1]; rfl) hc (by rw [(kn_216).1]; exact Nat.le_of_ble_eq_true rfl) (fun v h' hv => by
    obtain ⟨z, rfl, hp⟩ := hv
    exact ⟨by unfold am_rok; rw [(kn_216).2.2.2], k z h' hp⟩)
theorem kn_217 : am_ml 217 = 4 ∧ am_na 217 = 4 ∧ am_rc 217 = 8 ∧ am_rt 217 = some .boolean := by decide +kernel
theorem kv_217 {q : Nat} {x0 : Int32} {x1 : Int32} {x2 : Int32} {fs : List Value} (hr : h.2.2 q = some (.inr (8, fs))) {P : Bool → am_H → Prop} (hm : am_mb xs L d 217 [.ref q, .int x0, .int x1, .int x2] h P) (hc : am_cats st ≤ 8) (k : ∀ (z : Bool) h', P z h' → am_w xs L (d + 1) y is l (.int (if z = true then 1 else 0) :: st) h' Q) : am_w xs L (d + 1) y ((62, 3, 217, 4, cc) :: is) l (.int x2 :: .int x1 :: .int x0 :: .ref q :: st) h Q :=
  wp_inv [.ref q, .int x0, .int x1, .int x2] st hm (Or.inr (Or.inl rfl)) rfl ⟨rfl, (kn_217).2.1.symm⟩ (by unfold am_may; rw [if_neg (by decide)]; show (if (62 : Nat) = 62 then (match h.2.2 q with | some (.inr (ci, _)) => ci == am_rc 217 | _ => false) else _) = true; rw [if_pos rfl, hr, (kn_217).2.2.1]; rfl) hc (by rw [(kn_217).1]; exact Nat.le_of_ble_eq_true rfl) (fun v h' hv => by
    obtain ⟨z, rfl, hp⟩ := hv
    exact ⟨by unfold am_rok; rw [(kn_217).2.2.2]; cases z <;> rfl, k z h' hp⟩)
theorem kn_218 : am_ml 218 = 3 ∧ am_na 218 = 3 ∧ am_rc 218 = 8 ∧ am_rt 218 = some .boolean := by decide +kernel
theorem kv_218 {q : Nat} {x0 : Int32} {x1 : Int32} {fs : List Value} (hr : h.2.2 q = some (.inr (8, fs))) {P : Bool → am_H → Prop} (hm : am_mb xs L d 218 [.ref q, .int x0, .int x1] h P) (hc : am_cats st ≤ 8) (k : ∀ (z : Bool) h', P z h' → am_w xs L (d + 1) y is l (.int (if z = true then 1 else 0) :: st) h' Q) : am_w xs L (d + 1) y ((62, 3, 218, 3, cc) :: is) l (.int x1 :: .int x0 :: .ref q :: st) h Q :=
  wp_inv [.ref q, .int x0, .int x1] st hm (Or.inr (Or.inl rfl)) rfl ⟨rfl, (kn_218).2.1.symm⟩ (by unfold am_may; rw [if_neg (by decide)]; show (if (62 : Nat) = 62 then (match h.2.2 q with | some (.inr (ci, _)) => ci == am_rc 218 | _ => false) else _) = true; rw [if_pos rfl, hr, (kn_218).2.2.1]; rfl) hc (by rw [(kn_218).1]; exact Nat.le_of_ble_eq_true rfl) (fun v h' hv => by
    obtain ⟨z, rfl, hp⟩ := hv
    exact ⟨by unfold am_rok; rw [(kn_218).2.2.2]; cases z <;> rfl, k z h' hp⟩)
theorem kn_219 : am_ml 219 = 2 ∧ am_na 219 = 2 ∧ am_rc 219 = 99 ∧ am_rt 219 = some .boolean := by decide +kernel
theorem kv_219 {x0 : Int32} {x1 : Int32} {P : Bool → am_H → Prop} (hm : am_mb xs L d 219 [.int x0, .int x1] h P) (hc : am_cats st ≤ 8) (k : ∀ (z : Bool) h', P z h' → am_w xs L (d + 1) y is l (.int (if z = true then 1 else 0) :: st) h' Q) : am_w xs L (d + 1) y ((60, 3, 219, 2, cc) :: is) l (.int x1 :: .int x0 :: st) h Q :=
  wp_inv [.int x0, .int x1] st hm (Or.inl rfl) rfl ⟨rfl, (kn_219).2.1.symm⟩ (by unfold am_may; rw [if_pos rfl, (kn_219).2.2.1]; rfl) hc (by rw [(kn_219).1]; exact Nat.le_of_ble_eq_true rfl) (fun v h' hv => by
    obtain ⟨z, rfl, hp⟩ := hv
    exact ⟨by unfold am_rok; rw [(kn_219).2.2.2]; cases z <;> rfl, k z h' hp⟩)
theorem kn_220 : am_ml 220 = 5 ∧ am_na 220 = 1 ∧ am_rc 220 = 99 ∧ am_rt 220 = some .int := by decide +kernel
theorem kv_220 {x0 : Int64} {P : Int32 → am_H → Prop} (hm : am_mi xs L d 220 [.long x0] h P) (hc : am_cats st ≤ 8) (k : ∀ z h', P z h' → am_w xs L (d + 1) y is l (.int z :: st) h' Q) : am_w xs L (d + 1) y ((60, 3, 220, 1, cc) :: is) l (.long x0 :: st) h Q :=
  wp_inv [.long x0] st hm (Or.inl rfl) rfl ⟨rfl, (kn_220).2.1.symm⟩ (by unfold am_may; rw [if_pos rfl, (kn_220).2.2.1]; rfl) hc (by rw [(kn_220).1]; exact Nat.le_of_ble_eq_true rfl) (fun v h' hv => by
    obtain ⟨z, rfl, hp⟩ := hv
    exact ⟨by unfold am_rok; rw [(kn_220).2.2.2], k z h' hp⟩)
theorem kn_221 : am_ml 221 = 4 ∧ am_na 221 = 3 ∧ am_rc 221 = 8 ∧ am_rt 221 = some .int := by decide +kernel
theorem kv_221 {q : Nat} {x0 : Int32} {x1 : Int32} {fs : List Value} (hr : h.2.2 q = some (.inr (8, fs))) {P : Int32 → am_H → Prop} (hm : am_mi xs L d 221 [.ref q, .int x0, .int x1] h P) (hc : am_cats st ≤ 8) (k : ∀ z h', P z h' → am_w xs L (d + 1) y is l (.int z :: st) h' Q) : am_w xs L (d + 1) y ((62, 3, 221, 3, cc) :: is) l (.int x1 :: .int x0 :: .ref q :: st) h Q :=
  wp_inv [.ref q, .int x0, .int x1] st hm (Or.inr (Or.inl rfl)) rfl ⟨rfl, (kn_221).2.1.symm⟩ (by unfold am_may; rw [if_neg (by decide)]; show (if (62 : Nat) = 62 then (match h.2.2 q with | some (.inr (ci, _)) => ci == am_rc 221 | _ => false) else _) = true; rw [if_pos rfl, hr, (kn_221).2.2.1]; rfl) hc (by rw [(kn_221).1]; exact Nat.le_of_ble_eq_true rfl) (fun v h' hv => by
    obtain ⟨z, rfl, hp⟩ := hv
    exact ⟨by unfold am_rok; rw [(kn_221).2.2.2], k z h' hp⟩)
theorem kn_222 : am_ml 222 = 2 ∧ am_na 222 = 2 ∧ am_rc 222 = 8 ∧ am_rt 222 = some .boolean := by decide +kernel
theorem kv_222 {q : Nat} {x0 : Int32} {fs : List Value} (hr : h.2.2 q = some (.inr (8, fs))) {P : Bool → am_H → Prop} (hm : am_mb xs L d 222 [.ref q, .int x0] h P) (hc : am_cats st ≤ 8) (k : ∀ (z : Bool) h', P z h' → am_w xs L (d + 1) y is l (.int (if z = true then 1 else 0) :: st) h' Q) : am_w xs L (d + 1) y ((62, 3, 222, 2, cc) :: is) l (.int x0 :: .ref q :: st) h Q :=
  wp_inv [.ref q, .int x0] st hm (Or.inr (Or.inl rfl)) rfl ⟨rfl, (kn_222).2.1.symm⟩ (by unfold am_may; rw [if_neg (by decide)]; show (if (62 : Nat) = 62 then (match h.2.2 q with | some (.inr (ci, _)) => ci == am_rc 222 | _ => false) else _) = true; rw [if_pos rfl, hr, (kn_222).2.2.1]; rfl) hc (by rw [(kn_222).1]; exact Nat.le_of_ble_eq_true rfl) (fun v h' hv => by
    obtain ⟨z, rfl, hp⟩ := hv
    exact ⟨by unfold am_rok; rw [(kn_222).2.2.2]; cases z <;> rfl, k z h' hp⟩)
theorem kn_223 : am_ml 223 = 6 ∧ am_na 223 = 4 ∧ am_rc 223 = 8 ∧ am_rt 223 = some .int := by decide +kernel
theorem kv_223 {q : Nat} {x0 : Int32} {x1 : Int32} {x2 : Int32} {fs : List Value} (hr : h.2.2 q = some (.inr (8, fs))) {P : Int32 → am_H → Prop} (hm : am_mi xs L d 223 [.ref q, .int x0, .int x1, .int x2] h P) (hc : am_cats st ≤ 8) (k : ∀ z h', P z h' → am_w xs L (d + 1) y is l (.int z :: st) h' Q) : am_w xs L (d + 1) y ((62, 3, 223, 4, cc) :: is) l (.int x2 :: .int x1 :: .int x0 :: .ref q :: st) h Q :=
  wp_inv [.ref q, .int x0, .int x1, .int x2] st hm (Or.inr (Or.inl rfl)) rfl ⟨rfl, (kn_223).2.1.symm⟩ (by unfold am_may; rw [if_neg (by decide)]; show (if (62 : Nat) = 62 then (match h.2.2 q with | some (.inr (ci, _)) => ci == am_rc 223 | _ => false) else _) = true; rw [if_pos rfl, hr, (kn_223).2.2.1]; rfl) hc (by rw [(kn_223).1]; exact Nat.le_of_ble_eq_true rfl) (fun v h' hv => by
    obtain ⟨z, rfl, hp⟩ := hv
    exact ⟨by unfold am_rok; rw [(kn_223).2.2.2], k z h' hp⟩)
theorem kn_224 : am_ml 224 = 4 ∧ am_na 224 = 2 ∧ am_rc 224 = 8 ∧ am_rt 224 = some .int := by decide +kernel
theorem kv_224 {q : Nat} {x0 : Int32} {fs : List Value} (hr : h.2.2 q = some (.inr (8, fs))) {P : Int32 → am_H → Prop} (hm : am_mi xs L d 224 [.ref q, .int x0] h P) (hc : am_cats st ≤ 8) (k : ∀ z h', P z h' → am_w xs L (d + 1) y is l (.int z :: st) h' Q) : am_w xs L (d + 1) y ((62, 3, 224, 2, cc) :: is) l (.int x0 :: .ref q :: st) h Q :=
  wp_inv [.ref q, .int x0] st hm (Or.inr (Or.inl rfl)) rfl ⟨rfl, (kn_224).2.1.symm⟩ (by unfold am_may; rw [if_neg (by decide)]; show (if (62 : Nat) = 62 then (match h.2.2 q with | some (.inr (ci, _)) => ci == am_rc 224 | _ => false) else _) = true; rw [if_pos rfl, hr, (kn_224).2.2.1]; rfl) hc (by rw [(kn_224).1]; exact Nat.le_of_ble_eq_true rfl) (fun v h' hv => by
    obtain ⟨z, rfl, hp⟩ := hv
    exact ⟨by unfold am_rok; rw [(kn_224).2.2.2], k z h' hp⟩)
theorem kn_225 : am_ml 225 = 3 ∧ am_na 225 = 1 ∧ am_rc 225 = 99 ∧ am_rt 225 = some .int := by decide +kernel
theorem kv_225 {x0 : Int32} {P : Int32 → am_H → Prop} (hm : am_mi xs L d 225 [.int x0] h P) (hc : am_cats st ≤ 8) (k : ∀ z h', P z h' → am_w xs L (d + 1) y is l (.int z :: st) h' Q) : am_w xs L (d + 1) y ((60, 3, 225, 1, cc) :: is) l (.int x0 :: st) h Q :=
  wp_inv [.int x0] st hm (Or.inl rfl) rfl ⟨rfl, (kn_225).2.1.symm⟩ (by unfold am_may; rw [if_pos rfl, (kn_225).2.2.1]; rfl) hc (by rw [(kn_225).1]; exact Nat.le_of_ble_eq_true rfl) (fun v h' hv => by
    obtain ⟨z, rfl, hp⟩ := hv
    exact ⟨by unfold am_rok; rw [(kn_225).2.2.2], k z h' hp⟩)
theorem kn_226 : am_ml 226 = 2 ∧ am_na 226 = 2 ∧ am_rc 226 = 8 ∧ am_rt 226 = some .int := by decide +kernel
theorem kv_226 {q : Nat} {x0 : Int32} {fs : List Value} (hr : h.2.2 q = some (.inr (8, fs))) {P : Int32 → am_H → Prop} (hm : am_mi xs L d 226 [.ref q, .int x0] h P) (hc : am_cats st ≤ 8) (k : ∀ z h', P z h' → am_w xs L (d + 1) y is l (.int z :: st) h' Q) : am_w xs L (d + 1) y ((62, 3, 226, 2, cc) :: is) l (.int x0 :: .ref q :: st) h Q :=
  wp_inv [.ref q, .int x0] st hm (Or.inr (Or.inl rfl)) rfl ⟨rfl, (kn_226).2.1.symm⟩ (by unfold am_may; rw [if_neg (by decide)]; show (if (62 : Nat) = 62 then (match h.2.2 q with | some (.inr (ci, _)) => ci == am_rc 226 | _ => false) else _) = true; rw [if_pos rfl, hr, (kn_226).2.2.1]; rfl) hc (by rw [(kn_226).1]; exact Nat.le_of_ble_eq_true rfl) (fun v h' hv => by
    obtain ⟨z, rfl, hp⟩ := hv
    exact ⟨by unfold am_rok; rw [(kn_226).2.2.2], k z h' hp⟩)
theorem kn_227 : am_ml 227 = 2 ∧ am_na 227 = 2 ∧ am_rc 227 = 8 ∧ am_rt 227 = some .boolean := by decide +kernel
theorem kv_227 {q : Nat} {x0 : Int32} {fs : List Value} (hr : h.2.2 q = some (.inr (8, fs))) {P : Bool → am_H → Prop} (hm : am_mb xs L d 227 [.ref q, .int x0] h P) (hc : am_cats st ≤ 8) (k : ∀ (z : Bool) h', P z h' → am_w xs L (d + 1) y is l (.int (if z = true then 1 else 0) :: st) h' Q) : am_w xs L (d + 1) y ((62, 3, 227, 2, cc) :: is) l (.int x0 :: .ref q :: st) h Q :=
  wp_inv [.ref q, .int x0] st hm (Or.inr (Or.inl rfl)) rfl ⟨rfl, (kn_227).2.1.symm⟩ (by unfold am_may; rw [if_neg (by decide)]; show (if (62 : Nat) = 62 then (match h.2.2 q with | some (.inr (ci, _)) => ci == am_rc 227 | _ => false) else _) = true; rw [if_pos rfl, hr, (kn_227).2.2.1]; rfl) hc (by rw [(kn_227).1]; exact Nat.le_of_ble_eq_true rfl) (fun v h' hv => by
    obtain ⟨z, rfl, hp⟩ := hv
    exact ⟨by unfold am_rok; rw [(kn_227).2.2.2]; cases z <;> rfl, k z h' hp⟩)
theorem kn_228 : am_ml 228 = 5 ∧ am_na 228 = 2 ∧ am_rc 228 = 8 ∧ am_rt 228 = some .int := by decide +kernel
theorem kv_228 {q : Nat} {x0 : Int32} {fs : List Value} (hr : h.2.2 q = some (.inr (8, fs))) {P : Int32 → am_H → Prop} (hm : am_mi xs L d 228 [.ref q, .int x0] h P) (hc : am_cats st ≤ 8) (k : ∀ z h', P z h' → am_w xs L (d + 1) y is l (.int z :: st) h' Q) : am_w xs L (d + 1) y ((62, 3, 228, 2, cc) :: is) l (.int x0 :: .ref q :: st) h Q :=
  wp_inv [.ref q, .int x0] st hm (Or.inr (Or.inl rfl)) rfl ⟨rfl, (kn_228).2.1.symm⟩ (by unfold am_may; rw [if_neg (by decide)]; show (if (62 : Nat) = 62 then (match h.2.2 q with | some (.inr (ci, _)) => ci == am_rc 228 | _ => false) else _) = true; rw [if_pos rfl, hr, (kn_228).2.2.1]; rfl) hc (by rw [(kn_228).1]; exact Nat.le_of_ble_eq_true rfl) (fun v h' hv => by
    obtain ⟨z, rfl, hp⟩ := hv
    exact ⟨by unfold am_rok; rw [(kn_228).2.2.2], k z h' hp⟩)
theorem kn_229 : am_ml 229 = 3 ∧ am_na 229 = 1 ∧ am_rc 229 = 8 ∧ am_rt 229 = some .int := by decide +kernel
theorem kv_229 {q : Nat} {fs : List Value} (hr : h.2.2 q = some (.inr (8, fs))) {P : Int32 → am_H → Prop} (hm : am_mi xs L d 229 [.ref q] h P) (hc : am_cats st ≤ 8) (k : ∀ z h', P z h' → am_w xs L (d + 1) y is l (.int z :: st) h' Q) : am_w xs L (d + 1) y ((62, 3, 229, 1, cc) :: is) l (.ref q :: st) h Q :=
  wp_inv [.ref q] st hm (Or.inr (Or.inl rfl)) rfl ⟨rfl, (kn_229).2.1.symm⟩ (by unfold am_may; rw [if_neg (by decide)]; show (if (62 : Nat) = 62 then (match h.2.2 q with | some (.inr (ci, _)) => ci == am_rc 229 | _ => false) else _) = true; rw [if_pos rfl, hr, (kn_229).2.2.1]; rfl) hc (by rw [(kn_229).1]; exact Nat.le_of_ble_eq_true rfl) (fun v h' hv => by
    obtain ⟨z, rfl, hp⟩ := hv
    exact ⟨by unfold am_rok; rw [(kn_229).2.2.2], k z h' hp⟩)
theorem kn_230 : am_ml 230 = 2 ∧ am_na 230 = 2 ∧ am_rc 230 = 8 ∧ am_rt 230 = some .int := by decide +kernel
theorem kv_230 {q : Nat} {x0 : Int32} {fs : List Value} (hr : h.2.2 q = some (.inr (8, fs))) {P : Int32 → am_H → Prop} (hm : am_mi xs L d 230 [.ref q, .int x0] h P) (hc : am_cats st ≤ 8) (k : ∀ z h', P z h' → am_w xs L (d + 1) y is l (.int z :: st) h' Q) : am_w xs L (d + 1) y ((62, 3, 230, 2, cc) :: is) l (.int x0 :: .ref q :: st) h Q :=
  wp_inv [.ref q, .int x0] st hm (Or.inr (Or.inl rfl)) rfl ⟨rfl, (kn_230).2.1.symm⟩ (by unfold am_may; rw [if_neg (by decide)]; show (if (62 : Nat) = 62 then (match h.2.2 q with | some (.inr (ci, _)) => ci == am_rc 230 | _ => false) else _) = true; rw [if_pos rfl, hr, (kn_230).2.2.1]; rfl) hc (by rw [(kn_230).1]; exact Nat.le_of_ble_eq_true rfl) (fun v h' hv => by
    obtain ⟨z, rfl, hp⟩ := hv
    exact ⟨by unfold am_rok; rw [(kn_230).2.2.2], k z h' hp⟩)
theorem kn_231 : am_ml 231 = 5 ∧ am_na 231 = 3 ∧ am_rc 231 = 8 ∧ am_rt 231 = some .int := by decide +kernel
theorem kv_231 {q : Nat} {x0 : Int32} {x1 : Int32} {fs : List Value} (hr : h.2.2 q = some (.inr (8, fs))) {P : Int32 → am_H → Prop} (hm : am_mi xs L d 231 [.ref q, .int x0, .int x1] h P) (hc : am_cats st ≤ 8) (k : ∀ z h', P z h' → am_w xs L (d + 1) y is l (.int z :: st) h' Q) : am_w xs L (d + 1) y ((62, 3, 231, 3, cc) :: is) l (.int x1 :: .int x0 :: .ref q :: st) h Q :=
  wp_inv [.ref q, .int x0, .int x1] st hm (Or.inr (Or.inl rfl)) rfl ⟨rfl, (kn_231).2.1.symm⟩ (by unfold am_may; rw [if_neg (by decide)]; show (if (62 : Nat) = 62 then (match h.2.2 q with | some (.inr (ci, _)) => ci == am_rc 231 | _ => false) else _) = true; rw [if_pos rfl, hr, (kn_231).2.2.1]; rfl) hc (by rw [(kn_231).1]; exact Nat.le_of_ble_eq_true rfl) (fun v h' hv => by
    obtain ⟨z, rfl, hp⟩ := hv
    exact ⟨by unfold am_rok; rw [(kn_231).2.2.2], k z h' hp⟩)
theorem kn_232 : am_ml 232 = 5 ∧ am_na 232 = 3 ∧ am_rc 232 = 8 ∧ am_rt 232 = some .int := by decide +kernel
theorem kv_232 {q : Nat} {x0 : Int32} {x1 : Int32} {fs : List Value} (hr : h.2.2 q = some (.inr (8, fs))) {P : Int32 → am_H → Prop} (hm : am_mi xs L d 232 [.ref q, .int x0, .int x1] h P) (hc : am_cats st ≤ 8) (k : ∀ z h', P z h' → am_w xs L (d + 1) y is l (.int z :: st) h' Q) : am_w xs L (d + 1) y ((62, 3, 232, 3, cc) :: is) l (.int x1 :: .int x0 :: .ref q :: st) h Q :=
  wp_inv [.ref q, .int x0, .int x1] st hm (Or.inr (Or.inl rfl)) rfl ⟨rfl, (kn_232).2.1.symm⟩ (by unfold am_may; rw [if_neg (by decide)]; show (if (62 : Nat) = 62 then (match h.2.2 q with | some (.inr (ci, _)) => ci == am_rc 232 | _ => false) else _) = true; rw [if_pos rfl, hr, (kn_232).2.2.1]; rfl) hc (by rw [(kn_232).1]; exact Nat.le_of_ble_eq_true rfl) (fun v h' hv => by
    obtain ⟨z, rfl, hp⟩ := hv
    exact ⟨by unfold am_rok; rw [(kn_232).2.2.2], k z h' hp⟩)
theorem kn_233 : am_ml 233 = 1 ∧ am_na 233 = 1 ∧ am_rc 233 = 8 ∧ am_rt 233 = some .int := by decide +kernel
theorem kv_233 {q : Nat} {fs : List Value} (hr : h.2.2 q = some (.inr (8, fs))) {P : Int32 → am_H → Prop} (hm : am_mi xs L d 233 [.ref q] h P) (hc : am_cats st ≤ 8) (k : ∀ z h', P z h' → am_w xs L (d + 1) y is l (.int z :: st) h' Q) : am_w xs L (d + 1) y ((62, 3, 233, 1, cc) :: is) l (.ref q :: st) h Q :=
  wp_inv [.ref q] st hm (Or.inr (Or.inl rfl)) rfl ⟨rfl, (kn_233).2.1.symm⟩ (by unfold am_may; rw [if_neg (by decide)]; show (if (62 : Nat) = 62 then (match h.2.2 q with | some (.inr (ci, _)) => ci == am_rc 233 | _ => false) else _) = true; rw [if_pos rfl, hr, (kn_233).2.2.1]; rfl) hc (by rw [(kn_233).1]; exact Nat.le_of_ble_eq_true rfl) (fun v h' hv => by
    obtain ⟨z, rfl, hp⟩ := hv
    exact ⟨by unfold am_rok; rw [(kn_233).2.2.2], k z h' hp⟩)
theorem kn_234 : am_ml 234 = 3 ∧ am_na 234 = 1 ∧ am_rc 234 = 8 ∧ am_rt 234 = some .int := by decide +kernel
theorem kv_234 {q : Nat} {fs : List Value} (hr : h.2.2 q = some (.inr (8, fs))) {P : Int32 → am_H → Prop} (hm : am_mi xs L d 234 [.ref q] h P) (hc : am_cats st ≤ 8) (k : ∀ z h', P z h' → am_w xs L (d + 1) y is l (.int z :: st) h' Q) : am_w xs L (d + 1) y ((62, 3, 234, 1, cc) :: is) l (.ref q :: st) h Q :=
  wp_inv [.ref q] st hm (Or.inr (Or.inl rfl)) rfl ⟨rfl, (kn_234).2.1.symm⟩ (by unfold am_may; rw [if_neg (by decide)]; show (if (62 : Nat) = 62 then (match h.2.2 q with | some (.inr (ci, _)) => ci == am_rc 234 | _ => false) else _) = true; rw [if_pos rfl, hr, (kn_234).2.2.1]; rfl) hc (by rw [(kn_234).1]; exact Nat.le_of_ble_eq_true rfl) (fun v h' hv => by
    obtain ⟨z, rfl, hp⟩ := hv
    exact ⟨by unfold am_rok; rw [(kn_234).2.2.2], k z h' hp⟩)
theorem kn_235 : am_ml 235 = 5 ∧ am_na 235 = 2 ∧ am_rc 235 = 8 ∧ am_rt 235 = some .int := by decide +kernel
theorem kv_235 {q : Nat} {x0 : Int32} {fs : List Value} (hr : h.2.2 q = some (.inr (8, fs))) {P : Int32 → am_H → Prop} (hm : am_mi xs L d 235 [.ref q, .int x0] h P) (hc : am_cats st ≤ 8) (k : ∀ z h', P z h' → am_w xs L (d + 1) y is l (.int z :: st) h' Q) : am_w xs L (d + 1) y ((62, 3, 235, 2, cc) :: is) l (.int x0 :: .ref q :: st) h Q :=
  wp_inv [.ref q, .int x0] st hm (Or.inr (Or.inl rfl)) rfl ⟨rfl, (kn_235).2.1.symm⟩ (by unfold am_may; rw [if_neg (by decide)]; show (if (62 : Nat) = 62 then (match h.2.2 q with | some (.inr (ci, _)) => ci == am_rc 235 | _ => false) else _) = true; rw [if_pos rfl, hr, (kn_235).2.2.1]; rfl) hc (by rw [(kn_235).1]; exact Nat.le_of_ble_eq_true rfl) (fun v h' hv => by
    obtain ⟨z, rfl, hp⟩ := hv
    exact ⟨by unfold am_rok; rw [(kn_235).2.2.2], k z h' hp⟩)
theorem kn_236 : am_ml 236 = 2 ∧ am_na 236 = 2 ∧ am_rc 236 = 8 ∧ am_rt 236 = some .int := by decide +kernel
theorem kv_236 {q : Nat} {x0 : Int32} {fs : List Value} (hr : h.2.2 q = some (.inr (8, fs))) {P : Int32 → am_H → Prop} (hm : am_mi xs L d 236 [.ref q, .int x0] h P) (hc : am_cats st ≤ 8) (k : ∀ z h', P z h' → am_w xs L (d + 1) y is l (.int z :: st) h' Q) : am_w xs L (d + 1) y ((62, 3, 236, 2, cc) :: is) l (.int x0 :: .ref q :: st) h Q :=
  wp_inv [.ref q, .int x0] st hm (Or.inr (Or.inl rfl)) rfl ⟨rfl, (kn_236).2.1.symm⟩ (by unfold am_may; rw [if_neg (by decide)]; show (if (62 : Nat) = 62 then (match h.2.2 q with | some (.inr (ci, _)) => ci == am_rc 236 | _ => false) else _) = true; rw [if_pos rfl, hr, (kn_236).2.2.1]; rfl) hc (by rw [(kn_236).1]; exact Nat.le_of_ble_eq_true rfl) (fun v h' hv => by
    obtain ⟨z, rfl, hp⟩ := hv
    exact ⟨by unfold am_rok; rw [(kn_236).2.2.2], k z h' hp⟩)
theorem kn_237 : am_ml 237 = 3 ∧ am_na 237 = 2 ∧ am_rc 237 = 8 ∧ am_rt 237 = some .int := by decide +kernel
theorem kv_237 {q : Nat} {x0 : Int32} {fs : List Value} (hr : h.2.2 q = some (.inr (8, fs))) {P : Int32 → am_H → Prop} (hm : am_mi xs L d 237 [.ref q, .int x0] h P) (hc : am_cats st ≤ 8) (k : ∀ z h', P z h' → am_w xs L (d + 1) y is l (.int z :: st) h' Q) : am_w xs L (d + 1) y ((62, 3, 237, 2, cc) :: is) l (.int x0 :: .ref q :: st) h Q :=
  wp_inv [.ref q, .int x0] st hm (Or.inr (Or.inl rfl)) rfl ⟨rfl, (kn_237).2.1.symm⟩ (by unfold am_may; rw [if_neg (by decide)]; show (if (62 : Nat) = 62 then (match h.2.2 q with | some (.inr (ci, _)) => ci == am_rc 237 | _ => false) else _) = true; rw [if_pos rfl, hr, (kn_237).2.2.1]; rfl) hc (by rw [(kn_237).1]; exact Nat.le_of_ble_eq_true rfl) (fun v h' hv => by
    obtain ⟨z, rfl, hp⟩ := hv
    exact ⟨by unfold am_rok; rw [(kn_237).2.2.2], k z h' hp⟩)
theorem kn_238 : am_ml 238 = 4 ∧ am_na 238 = 2 ∧ am_rc 238 = 8 ∧ am_rt 238 = some .int := by decide +kernel
theorem kv_238 {q : Nat} {x0 : Int32} {fs : List Value} (hr : h.2.2 q = some (.inr (8, fs))) {P : Int32 → am_H → Prop} (hm : am_mi xs L d 238 [.ref q, .int x0] h P) (hc : am_cats st ≤ 8) (k : ∀ z h', P z h' → am_w xs L (d + 1) y is l (.int z :: st) h' Q) : am_w xs L (d + 1) y ((62, 3, 238, 2, cc) :: is) l (.int x0 :: .ref q :: st) h Q :=
  wp_inv [.ref q, .int x0] st hm (Or.inr (Or.inl rfl)) rfl ⟨rfl, (kn_238).2.1.symm⟩ (by unfold am_may; rw [if_neg (by decide)]; show (if (62 : Nat) = 62 then (match h.2.2 q with | some (.inr (ci, _)) => ci == am_rc 238 | _ => false) else _) = true; rw [if_pos rfl, hr, (kn_238).2.2.1]; rfl) hc (by rw [(kn_238).1]; exact Nat.le_of_ble_eq_true rfl) (fun v h' hv => by
    obtain ⟨z, rfl, hp⟩ := hv
    exact ⟨by unfold am_rok; rw [(kn_238).2.2.2], k z h' hp⟩)
theorem kn_239 : am_ml 239 = 4 ∧ am_na 239 = 2 ∧ am_rc 239 = 8 ∧ am_rt 239 = some .int := by decide +kernel
theorem kv_239 {q : Nat} {x0 : Int32} {fs : List Value} (hr : h.2.2 q = some (.inr (8, fs))) {P : Int32 → am_H → Prop} (hm : am_mi xs L d 239 [.ref q, .int x0] h P) (hc : am_cats st ≤ 8) (k : ∀ z h', P z h' → am_w xs L (d + 1) y is l (.int z :: st) h' Q) : am_w xs L (d + 1) y ((62, 3, 239, 2, cc) :: is) l (.int x0 :: .ref q :: st) h Q :=
  wp_inv [.ref q, .int x0] st hm (Or.inr (Or.inl rfl)) rfl ⟨rfl, (kn_239).2.1.symm⟩ (by unfold am_may; rw [if_neg (by decide)]; show (if (62 : Nat) = 62 then (match h.2.2 q with | some (.inr (ci, _)) => ci == am_rc 239 | _ => false) else _) = true; rw [if_pos rfl, hr, (kn_239).2.2.1]; rfl) hc (by rw [(kn_239).1]; exact Nat.le_of_ble_eq_true rfl) (fun v h' hv => by
    obtain ⟨z, rfl, hp⟩ := hv
    exact ⟨by unfold am_rok; rw [(kn_239).2.2.2], k z h' hp⟩)
theorem kn_240 : am_ml 240 = 4 ∧ am_na 240 = 2 ∧ am_rc 240 = 8 ∧ am_rt 240 = some .int := by decide +kernel
theorem kv_240 {q : Nat} {x0 : Int32} {fs : List Value} (hr : h.2.2 q = some (.inr (8, fs))) {P : Int32 → am_H → Prop} (hm : am_mi xs L d 240 [.ref q, .int x0] h P) (hc : am_cats st ≤ 8) (k : ∀ z h', P z h' → am_w xs L (d + 1) y is l (.int z :: st) h' Q) : am_w xs L (d + 1) y ((62, 3, 240, 2, cc) :: is) l (.int x0 :: .ref q :: st) h Q :=
  wp_inv [.ref q, .int x0] st hm (Or.inr (Or.inl rfl)) rfl ⟨rfl, (kn_240).2.1.symm⟩ (by unfold am_may; rw [if_neg (by decide)]; show (if (62 : Nat) = 62 then (match h.2.2 q with | some (.inr (ci, _)) => ci == am_rc 240 | _ => false) else _) = true; rw [if_pos rfl, hr, (kn_240).2.2.1]; rfl) hc (by rw [(kn_240).1]; exact Nat.le_of_ble_eq_true rfl) (fun v h' hv => by
    obtain ⟨z, rfl, hp⟩ := hv
    exact ⟨by unfold am_rok; rw [(kn_240).2.2.2], k z h' hp⟩)
theorem kn_241 : am_ml 241 = 7 ∧ am_na 241 = 3 ∧ am_rc 241 = 8 ∧ am_rt 241 = some .int := by decide +kernel
theorem kv_241 {q : Nat} {x0 : Int32} {x1 : Int32} {fs : List Value} (hr : h.2.2 q = some (.inr (8, fs))) {P : Int32 → am_H → Prop} (hm : am_mi xs L d 241 [.ref q, .int x0, .int x1] h P) (hc : am_cats st ≤ 8) (k : ∀ z h', P z h' → am_w xs L (d + 1) y is l (.int z :: st) h' Q) : am_w xs L (d + 1) y ((62, 3, 241, 3, cc) :: is) l (.int x1 :: .int x0 :: .ref q :: st) h Q :=
  wp_inv [.ref q, .int x0, .int x1] st hm (Or.inr (Or.inl rfl)) rfl ⟨rfl, (kn_241).2.1.symm⟩ (by unfold am_may; rw [if_neg (by decide)]; show (if (62 : Nat) = 62 then (match h.2.2 q with | some (.inr (ci, _)) => ci == am_rc 241 | _ => false) else _) = true; rw [if_pos rfl, hr, (kn_241).2.2.1]; rfl) hc (by rw [(kn_241).1]; exact Nat.le_of_ble_eq_true rfl) (fun v h' hv => by
    obtain ⟨z, rfl, hp⟩ := hv
    exact ⟨by unfold am_rok; rw [(kn_241).2.2.2], k z h' hp⟩)
theorem kn_242 : am_ml 242 = 1 ∧ am_na 242 = 1 ∧ am_rc 242 = 8 ∧ am_rt 242 = some .int := by decide +kernel
theorem kv_242 {q : Nat} {fs : List Value} (hr : h.2.2 q = some (.inr (8, fs))) {P : Int32 → am_H → Prop} (hm : am_mi xs L d 242 [.ref q] h P) (hc : am_cats st ≤ 8) (k : ∀ z h', P z h' → am_w xs L (d + 1) y is l (.int z :: st) h' Q) : am_w xs L (d + 1) y ((62, 3, 242, 1, cc) :: is) l (.ref q :: st) h Q :=
  wp_inv [.ref q] st hm (Or.inr (Or.inl rfl)) rfl ⟨rfl, (kn_242).2.1.symm⟩ (by unfold am_may; rw [if_neg (by decide)]; show (if (62 : Nat) = 62 then (match h.2.2 q with | some (.inr (ci, _)) => ci == am_rc 242 | _ => false) else _) = true; rw [if_pos rfl, hr, (kn_242).2.2.1]; rfl) hc (by rw [(kn_242).1]; exact Nat.le_of_ble_eq_true rfl) (fun v h' hv => by
    obtain ⟨z, rfl, hp⟩ := hv
    exact ⟨by unfold am_rok; rw [(kn_242).2.2.2], k z h' hp⟩)
theorem kn_243 : am_ml 243 = 3 ∧ am_na 243 = 1 ∧ am_rc 243 = 8 ∧ am_rt 243 = some .int := by decide +kernel
theorem kv_243 {q : Nat} {fs : List Value} (hr : h.2.2 q = some (.inr (8, fs))) {P : Int32 → am_H → Prop} (hm : am_mi xs L d 243 [.ref q] h P) (hc : am_cats st ≤ 8) (k : ∀ z h', P z h' → am_w xs L (d + 1) y is l (.int z :: st) h' Q) : am_w xs L (d + 1) y ((62, 3, 243, 1, cc) :: is) l (.ref q :: st) h Q :=
  wp_inv [.ref q] st hm (Or.inr (Or.inl rfl)) rfl ⟨rfl, (kn_243).2.1.symm⟩ (by unfold am_may; rw [if_neg (by decide)]; show (if (62 : Nat) = 62 then (match h.2.2 q with | some (.inr (ci, _)) => ci == am_rc 243 | _ => false) else _) = true; rw [if_pos rfl, hr, (kn_243).2.2.1]; rfl) hc (by rw [(kn_243).1]; exact Nat.le_of_ble_eq_true rfl) (fun v h' hv => by
    obtain ⟨z, rfl, hp⟩ := hv
    exact ⟨by unfold am_rok; rw [(kn_243).2.2.2], k z h' hp⟩)
theorem kn_244 : am_ml 244 = 3 ∧ am_na 244 = 2 ∧ am_rc 244 = 8 ∧ am_rt 244 = some .int := by decide +kernel
theorem kv_244 {q : Nat} {x0 : Int32} {fs : List Value} (hr : h.2.2 q = some (.inr (8, fs))) {P : Int32 → am_H → Prop} (hm : am_mi xs L d 244 [.ref q, .int x0] h P) (hc : am_cats st ≤ 8) (k : ∀ z h', P z h' → am_w xs L (d + 1) y is l (.int z :: st) h' Q) : am_w xs L (d + 1) y ((62, 3, 244, 2, cc) :: is) l (.int x0 :: .ref q :: st) h Q :=
  wp_inv [.ref q, .int x0] st hm (Or.inr (Or.inl rfl)) rfl ⟨rfl, (kn_244).2.1.symm⟩ (by unfold am_may; rw [if_neg (by decide)]; show (if (62 : Nat) = 62 then (match h.2.2 q with | some (.inr (ci, _)) => ci == am_rc 244 | _ => false) else _) = true; rw [if_pos rfl, hr, (kn_244).2.2.1]; rfl) hc (by rw [(kn_244).1]; exact Nat.le_of_ble_eq_true rfl) (fun v h' hv => by
    obtain ⟨z, rfl, hp⟩ := hv
    exact ⟨by unfold am_rok; rw [(kn_244).2.2.2], k z h' hp⟩)
theorem kn_245 : am_ml 245 = 1 ∧ am_na 245 = 1 ∧ am_rc 245 = 8 ∧ am_rt 245 = some .int := by decide +kernel
theorem kv_245 {q : Nat} {fs : List Value} (hr : h.2.2 q = some (.inr (8, fs))) {P : Int32 → am_H → Prop} (hm : am_mi xs L d 245 [.ref q] h P) (hc : am_cats st ≤ 8) (k : ∀ z h', P z h' → am_w xs L (d + 1) y is l (.int z :: st) h' Q) : am_w xs L (d + 1) y ((62, 3, 245, 1, cc) :: is) l (.ref q :: st) h Q :=
  wp_inv [.ref q] st hm (Or.inr (Or.inl rfl)) rfl ⟨rfl, (kn_245).2.1.symm⟩ (by unfold am_may; rw [if_neg (by decide)]; show (if (62 : Nat) = 62 then (match h.2.2 q with | some (.inr (ci, _)) => ci == am_rc 245 | _ => false) else _) = true; rw [if_pos rfl, hr, (kn_245).2.2.1]; rfl) hc (by rw [(kn_245).1]; exact Nat.le_of_ble_eq_true rfl) (fun v h' hv => by
    obtain ⟨z, rfl, hp⟩ := hv
    exact ⟨by unfold am_rok; rw [(kn_245).2.2.2], k z h' hp⟩)
theorem kn_246 : am_ml 246 = 7 ∧ am_na 246 = 1 ∧ am_rc 246 = 8 ∧ am_rt 246 = some .int := by decide +kernel
theorem kv_246 {q : Nat} {fs : List Value} (hr : h.2.2 q = some (.inr (8, fs))) {P : Int32 → am_H → Prop} (hm : am_mi xs L d 246 [.ref q] h P) (hc : am_cats st ≤ 8) (k : ∀ z h', P z h' → am_w xs L (d + 1) y is l (.int z :: st) h' Q) : am_w xs L (d + 1) y ((62, 3, 246, 1, cc) :: is) l (.ref q :: st) h Q :=
  wp_inv [.ref q] st hm (Or.inr (Or.inl rfl)) rfl ⟨rfl, (kn_246).2.1.symm⟩ (by unfold am_may; rw [if_neg (by decide)]; show (if (62 : Nat) = 62 then (match h.2.2 q with | some (.inr (ci, _)) => ci == am_rc 246 | _ => false) else _) = true; rw [if_pos rfl, hr, (kn_246).2.2.1]; rfl) hc (by rw [(kn_246).1]; exact Nat.le_of_ble_eq_true rfl) (fun v h' hv => by
    obtain ⟨z, rfl, hp⟩ := hv
    exact ⟨by unfold am_rok; rw [(kn_246).2.2.2], k z h' hp⟩)
theorem kn_247 : am_ml 247 = 1 ∧ am_na 247 = 1 ∧ am_rc 247 = 8 ∧ am_rt 247 = some .int := by decide +kernel
theorem kv_247 {q : Nat} {fs : List Value} (hr : h.2.2 q = some (.inr (8, fs))) {P : Int32 → am_H → Prop} (hm : am_mi xs L d 247 [.ref q] h P) (hc : am_cats st ≤ 8) (k : ∀ z h', P z h' → am_w xs L (d + 1) y is l (.int z :: st) h' Q) : am_w xs L (d + 1) y ((62, 3, 247, 1, cc) :: is) l (.ref q :: st) h Q :=
  wp_inv [.ref q] st hm (Or.inr (Or.inl rfl)) rfl ⟨rfl, (kn_247).2.1.symm⟩ (by unfold am_may; rw [if_neg (by decide)]; show (if (62 : Nat) = 62 then (match h.2.2 q with | some (.inr (ci, _)) => ci == am_rc 247 | _ => false) else _) = true; rw [if_pos rfl, hr, (kn_247).2.2.1]; rfl) hc (by rw [(kn_247).1]; exact Nat.le_of_ble_eq_true rfl) (fun v h' hv => by
    obtain ⟨z, rfl, hp⟩ := hv
    exact ⟨by unfold am_rok; rw [(kn_247).2.2.2], k z h' hp⟩)
theorem kn_248 : am_ml 248 = 3 ∧ am_na 248 = 2 ∧ am_rc 248 = 8 ∧ am_rt 248 = some .int := by decide +kernel
theorem kv_248 {q : Nat} {x0 : Int32} {fs : List Value} (hr : h.2.2 q = some (.inr (8, fs))) {P : Int32 → am_H → Prop} (hm : am_mi xs L d 248 [.ref q, .int x0] h P) (hc : am_cats st ≤ 8) (k : ∀ z h', P z h' → am_w xs L (d + 1) y is l (.int z :: st) h' Q) : am_w xs L (d + 1) y ((62, 3, 248, 2, cc) :: is) l (.int x0 :: .ref q :: st) h Q :=
  wp_inv [.ref q, .int x0] st hm (Or.inr (Or.inl rfl)) rfl ⟨rfl, (kn_248).2.1.symm⟩ (by unfold am_may; rw [if_neg (by decide)]; show (if (62 : Nat) = 62 then (match h.2.2 q with | some (.inr (ci, _)) => ci == am_rc 248 | _ => false) else _) = true; rw [if_pos rfl, hr, (kn_248).2.2.1]; rfl) hc (by rw [(kn_248).1]; exact Nat.le_of_ble_eq_true rfl) (fun v h' hv => by
    obtain ⟨z, rfl, hp⟩ := hv
    exact ⟨by unfold am_rok; rw [(kn_248).2.2.2], k z h' hp⟩)
theorem kn_249 : am_ml 249 = 1 ∧ am_na 249 = 1 ∧ am_rc 249 = 8 ∧ am_rt 249 = some .int := by decide +kernel
theorem kv_249 {q : Nat} {fs : List Value} (hr : h.2.2 q = some (.inr (8, fs))) {P : Int32 → am_H → Prop} (hm : am_mi xs L d 249 [.ref q] h P) (hc : am_cats st ≤ 8) (k : ∀ z h', P z h' → am_w xs L (d + 1) y is l (.int z :: st) h' Q) : am_w xs L (d + 1) y ((62, 3, 249, 1, cc) :: is) l (.ref q :: st) h Q :=
  wp_inv [.ref q] st hm (Or.inr (Or.inl rfl)) rfl ⟨rfl, (kn_249).2.1.symm⟩ (by unfold am_may; rw [if_neg (by decide)]; show (if (62 : Nat) = 62 then (match h.2.2 q with | some (.inr (ci, _)) => ci == am_rc 249 | _ => false) else _) = true; rw [if_pos rfl, hr, (kn_249).2.2.1]; rfl) hc (by rw [(kn_249).1]; exact Nat.le_of_ble_eq_true rfl) (fun v h' hv => by
    obtain ⟨z, rfl, hp⟩ := hv
    exact ⟨by unfold am_rok; rw [(kn_249).2.2.2], k z h' hp⟩)
theorem kn_250 : am_ml 250 = 6 ∧ am_na 250 = 2 ∧ am_rc 250 = 8 ∧ am_rt 250 = some .int := by decide +kernel
theorem kv_250 {q : Nat} {x0 : Int32} {fs : List Value} (hr : h.2.2 q = some (.inr (8, fs))) {P : Int32 → am_H → Prop} (hm : am_mi xs L d 250 [.ref q, .int x0] h P) (hc : am_cats st ≤ 8) (k : ∀ z h', P z h' → am_w xs L (d + 1) y is l (.int z :: st) h' Q) : am_w xs L (d + 1) y ((62, 3, 250, 2, cc) :: is) l (.int x0 :: .ref q :: st) h Q :=
  wp_inv [.ref q, .int x0] st hm (Or.inr (Or.inl rfl)) rfl ⟨rfl, (kn_250).2.1.symm⟩ (by unfold am_may; rw [if_neg (by decide)]; show (if (62 : Nat) = 62 then (match h.2.2 q with | some (.inr (ci, _)) => ci == am_rc 250 | _ => false) else _) = true; rw [if_pos rfl, hr, (kn_250).2.2.1]; rfl) hc (by rw [(kn_250).1]; exact Nat.le_of_ble_eq_true rfl) (fun v h' hv => by
    obtain ⟨z, rfl, hp⟩ := hv
    exact ⟨by unfold am_rok; rw [(kn_250).2.2.2], k z h' hp⟩)
theorem kn_251 : am_ml 251 = 1 ∧ am_na 251 = 1 ∧ am_rc 251 = 8 ∧ am_rt 251 = some .int := by decide +kernel
theorem kv_251 {q : Nat} {fs : List Value} (hr : h.2.2 q = some (.inr (8, fs))) {P : Int32 → am_H → Prop} (hm : am_mi xs L d 251 [.ref q] h P) (hc : am_cats st ≤ 8) (k : ∀ z h', P z h' → am_w xs L (d + 1) y is l (.int z :: st) h' Q) : am_w xs L (d + 1) y ((62, 3, 251, 1, cc) :: is) l (.ref q :: st) h Q :=
  wp_inv [.ref q] st hm (Or.inr (Or.inl rfl)) rfl ⟨rfl, (kn_251).2.1.symm⟩ (by unfold am_may; rw [if_neg (by decide)]; show (if (62 : Nat) = 62 then (match h.2.2 q with | some (.inr (ci, _)) => ci == am_rc 251 | _ => false) else _) = true; rw [if_pos rfl, hr, (kn_251).2.2.1]; rfl) hc (by rw [(kn_251).1]; exact Nat.le_of_ble_eq_true rfl) (fun v h' hv => by
    obtain ⟨z, rfl, hp⟩ := hv
    exact ⟨by unfold am_rok; rw [(kn_251).2.2.2], k z h' hp⟩)
theorem kn_252 : am_ml 252 = 4 ∧ am_na 252 = 1 ∧ am_rc 252 = 8 ∧ am_rt 252 = some .int := by decide +kernel
theorem kv_252 {q : Nat} {fs : List Value} (hr : h.2.2 q = some (.inr (8, fs))) {P : Int32 → am_H → Prop} (hm : am_mi xs L d 252 [.ref q] h P) (hc : am_cats st ≤ 8) (k : ∀ z h', P z h' → am_w xs L (d + 1) y is l (.int z :: st) h' Q) : am_w xs L (d + 1) y ((62, 3, 252, 1, cc) :: is) l (.ref q :: st) h Q :=
  wp_inv [.ref q] st hm (Or.inr (Or.inl rfl)) rfl ⟨rfl, (kn_252).2.1.symm⟩ (by unfold am_may; rw [if_neg (by decide)]; show (if (62 : Nat) = 62 then (match h.2.2 q with | some (.inr (ci, _)) => ci == am_rc 252 | _ => false) else _) = true; rw [if_pos rfl, hr, (kn_252).2.2.1]; rfl) hc (by rw [(kn_252).1]; exact Nat.le_of_ble_eq_true rfl) (fun v h' hv => by
    obtain ⟨z, rfl, hp⟩ := hv
    exact ⟨by unfold am_rok; rw [(kn_252).2.2.2], k z h' hp⟩)
theorem kn_253 : am_ml 253 = 3 ∧ am_na 253 = 2 ∧ am_rc 253 = 8 ∧ am_rt 253 = none := by decide +kernel
theorem kv_253 {q : Nat} {x0 : Int32} {fs : List Value} (hr : h.2.2 q = some (.inr (8, fs))) {P : am_H → Prop} (hm : am_mv xs L d 253 [.ref q, .int x0] h P) (hc : am_cats st ≤ 8) (k : ∀ h', P h' → am_w xs L (d + 1) y is l st h' Q) : am_w xs L (d + 1) y ((62, 3, 253, 2, cc) :: is) l (.int x0 :: .ref q :: st) h Q :=
  wp_inv [.ref q, .int x0] st hm (Or.inr (Or.inl rfl)) rfl ⟨rfl, (kn_253).2.1.symm⟩ (by unfold am_may; rw [if_neg (by decide)]; show (if (62 : Nat) = 62 then (match h.2.2 q with | some (.inr (ci, _)) => ci == am_rc 253 | _ => false) else _) = true; rw [if_pos rfl, hr, (kn_253).2.2.1]; rfl) hc (by rw [(kn_253).1]; exact Nat.le_of_ble_eq_true rfl) (fun v h' hv => by
    obtain ⟨rfl, hp⟩ := hv
    exact ⟨by unfold am_rok; rw [(kn_253).2.2.2], k h' hp⟩)
theorem kn_254 : am_ml 254 = 4 ∧ am_na 254 = 2 ∧ am_rc 254 = 8 ∧ am_rt 254 = some .int := by decide +kernel
theorem kv_254 {q : Nat} {x0 : Int32} {fs : List Value} (hr : h.2.2 q = some (.inr (8, fs))) {P : Int32 → am_H → Prop} (hm : am_mi xs L d 254 [.ref q, .int x0] h P) (hc : am_cats st ≤ 8) (k : ∀ z h', P z h' → am_w xs L (d + 1) y is l (.int z :: st) h' Q) : am_w xs L (d + 1) y ((62, 3, 254, 2, cc) :: is) l (.int x0 :: .ref q :: st) h Q :=
  wp_inv [.ref q, .int x0] st hm (Or.inr (Or.inl rfl)) rfl ⟨rfl, (kn_254).2.1.symm⟩ (by unfold am_may; rw [if_neg (by decide)]; show (if (62 : Nat) = 62 then (match h.2.2 q with | some (.inr (ci, _)) => ci == am_rc 254 | _ => false) else _) = true; rw [if_pos rfl, hr, (kn_254).2.2.1]; rfl) hc (by rw [(kn_254).1]; exact Nat.le_of_ble_eq_true rfl) (fun v h' hv => by
    obtain ⟨z, rfl, hp⟩ := hv
    exact ⟨by unfold am_rok; rw [(kn_254).2.2.2], k z h' hp⟩)
theorem kn_255 : am_ml 255 = 4 ∧ am_na 255 = 2 ∧ am_rc 255 = 8 ∧ am_rt 255 = some .boolean := by decide +kernel
theorem kv_255 {q : Nat} {x0 : Int32} {fs : List Value} (hr : h.2.2 q = some (.inr (8, fs))) {P : Bool → am_H → Prop} (hm : am_mb xs L d 255 [.ref q, .int x0] h P) (hc : am_cats st ≤ 8) (k : ∀ (z : Bool) h', P z h' → am_w xs L (d + 1) y is l (.int (if z = true then 1 else 0) :: st) h' Q) : am_w xs L (d + 1) y ((62, 3, 255, 2, cc) :: is) l (.int x0 :: .ref q :: st) h Q :=
  wp_inv [.ref q, .int x0] st hm (Or.inr (Or.inl rfl)) rfl ⟨rfl, (kn_255).2.1.symm⟩ (by unfold am_may; rw [if_neg (by decide)]; show (if (62 : Nat) = 62 then (match h.2.2 q with | some (.inr (ci, _)) => ci == am_rc 255 | _ => false) else _) = true; rw [if_pos rfl, hr, (kn_255).2.2.1]; rfl) hc (by rw [(kn_255).1]; exact Nat.le_of_ble_eq_true rfl) (fun v h' hv => by
    obtain ⟨z, rfl, hp⟩ := hv
    exact ⟨by unfold am_rok; rw [(kn_255).2.2.2]; cases z <;> rfl, k z h' hp⟩)
theorem kn_256 : am_ml 256 = 4 ∧ am_na 256 = 2 ∧ am_rc 256 = 8 ∧ am_rt 256 = some .int := by decide +kernel
theorem kv_256 {q : Nat} {x0 : Int32} {fs : List Value} (hr : h.2.2 q = some (.inr (8, fs))) {P : Int32 → am_H → Prop} (hm : am_mi xs L d 256 [.ref q, .int x0] h P) (hc : am_cats st ≤ 8) (k : ∀ z h', P z h' → am_w xs L (d + 1) y is l (.int z :: st) h' Q) : am_w xs L (d + 1) y ((62, 3, 256, 2, cc) :: is) l (.int x0 :: .ref q :: st) h Q :=
  wp_inv [.ref q, .int x0] st hm (Or.inr (Or.inl rfl)) rfl ⟨rfl, (kn_256).2.1.symm⟩ (by unfold am_may; rw [if_neg (by decide)]; show (if (62 : Nat) = 62 then (match h.2.2 q with | some (.inr (ci, _)) => ci == am_rc 256 | _ => false) else _) = true; rw [if_pos rfl, hr, (kn_256).2.2.1]; rfl) hc (by rw [(kn_256).1]; exact Nat.le_of_ble_eq_true rfl) (fun v h' hv => by
    obtain ⟨z, rfl, hp⟩ := hv
    exact ⟨by unfold am_rok; rw [(kn_256).2.2.2], k z h' hp⟩)
theorem kn_257 : am_ml 257 = 3 ∧ am_na 257 = 1 ∧ am_rc 257 = 8 ∧ am_rt 257 = some .int := by decide +kernel
theorem kv_257 {q : Nat} {fs : List Value} (hr : h.2.2 q = some (.inr (8, fs))) {P : Int32 → am_H → Prop} (hm : am_mi xs L d 257 [.ref q] h P) (hc : am_cats st ≤ 8) (k : ∀ z h', P z h' → am_w xs L (d + 1) y is l (.int z :: st) h' Q) : am_w xs L (d + 1) y ((62, 3, 257, 1, cc) :: is) l (.ref q :: st) h Q :=
  wp_inv [.ref q] st hm (Or.inr (Or.inl rfl)) rfl ⟨rfl, (kn_257).2.1.symm⟩ (by unfold am_may; rw [if_neg (by decide)]; show (if (62 : Nat) = 62 then (match h.2.2 q with | some (.inr (ci, _)) => ci == am_rc 257 | _ => false) else _) = true; rw [if_pos rfl, hr, (kn_257).2.2.1]; rfl) hc (by rw [(kn_257).1]; exact Nat.le_of_ble_eq_true rfl) (fun v h' hv => by
    obtain ⟨z, rfl, hp⟩ := hv
    exact ⟨by unfold am_rok; rw [(kn_257).2.2.2], k z h' hp⟩)
theorem kn_258 : am_ml 258 = 4 ∧ am_na 258 = 1 ∧ am_rc 258 = 8 ∧ am_rt 258 = some .int := by decide +kernel
theorem kv_258 {q : Nat} {fs : List Value} (hr : h.2.2 q = some (.inr (8, fs))) {P : Int32 → am_H → Prop} (hm : am_mi xs L d 258 [.ref q] h P) (hc : am_cats st ≤ 8) (k : ∀ z h', P z h' → am_w xs L (d + 1) y is l (.int z :: st) h' Q) : am_w xs L (d + 1) y ((62, 3, 258, 1, cc) :: is) l (.ref q :: st) h Q :=
  wp_inv [.ref q] st hm (Or.inr (Or.inl rfl)) rfl ⟨rfl, (kn_258).2.1.symm⟩ (by unfold am_may; rw [if_neg (by decide)]; show (if (62 : Nat) = 62 then (match h.2.2 q with | some (.inr (ci, _)) => ci == am_rc 258 | _ => false) else _) = true; rw [if_pos rfl, hr, (kn_258).2.2.1]; rfl) hc (by rw [(kn_258).1]; exact Nat.le_of_ble_eq_true rfl) (fun v h' hv => by
    obtain ⟨z, rfl, hp⟩ := hv
    exact ⟨by unfold am_rok; rw [(kn_258).2.2.2], k z h' hp⟩)
theorem kn_259 : am_ml 259 = 4 ∧ am_na 259 = 3 ∧ am_rc 259 = 8 ∧ am_rt 259 = some .int := by decide +kernel
theorem kv_259 {q : Nat} {x0 : Int32} {x1 : Int32} {fs : List Value} (hr : h.2.2 q = some (.inr (8, fs))) {P : Int32 → am_H → Prop} (hm : am_mi xs L d 259 [.ref q, .int x0, .int x1] h P) (hc : am_cats st ≤ 8) (k : ∀ z h', P z h' → am_w xs L (d + 1) y is l (.int z :: st) h' Q) : am_w xs L (d + 1) y ((62, 3, 259, 3, cc) :: is) l (.int x1 :: .int x0 :: .ref q :: st) h Q :=
  wp_inv [.ref q, .int x0, .int x1] st hm (Or.inr (Or.inl rfl)) rfl ⟨rfl, (kn_259).2.1.symm⟩ (by unfold am_may; rw [if_neg (by decide)]; show (if (62 : Nat) = 62 then (match h.2.2 q with | some (.inr (ci, _)) => ci == am_rc 259 | _ => false) else _) = true; rw [if_pos rfl, hr, (kn_259).2.2.1]; rfl) hc (by rw [(kn_259).1]; exact Nat.le_of_ble_eq_true rfl) (fun v h' hv => by
    obtain ⟨z, rfl, hp⟩ := hv
    exact ⟨by unfold am_rok; rw [(kn_259).2.2.2], k z h' hp⟩)
theorem kn_260 : am_ml 260 = 5 ∧ am_na 260 = 3 ∧ am_rc 260 = 8 ∧ am_rt 260 = some .int := by decide +kernel
theorem kv_260 {q : Nat} {x0 : Int32} {x1 : Int32} {fs : List Value} (hr : h.2.2 q = some (.inr (8, fs))) {P : Int32 → am_H → Prop} (hm : am_mi xs L d 260 [.ref q, .int x0, .int x1] h P) (hc : am_cats st ≤ 8) (k : ∀ z h', P z h' → am_w xs L (d + 1) y is l (.int z :: st) h' Q) : am_w xs L (d + 1) y ((62, 3, 260, 3, cc) :: is) l (.int x1 :: .int x0 :: .ref q :: st) h Q :=
  wp_inv [.ref q, .int x0, .int x1] st hm (Or.inr (Or.inl rfl)) rfl ⟨rfl, (kn_260).2.1.symm⟩ (by unfold am_may; rw [if_neg (by decide)]; show (if (62 : Nat) = 62 then (match h.2.2 q with | some (.inr (ci, _)) => ci == am_rc 260 | _ => false) else _) = true; rw [if_pos rfl, hr, (kn_260).2.2.1]; rfl) hc (by rw [(kn_260).1]; exact Nat.le_of_ble_eq_true rfl) (fun v h' hv => by
    obtain ⟨z, rfl, hp⟩ := hv
    exact ⟨by unfold am_rok; rw [(kn_260).2.2.2], k z h' hp⟩)
theorem kn_261 : am_ml 261 = 8 ∧ am_na 261 = 2 ∧ am_rc 261 = 99 ∧ am_rt 261 = some .long := by decide +kernel
theorem kv_261 {x0 : Int64} {x1 : Int32} {P : Int64 → am_H → Prop} (hm : am_mj xs L d 261 [.long x0, .int x1] h P) (hc : am_cats st ≤ 8) (k : ∀ z h', P z h' → am_w xs L (d + 1) y is l (.long z :: st) h' Q) : am_w xs L (d + 1) y ((60, 3, 261, 2, cc) :: is) l (.int x1 :: .long x0 :: st) h Q :=
  wp_inv [.long x0, .int x1] st hm (Or.inl rfl) rfl ⟨rfl, (kn_261).2.1.symm⟩ (by unfold am_may; rw [if_pos rfl, (kn_261).2.2.1]; rfl) hc (by rw [(kn_261).1]; exact Nat.le_of_ble_eq_true rfl) (fun v h' hv => by
    obtain ⟨z, rfl, hp⟩ := hv
    exact ⟨by unfold am_rok; rw [(kn_261).2.2.2], k z h' hp⟩)
theorem kn_262 : am_ml 262 = 3 ∧ am_na 262 = 2 ∧ am_rc 262 = 8 ∧ am_rt 262 = some .int := by decide +kernel
theorem kv_262 {q : Nat} {x0 : Int32} {fs : List Value} (hr : h.2.2 q = some (.inr (8, fs))) {P : Int32 → am_H → Prop} (hm : am_mi xs L d 262 [.ref q, .int x0] h P) (hc : am_cats st ≤ 8) (k : ∀ z h', P z h' → am_w xs L (d + 1) y is l (.int z :: st) h' Q) : am_w xs L (d + 1) y ((62, 3, 262, 2, cc) :: is) l (.int x0 :: .ref q :: st) h Q :=
  wp_inv [.ref q, .int x0] st hm (Or.inr (Or.inl rfl)) rfl ⟨rfl, (kn_262).2.1.symm⟩ (by unfold am_may; rw [if_neg (by decide)]; show (if (62 : Nat) = 62 then (match h.2.2 q with | some (.inr (ci, _)) => ci == am_rc 262 | _ => false) else _) = true; rw [if_pos rfl, hr, (kn_262).2.2.1]; rfl) hc (by rw [(kn_262).1]; exact Nat.le_of_ble_eq_true rfl) (fun v h' hv => by
    obtain ⟨z, rfl, hp⟩ := hv
    exact ⟨by unfold am_rok; rw [(kn_262).2.2.2], k z h' hp⟩)
theorem kn_263 : am_ml 263 = 4 ∧ am_na 263 = 2 ∧ am_rc 263 = 8 ∧ am_rt 263 = some .int := by decide +kernel
theorem kv_263 {q : Nat} {x0 : Int32} {fs : List Value} (hr : h.2.2 q = some (.inr (8, fs))) {P : Int32 → am_H → Prop} (hm : am_mi xs L d 263 [.ref q, .int x0] h P) (hc : am_cats st ≤ 8) (k : ∀ z h', P z h' → am_w xs L (d + 1) y is l (.int z :: st) h' Q) : am_w xs L (d + 1) y ((62, 3, 263, 2, cc) :: is) l (.int x0 :: .ref q :: st) h Q :=
  wp_inv [.ref q, .int x0] st hm (Or.inr (Or.inl rfl)) rfl ⟨rfl, (kn_263).2.1.symm⟩ (by unfold am_may; rw [if_neg (by decide)]; show (if (62 : Nat) = 62 then (match h.2.2 q with | some (.inr (ci, _)) => ci == am_rc 263 | _ => false) else _) = true; rw [if_pos rfl, hr, (kn_263).2.2.1]; rfl) hc (by rw [(kn_263).1]; exact Nat.le_of_ble_eq_true rfl) (fun v h' hv => by
    obtain ⟨z, rfl, hp⟩ := hv
    exact ⟨by unfold am_rok; rw [(kn_263).2.2.2], k z h' hp⟩)
theorem kn_264 : am_ml 264 = 3 ∧ am_na 264 = 1 ∧ am_rc 264 = 8 ∧ am_rt 264 = some .int := by decide +kernel
theorem kv_264 {q : Nat} {fs : List Value} (hr : h.2.2 q = some (.inr (8, fs))) {P : Int32 → am_H → Prop} (hm : am_mi xs L d 264 [.ref q] h P) (hc : am_cats st ≤ 8) (k : ∀ z h', P z h' → am_w xs L (d + 1) y is l (.int z :: st) h' Q) : am_w xs L (d + 1) y ((62, 3, 264, 1, cc) :: is) l (.ref q :: st) h Q :=
  wp_inv [.ref q] st hm (Or.inr (Or.inl rfl)) rfl ⟨rfl, (kn_264).2.1.symm⟩ (by unfold am_may; rw [if_neg (by decide)]; show (if (62 : Nat) = 62 then (match h.2.2 q with | some (.inr (ci, _)) => ci == am_rc 264 | _ => false) else _) = true; rw [if_pos rfl, hr, (kn_264).2.2.1]; rfl) hc (by rw [(kn_264).1]; exact Nat.le_of_ble_eq_true rfl) (fun v h' hv => by
    obtain ⟨z, rfl, hp⟩ := hv
    exact ⟨by unfold am_rok; rw [(kn_264).2.2.2], k z h' hp⟩)
theorem kn_265 : am_ml 265 = 5 ∧ am_na 265 = 2 ∧ am_rc 265 = 8 ∧ am_rt 265 = some .int := by decide +kernel
theorem kv_265 {q : Nat} {x0 : Int32} {fs : List Value} (hr : h.2.2 q = some (.inr (8, fs))) {P : Int32 → am_H → Prop} (hm : am_mi xs L d 265 [.ref q, .int x0] h P) (hc : am_cats st ≤ 8) (k : ∀ z h', P z h' → am_w xs L (d + 1) y is l (.int z :: st) h' Q) : am_w xs L (d + 1) y ((62, 3, 265, 2, cc) :: is) l (.int x0 :: .ref q :: st) h Q :=
  wp_inv [.ref q, .int x0] st hm (Or.inr (Or.inl rfl)) rfl ⟨rfl, (kn_265).2.1.symm⟩ (by unfold am_may; rw [if_neg (by decide)]; show (if (62 : Nat) = 62 then (match h.2.2 q with | some (.inr (ci, _)) => ci == am_rc 265 | _ => false) else _) = true; rw [if_pos rfl, hr, (kn_265).2.2.1]; rfl) hc (by rw [(kn_265).1]; exact Nat.le_of_ble_eq_true rfl) (fun v h' hv => by
    obtain ⟨z, rfl, hp⟩ := hv
    exact ⟨by unfold am_rok; rw [(kn_265).2.2.2], k z h' hp⟩)
theorem kn_266 : am_ml 266 = 2 ∧ am_na 266 = 2 ∧ am_rc 266 = 8 ∧ am_rt 266 = some .int := by decide +kernel
theorem kv_266 {q : Nat} {x0 : Int32} {fs : List Value} (hr : h.2.2 q = some (.inr (8, fs))) {P : Int32 → am_H → Prop} (hm : am_mi xs L d 266 [.ref q, .int x0] h P) (hc : am_cats st ≤ 8) (k : ∀ z h', P z h' → am_w xs L (d + 1) y is l (.int z :: st) h' Q) : am_w xs L (d + 1) y ((62, 3, 266, 2, cc) :: is) l (.int x0 :: .ref q :: st) h Q :=
  wp_inv [.ref q, .int x0] st hm (Or.inr (Or.inl rfl)) rfl ⟨rfl, (kn_266).2.1.symm⟩ (by unfold am_may; rw [if_neg (by decide)]; show (if (62 : Nat) = 62 then (match h.2.2 q with | some (.inr (ci, _)) => ci == am_rc 266 | _ => false) else _) = true; rw [if_pos rfl, hr, (kn_266).2.2.1]; rfl) hc (by rw [(kn_266).1]; exact Nat.le_of_ble_eq_true rfl) (fun v h' hv => by
    obtain ⟨z, rfl, hp⟩ := hv
    exact ⟨by unfold am_rok; rw [(kn_266).2.2.2], k z h' hp⟩)
theorem kn_267 : am_ml 267 = 2 ∧ am_na 267 = 2 ∧ am_rc 267 = 8 ∧ am_rt 267 = some .boolean := by decide +kernel
theorem kv_267 {q : Nat} {x0 : Int32} {fs : List Value} (hr : h.2.2 q = some (.inr (8, fs))) {P : Bool → am_H → Prop} (hm : am_mb xs L d 267 [.ref q, .int x0] h P) (hc : am_cats st ≤ 8) (k : ∀ (z : Bool) h', P z h' → am_w xs L (d + 1) y is l (.int (if z = true then 1 else 0) :: st) h' Q) : am_w xs L (d + 1) y ((62, 3, 267, 2, cc) :: is) l (.int x0 :: .ref q :: st) h Q :=
  wp_inv [.ref q, .int x0] st hm (Or.inr (Or.inl rfl)) rfl ⟨rfl, (kn_267).2.1.symm⟩ (by unfold am_may; rw [if_neg (by decide)]; show (if (62 : Nat) = 62 then (match h.2.2 q with | some (.inr (ci, _)) => ci == am_rc 267 | _ => false) else _) = true; rw [if_pos rfl, hr, (kn_267).2.2.1]; rfl) hc (by rw [(kn_267).1]; exact Nat.le_of_ble_eq_true rfl) (fun v h' hv => by
    obtain ⟨z, rfl, hp⟩ := hv
    exact ⟨by unfold am_rok; rw [(kn_267).2.2.2]; cases z <;> rfl, k z h' hp⟩)
theorem kn_268 : am_ml 268 = 5 ∧ am_na 268 = 1 ∧ am_rc 268 = 8 ∧ am_rt 268 = none := by decide +kernel
theorem kv_268 {q : Nat} {fs : List Value} (hr : h.2.2 q = some (.inr (8, fs))) {P : am_H → Prop} (hm : am_mv xs L d 268 [.ref q] h P) (hc : am_cats st ≤ 8) (k : ∀ h', P h' → am_w xs L (d + 1) y is l st h' Q) : am_w xs L (d + 1) y ((62, 3, 268, 1, cc) :: is) l (.ref q :: st) h Q :=
  wp_inv [.ref q] st hm (Or.inr (Or.inl rfl)) rfl ⟨rfl, (kn_268).2.1.symm⟩ (by unfold am_may; rw [if_neg (by decide)]; show (if (62 : Nat) = 62 then (match h.2.2 q with | some (.inr (ci, _)) => ci == am_rc 268 | _ => false) else _) = true; rw [if_pos rfl, hr, (kn_268).2.2.1]; rfl) hc (by rw [(kn_268).1]; exact Nat.le_of_ble_eq_true rfl) (fun v h' hv => by
    obtain ⟨rfl, hp⟩ := hv
    exact ⟨by unfold am_rok; rw [(kn_268).2.2.2], k h' hp⟩)
theorem kn_269 : am_ml 269 = 3 ∧ am_na 269 = 1 ∧ am_rc 269 = 8 ∧ am_rt 269 = some .int := by decide +kernel
theorem kv_269 {q : Nat} {fs : List Value} (hr : h.2.2 q = some (.inr (8, fs))) {P : Int32 → am_H → Prop} (hm : am_mi xs L d 269 [.ref q] h P) (hc : am_cats st ≤ 8) (k : ∀ z h', P z h' → am_w xs L (d + 1) y is l (.int z :: st) h' Q) : am_w xs L (d + 1) y ((62, 3, 269, 1, cc) :: is) l (.ref q :: st) h Q :=
  wp_inv [.ref q] st hm (Or.inr (Or.inl rfl)) rfl ⟨rfl, (kn_269).2.1.symm⟩ (by unfold am_may; rw [if_neg (by decide)]; show (if (62 : Nat) = 62 then (match h.2.2 q with | some (.inr (ci, _)) => ci == am_rc 269 | _ => false) else _) = true; rw [if_pos rfl, hr, (kn_269).2.2.1]; rfl) hc (by rw [(kn_269).1]; exact Nat.le_of_ble_eq_true rfl) (fun v h' hv => by
    obtain ⟨z, rfl, hp⟩ := hv
    exact ⟨by unfold am_rok; rw [(kn_269).2.2.2], k z h' hp⟩)
theorem kn_270 : am_ml 270 = 5 ∧ am_na 270 = 4 ∧ am_rc 270 = 8 ∧ am_rt 270 = some .boolean := by decide +kernel
theorem kv_270 {q : Nat} {x0 : Int32} {x1 : Int32} {x2 : Int32} {fs : List Value} (hr : h.2.2 q = some (.inr (8, fs))) {P : Bool → am_H → Prop} (hm : am_mb xs L d 270 [.ref q, .int x0, .int x1, .int x2] h P) (hc : am_cats st ≤ 8) (k : ∀ (z : Bool) h', P z h' → am_w xs L (d + 1) y is l (.int (if z = true then 1 else 0) :: st) h' Q) : am_w xs L (d + 1) y ((62, 3, 270, 4, cc) :: is) l (.int x2 :: .int x1 :: .int x0 :: .ref q :: st) h Q :=
  wp_inv [.ref q, .int x0, .int x1, .int x2] st hm (Or.inr (Or.inl rfl)) rfl ⟨rfl, (kn_270).2.1.symm⟩ (by unfold am_may; rw [if_neg (by decide)]; show (if (62 : Nat) = 62 then (match h.2.2 q with | some (.inr (ci, _)) => ci == am_rc 270 | _ => false) else _) = true; rw [if_pos rfl, hr, (kn_270).2.2.1]; rfl) hc (by rw [(kn_270).1]; exact Nat.le_of_ble_eq_true rfl) (fun v h' hv => by
    obtain ⟨z, rfl, hp⟩ := hv
    exact ⟨by unfold am_rok; rw [(kn_270).2.2.2]; cases z <;> rfl, k z h' hp⟩)
theorem kn_271 : am_ml 271 = 3 ∧ am_na 271 = 3 ∧ am_rc 271 = 8 ∧ am_rt 271 = some .boolean := by decide +kernel
theorem kv_271 {q : Nat} {x0 : Int32} {x1 : Int32} {fs : List Value} (hr : h.2.2 q = some (.inr (8, fs))) {P : Bool → am_H → Prop} (hm : am_mb xs L d 271 [.ref q, .int x0, .int x1] h P) (hc : am_cats st ≤ 8) (k : ∀ (z : Bool) h', P z h' → am_w xs L (d + 1) y is l (.int (if z = true then 1 else 0) :: st) h' Q) : am_w xs L (d + 1) y ((62, 3, 271, 3, cc) :: is) l (.int x1 :: .int x0 :: .ref q :: st) h Q :=
  wp_inv [.ref q, .int x0, .int x1] st hm (Or.inr (Or.inl rfl)) rfl ⟨rfl, (kn_271).2.1.symm⟩ (by unfold am_may; rw [if_neg (by decide)]; show (if (62 : Nat) = 62 then (match h.2.2 q with | some (.inr (ci, _)) => ci == am_rc 271 | _ => false) else _) = true; rw [if_pos rfl, hr, (kn_271).2.2.1]; rfl) hc (by rw [(kn_271).1]; exact Nat.le_of_ble_eq_true rfl) (fun v h' hv => by
    obtain ⟨z, rfl, hp⟩ := hv
    exact ⟨by unfold am_rok; rw [(kn_271).2.2.2]; cases z <;> rfl, k z h' hp⟩)
theorem kn_272 : am_ml 272 = 2 ∧ am_na 272 = 1 ∧ am_rc 272 = 99 ∧ am_rt 272 = some .int := by decide +kernel
theorem kv_272 {x0 : Int64} {P : Int32 → am_H → Prop} (hm : am_mi xs L d 272 [.long x0] h P) (hc : am_cats st ≤ 8) (k : ∀ z h', P z h' → am_w xs L (d + 1) y is l (.int z :: st) h' Q) : am_w xs L (d + 1) y ((60, 3, 272, 1, cc) :: is) l (.long x0 :: st) h Q :=
  wp_inv [.long x0] st hm (Or.inl rfl) rfl ⟨rfl, (kn_272).2.1.symm⟩ (by unfold am_may; rw [if_pos rfl, (kn_272).2.2.1]; rfl) hc (by rw [(kn_272).1]; exact Nat.le_of_ble_eq_true rfl) (fun v h' hv => by
    obtain ⟨z, rfl, hp⟩ := hv
    exact ⟨by unfold am_rok; rw [(kn_272).2.2.2], k z h' hp⟩)
theorem kn_273 : am_ml 273 = 2 ∧ am_na 273 = 1 ∧ am_rc 273 = 99 ∧ am_rt 273 = some .int := by decide +kernel
theorem kv_273 {x0 : Int64} {P : Int32 → am_H → Prop} (hm : am_mi xs L d 273 [.long x0] h P) (hc : am_cats st ≤ 8) (k : ∀ z h', P z h' → am_w xs L (d + 1) y is l (.int z :: st) h' Q) : am_w xs L (d + 1) y ((60, 3, 273, 1, cc) :: is) l (.long x0 :: st) h Q :=
  wp_inv [.long x0] st hm (Or.inl rfl) rfl ⟨rfl, (kn_273).2.1.symm⟩ (by unfold am_may; rw [if_pos rfl, (kn_273).2.2.1]; rfl) hc (by rw [(kn_273).1]; exact Nat.le_of_ble_eq_true rfl) (fun v h' hv => by
    obtain ⟨z, rfl, hp⟩ := hv
    exact ⟨by unfold am_rok; rw [(kn_273).2.2.2], k z h' hp⟩)
theorem kn_274 : am_ml 274 = 2 ∧ am_na 274 = 1 ∧ am_rc 274 = 8 ∧ am_rt 274 = some .int := by decide +kernel
theorem kv_274 {q : Nat} {fs : List Value} (hr : h.2.2 q = some (.inr (8, fs))) {P : Int32 → am_H → Prop} (hm : am_mi xs L d 274 [.ref q] h P) (hc : am_cats st ≤ 8) (k : ∀ z h', P z h' → am_w xs L (d + 1) y is l (.int z :: st) h' Q) : am_w xs L (d + 1) y ((62, 3, 274, 1, cc) :: is) l (.ref q :: st) h Q :=
  wp_inv [.ref q] st hm (Or.inr (Or.inl rfl)) rfl ⟨rfl, (kn_274).2.1.symm⟩ (by unfold am_may; rw [if_neg (by decide)]; show (if (62 : Nat) = 62 then (match h.2.2 q with | some (.inr (ci, _)) => ci == am_rc 274 | _ => false) else _) = true; rw [if_pos rfl, hr, (kn_274).2.2.1]; rfl) hc (by rw [(kn_274).1]; exact Nat.le_of_ble_eq_true rfl) (fun v h' hv => by
    obtain ⟨z, rfl, hp⟩ := hv
    exact ⟨by unfold am_rok; rw [(kn_274).2.2.2], k z h' hp⟩)
theorem kn_275 : am_ml 275 = 3 ∧ am_na 275 = 2 ∧ am_rc 275 = 8 ∧ am_rt 275 = some .int := by decide +kernel
theorem kv_275 {q : Nat} {x0 : Int32} {fs : List Value} (hr : h.2.2 q = some (.inr (8, fs))) {P : Int32 → am_H → Prop} (hm : am_mi xs L d 275 [.ref q, .int x0] h P) (hc : am_cats st ≤ 8) (k : ∀ z h', P z h' → am_w xs L (d + 1) y is l (.int z :: st) h' Q) : am_w xs L (d + 1) y ((62, 3, 275, 2, cc) :: is) l (.int x0 :: .ref q :: st) h Q :=
  wp_inv [.ref q, .int x0] st hm (Or.inr (Or.inl rfl)) rfl ⟨rfl, (kn_275).2.1.symm⟩ (by unfold am_may; rw [if_neg (by decide)]; show (if (62 : Nat) = 62 then (match h.2.2 q with | some (.inr (ci, _)) => ci == am_rc 275 | _ => false) else _) = true; rw [if_pos rfl, hr, (kn_275).2.2.1]; rfl) hc (by rw [(kn_275).1]; exact Nat.le_of_ble_eq_true rfl) (fun v h' hv => by
    obtain ⟨z, rfl, hp⟩ := hv
    exact ⟨by unfold am_rok; rw [(kn_275).2.2.2], k z h' hp⟩)
theorem kn_276 : am_ml 276 = 4 ∧ am_na 276 = 2 ∧ am_rc 276 = 8 ∧ am_rt 276 = some .int := by decide +kernel
theorem kv_276 {q : Nat} {x0 : Int32} {fs : List Value} (hr : h.2.2 q = some (.inr (8, fs))) {P : Int32 → am_H → Prop} (hm : am_mi xs L d 276 [.ref q, .int x0] h P) (hc : am_cats st ≤ 8) (k : ∀ z h', P z h' → am_w xs L (d + 1) y is l (.int z :: st) h' Q) : am_w xs L (d + 1) y ((62, 3, 276, 2, cc) :: is) l (.int x0 :: .ref q :: st) h Q :=
  wp_inv [.ref q, .int x0] st hm (Or.inr (Or.inl rfl)) rfl ⟨rfl, (kn_276).2.1.symm⟩ (by unfold am_may; rw [if_neg (by decide)]; show (if (62 : Nat) = 62 then (match h.2.2 q with | some (.inr (ci, _)) => ci == am_rc 276 | _ => false) else _) = true; rw [if_pos rfl, hr, (kn_276).2.2.1]; rfl) hc (by rw [(kn_276).1]; exact Nat.le_of_ble_eq_true rfl) (fun v h' hv => by
    obtain ⟨z, rfl, hp⟩ := hv
    exact ⟨by unfold am_rok; rw [(kn_276).2.2.2], k z h' hp⟩)
theorem kn_277 : am_ml 277 = 8 ∧ am_na 277 = 1 ∧ am_rc 277 = 8 ∧ am_rt 277 = some .int := by decide +kernel
theorem kv_277 {q : Nat} {fs : List Value} (hr : h.2.2 q = some (.inr (8, fs))) {P : Int32 → am_H → Prop} (hm : am_mi xs L d 277 [.ref q] h P) (hc : am_cats st ≤ 8) (k : ∀ z h', P z h' → am_w xs L (d + 1) y is l (.int z :: st) h' Q) : am_w xs L (d + 1) y ((62, 3, 277, 1, cc) :: is) l (.ref q :: st) h Q :=
  wp_inv [.ref q] st hm (Or.inr (Or.inl rfl)) rfl ⟨rfl, (kn_277).2.1.symm⟩ (by unfold am_may; rw [if_neg (by decide)]; show (if (62 : Nat) = 62 then (match h.2.2 q with | some (.inr (ci, _)) => ci == am_rc 277 | _ => false) else _) = true; rw [if_pos rfl, hr, (kn_277).2.2.1]; rfl) hc (by rw [(kn_277).1]; exact Nat.le_of_ble_eq_true rfl) (fun v h' hv => by
    obtain ⟨z, rfl, hp⟩ := hv
    exact ⟨by unfold am_rok; rw [(kn_277).2.2.2], k z h' hp⟩)
theorem kn_278 : am_ml 278 = 5 ∧ am_na 278 = 4 ∧ am_rc 278 = 8 ∧ am_rt 278 = some .long := by decide +kernel
theorem kv_278 {q : Nat} {x0 : Int32} {x1 : Int32} {x2 : Int32} {fs : List Value} (hr : h.2.2 q = some (.inr (8, fs))) {P : Int64 → am_H → Prop} (hm : am_mj xs L d 278 [.ref q, .int x0, .int x1, .int x2] h P) (hc : am_cats st ≤ 8) (k : ∀ z h', P z h' → am_w xs L (d + 1) y is l (.long z :: st) h' Q) : am_w xs L (d + 1) y ((62, 3, 278, 4, cc) :: is) l (.int x2 :: .int x1 :: .int x0 :: .ref q :: st) h Q :=
  wp_inv [.ref q, .int x0, .int x1, .int x2] st hm (Or.inr (Or.inl rfl)) rfl ⟨rfl, (kn_278).2.1.symm⟩ (by unfold am_may; rw [if_neg (by decide)]; show (if (62 : Nat) = 62 then (match h.2.2 q with | some (.inr (ci, _)) => ci == am_rc 278 | _ => false) else _) = true; rw [if_pos rfl, hr, (kn_278).2.2.1]; rfl) hc (by rw [(kn_278).1]; exact Nat.le_of_ble_eq_true rfl) (fun v h' hv => by
    obtain ⟨z, rfl, hp⟩ := hv
    exact ⟨by unfold am_rok; rw [(kn_278).2.2.2], k z h' hp⟩)
theorem kn_279 : am_ml 279 = 3 ∧ am_na 279 = 3 ∧ am_rc 279 = 8 ∧ am_rt 279 = some .int := by decide +kernel
theorem kv_279 {q : Nat} {x0 : Int32} {x1 : Int32} {fs : List Value} (hr : h.2.2 q = some (.inr (8, fs))) {P : Int32 → am_H → Prop} (hm : am_mi xs L d 279 [.ref q, .int x0, .int x1] h P) (hc : am_cats st ≤ 8) (k : ∀ z h', P z h' → am_w xs L (d + 1) y is l (.int z :: st) h' Q) : am_w xs L (d + 1) y ((62, 3, 279, 3, cc) :: is) l (.int x1 :: .int x0 :: .ref q :: st) h Q :=
  wp_inv [.ref q, .int x0, .int x1] st hm (Or.inr (Or.inl rfl)) rfl ⟨rfl, (kn_279).2.1.symm⟩ (by unfold am_may; rw [if_neg (by decide)]; show (if (62 : Nat) = 62 then (match h.2.2 q with | some (.inr (ci, _)) => ci == am_rc 279 | _ => false) else _) = true; rw [if_pos rfl, hr, (kn_279).2.2.1]; rfl) hc (by rw [(kn_279).1]; exact Nat.le_of_ble_eq_true rfl) (fun v h' hv => by
    obtain ⟨z, rfl, hp⟩ := hv
    exact ⟨by unfold am_rok; rw [(kn_279).2.2.2], k z h' hp⟩)
theorem kn_280 : am_ml 280 = 1 ∧ am_na 280 = 1 ∧ am_rc 280 = 8 ∧ am_rt 280 = some .int := by decide +kernel
theorem kv_280 {q : Nat} {fs : List Value} (hr : h.2.2 q = some (.inr (8, fs))) {P : Int32 → am_H → Prop} (hm : am_mi xs L d 280 [.ref q] h P) (hc : am_cats st ≤ 8) (k : ∀ z h', P z h' → am_w xs L (d + 1) y is l (.int z :: st) h' Q) : am_w xs L (d + 1) y ((62, 3, 280, 1, cc) :: is) l (.ref q :: st) h Q :=
  wp_inv [.ref q] st hm (Or.inr (Or.inl rfl)) rfl ⟨rfl, (kn_280).2.1.symm⟩ (by unfold am_may; rw [if_neg (by decide)]; show (if (62 : Nat) = 62 then (match h.2.2 q with | some (.inr (ci, _)) => ci == am_rc 280 | _ => false) else _) = true; rw [if_pos rfl, hr, (kn_280).2.2.1]; rfl) hc (by rw [(kn_280).1]; exact Nat.le_of_ble_eq_true rfl) (fun v h' hv => by
    obtain ⟨z, rfl, hp⟩ := hv
    exact ⟨by unfold am_rok; rw [(kn_280).2.2.2], k z h' hp⟩)
theorem kn_281 : am_ml 281 = 6 ∧ am_na 281 = 3 ∧ am_rc 281 = 8 ∧ am_rt 281 = none := by decide +kernel
theorem kv_281 {q : Nat} {x0 : Int32} {x1 : Int32} {fs : List Value} (hr : h.2.2 q = some (.inr (8, fs))) {P : am_H → Prop} (hm : am_mv xs L d 281 [.ref q, .int x0, .int x1] h P) (hc : am_cats st ≤ 8) (k : ∀ h', P h' → am_w xs L (d + 1) y is l st h' Q) : am_w xs L (d + 1) y ((62, 3, 281, 3, cc) :: is) l (.int x1 :: .int x0 :: .ref q :: st) h Q :=
  wp_inv [.ref q, .int x0, .int x1] st hm (Or.inr (Or.inl rfl)) rfl ⟨rfl, (kn_281).2.1.symm⟩ (by unfold am_may; rw [if_neg (by decide)]; show (if (62 : Nat) = 62 then (match h.2.2 q with | some (.inr (ci, _)) => ci == am_rc 281 | _ => false) else _) = true; rw [if_pos rfl, hr, (kn_281).2.2.1]; rfl) hc (by rw [(kn_281).1]; exact Nat.le_of_ble_eq_true rfl) (fun v h' hv => by
    obtain ⟨rfl, hp⟩ := hv
    exact ⟨by unfold am_rok; rw [(kn_281).2.2.2], k h' hp⟩)
theorem kn_282 : am_ml 282 = 6 ∧ am_na 282 = 4 ∧ am_rc 282 = 8 ∧ am_rt 282 = some .long := by decide +kernel
theorem kv_282 {q : Nat} {x0 : Int64} {x1 : Int64} {x2 : Int32} {fs : List Value} (hr : h.2.2 q = some (.inr (8, fs))) {P : Int64 → am_H → Prop} (hm : am_mj xs L d 282 [.ref q, .long x0, .long x1, .int x2] h P) (hc : am_cats st ≤ 8) (k : ∀ z h', P z h' → am_w xs L (d + 1) y is l (.long z :: st) h' Q) : am_w xs L (d + 1) y ((62, 3, 282, 4, cc) :: is) l (.int x2 :: .long x1 :: .long x0 :: .ref q :: st) h Q :=
  wp_inv [.ref q, .long x0, .long x1, .int x2] st hm (Or.inr (Or.inl rfl)) rfl ⟨rfl, (kn_282).2.1.symm⟩ (by unfold am_may; rw [if_neg (by decide)]; show (if (62 : Nat) = 62 then (match h.2.2 q with | some (.inr (ci, _)) => ci == am_rc 282 | _ => false) else _) = true; rw [if_pos rfl, hr, (kn_282).2.2.1]; rfl) hc (by rw [(kn_282).1]; exact Nat.le_of_ble_eq_true rfl) (fun v h' hv => by
    obtain ⟨z, rfl, hp⟩ := hv
    exact ⟨by unfold am_rok; rw [(kn_282).2.2.2], k z h' hp⟩)
theorem kn_283 : am_ml 283 = 10 ∧ am_na 283 = 2 ∧ am_rc 283 = 99 ∧ am_rt 283 = some .long := by decide +kernel
theorem kv_283 {x0 : Int64} {x1 : Int64} {P : Int64 → am_H → Prop} (hm : am_mj xs L d 283 [.long x0, .long x1] h P) (hc : am_cats st ≤ 8) (k : ∀ z h', P z h' → am_w xs L (d + 1) y is l (.long z :: st) h' Q) : am_w xs L (d + 1) y ((60, 3, 283, 2, cc) :: is) l (.long x1 :: .long x0 :: st) h Q :=
  wp_inv [.long x0, .long x1] st hm (Or.inl rfl) rfl ⟨rfl, (kn_283).2.1.symm⟩ (by unfold am_may; rw [if_pos rfl, (kn_283).2.2.1]; rfl) hc (by rw [(kn_283).1]; exact Nat.le_of_ble_eq_true rfl) (fun v h' hv => by
    obtain ⟨z, rfl, hp⟩ := hv
    exact ⟨by unfold am_rok; rw [(kn_283).2.2.2], k z h' hp⟩)
theorem kn_284 : am_ml 284 = 4 ∧ am_na 284 = 3 ∧ am_rc 284 = 8 ∧ am_rt 284 = some .long := by decide +kernel
theorem kv_284 {q : Nat} {x0 : Int32} {x1 : Int32} {fs : List Value} (hr : h.2.2 q = some (.inr (8, fs))) {P : Int64 → am_H → Prop} (hm : am_mj xs L d 284 [.ref q, .int x0, .int x1] h P) (hc : am_cats st ≤ 8) (k : ∀ z h', P z h' → am_w xs L (d + 1) y is l (.long z :: st) h' Q) : am_w xs L (d + 1) y ((62, 3, 284, 3, cc) :: is) l (.int x1 :: .int x0 :: .ref q :: st) h Q :=
  wp_inv [.ref q, .int x0, .int x1] st hm (Or.inr (Or.inl rfl)) rfl ⟨rfl, (kn_284).2.1.symm⟩ (by unfold am_may; rw [if_neg (by decide)]; show (if (62 : Nat) = 62 then (match h.2.2 q with | some (.inr (ci, _)) => ci == am_rc 284 | _ => false) else _) = true; rw [if_pos rfl, hr, (kn_284).2.2.1]; rfl) hc (by rw [(kn_284).1]; exact Nat.le_of_ble_eq_true rfl) (fun v h' hv => by
    obtain ⟨z, rfl, hp⟩ := hv
    exact ⟨by unfold am_rok; rw [(kn_284).2.2.2], k z h' hp⟩)
theorem kn_285 : am_ml 285 = 4 ∧ am_na 285 = 2 ∧ am_rc 285 = 8 ∧ am_rt 285 = some .int := by decide +kernel
theorem kv_285 {q : Nat} {x0 : Int32} {fs : List Value} (hr : h.2.2 q = some (.inr (8, fs))) {P : Int32 → am_H → Prop} (hm : am_mi xs L d 285 [.ref q, .int x0] h P) (hc : am_cats st ≤ 8) (k : ∀ z h', P z h' → am_w xs L (d + 1) y is l (.int z :: st) h' Q) : am_w xs L (d + 1) y ((62, 3, 285, 2, cc) :: is) l (.int x0 :: .ref q :: st) h Q :=
  wp_inv [.ref q, .int x0] st hm (Or.inr (Or.inl rfl)) rfl ⟨rfl, (kn_285).2.1.symm⟩ (by unfold am_may; rw [if_neg (by decide)]; show (if (62 : Nat) = 62 then (match h.2.2 q with | some (.inr (ci, _)) => ci == am_rc 285 | _ => false) else _) = true; rw [if_pos rfl, hr, (kn_285).2.2.1]; rfl) hc (by rw [(kn_285).1]; exact Nat.le_of_ble_eq_true rfl) (fun v h' hv => by
    obtain ⟨z, rfl, hp⟩ := hv
    exact ⟨by unfold am_rok; rw [(kn_285).2.2.2], k z h' hp⟩)
theorem kn_286 : am_ml 286 = 4 ∧ am_na 286 = 4 ∧ am_rc 286 = 8 ∧ am_rt 286 = some .int := by decide +kernel
theorem kv_286 {q : Nat} {x0 : Int32} {x1 : Int32} {x2 : Int32} {fs : List Value} (hr : h.2.2 q = some (.inr (8, fs))) {P : Int32 → am_H → Prop} (hm : am_mi xs L d 286 [.ref q, .int x0, .int x1, .int x2] h P) (hc : am_cats st ≤ 8) (k : ∀ z h', P z h' → am_w xs L (d + 1) y is l (.int z :: st) h' Q) : am_w xs L (d + 1) y ((62, 3, 286, 4, cc) :: is) l (.int x2 :: .int x1 :: .int x0 :: .ref q :: st) h Q :=
  wp_inv [.ref q, .int x0, .int x1, .int x2] st hm (Or.inr (Or.inl rfl)) rfl ⟨rfl, (kn_286).2.1.symm⟩ (by unfold am_may; rw [if_neg (by decide)]; show (if (62 : Nat) = 62 then (match h.2.2 q with | some (.inr (ci, _)) => ci == am_rc 286 | _ => false) else _) = true; rw [if_pos rfl, hr, (kn_286).2.2.1]; rfl) hc (by rw [(kn_286).1]; exact Nat.le_of_ble_eq_true rfl) (fun v h' hv => by
    obtain ⟨z, rfl, hp⟩ := hv
    exact ⟨by unfold am_rok; rw [(kn_286).2.2.2], k z h' hp⟩)
theorem kn_287 : am_ml 287 = 5 ∧ am_na 287 = 3 ∧ am_rc 287 = 8 ∧ am_rt 287 = some .int := by decide +kernel
theorem kv_287 {q : Nat} {x0 : Int32} {x1 : Int32} {fs : List Value} (hr : h.2.2 q = some (.inr (8, fs))) {P : Int32 → am_H → Prop} (hm : am_mi xs L d 287 [.ref q, .int x0, .int x1] h P) (hc : am_cats st ≤ 8) (k : ∀ z h', P z h' → am_w xs L (d + 1) y is l (.int z :: st) h' Q) : am_w xs L (d + 1) y ((62, 3, 287, 3, cc) :: is) l (.int x1 :: .int x0 :: .ref q :: st) h Q :=
  wp_inv [.ref q, .int x0, .int x1] st hm (Or.inr (Or.inl rfl)) rfl ⟨rfl, (kn_287).2.1.symm⟩ (by unfold am_may; rw [if_neg (by decide)]; show (if (62 : Nat) = 62 then (match h.2.2 q with | some (.inr (ci, _)) => ci == am_rc 287 | _ => false) else _) = true; rw [if_pos rfl, hr, (kn_287).2.2.1]; rfl) hc (by rw [(kn_287).1]; exact Nat.le_of_ble_eq_true rfl) (fun v h' hv => by
    obtain ⟨z, rfl, hp⟩ := hv
    exact ⟨by unfold am_rok; rw [(kn_287).2.2.2], k z h' hp⟩)
theorem kn_288 : am_ml 288 = 3 ∧ am_na 288 = 1 ∧ am_rc 288 = 8 ∧ am_rt 288 = some .int := by decide +kernel
theorem kv_288 {q : Nat} {fs : List Value} (hr : h.2.2 q = some (.inr (8, fs))) {P : Int32 → am_H → Prop} (hm : am_mi xs L d 288 [.ref q] h P) (hc : am_cats st ≤ 8) (k : ∀ z h', P z h' → am_w xs L (d + 1) y is l (.int z :: st) h' Q) : am_w xs L (d + 1) y ((62, 3, 288, 1, cc) :: is) l (.ref q :: st) h Q :=
  wp_inv [.ref q] st hm (Or.inr (Or.inl rfl)) rfl ⟨rfl, (kn_288).2.1.symm⟩ (by unfold am_may; rw [if_neg (by decide)]; show (if (62 : Nat) = 62 then (match h.2.2 q with | some (.inr (ci, _)) => ci == am_rc 288 | _ => false) else _) = true; rw [if_pos rfl, hr, (kn_288).2.2.1]; rfl) hc (by rw [(kn_288).1]; exact Nat.le_of_ble_eq_true rfl) (fun v h' hv => by
    obtain ⟨z, rfl, hp⟩ := hv
    exact ⟨by unfold am_rok; rw [(kn_288).2.2.2], k z h' hp⟩)
theorem kn_289 : am_ml 289 = 4 ∧ am_na 289 = 3 ∧ am_rc 289 = 8 ∧ am_rt 289 = some .int := by decide +kernel
theorem kv_289 {q : Nat} {x0 : Int32} {x1 : Int32} {fs : List Value} (hr : h.2.2 q = some (.inr (8, fs))) {P : Int32 → am_H → Prop} (hm : am_mi xs L d 289 [.ref q, .int x0, .int x1] h P) (hc : am_cats st ≤ 8) (k : ∀ z h', P z h' → am_w xs L (d + 1) y is l (.int z :: st) h' Q) : am_w xs L (d + 1) y ((62, 3, 289, 3, cc) :: is) l (.int x1 :: .int x0 :: .ref q :: st) h Q :=
  wp_inv [.ref q, .int x0, .int x1] st hm (Or.inr (Or.inl rfl)) rfl ⟨rfl, (kn_289).2.1.symm⟩ (by unfold am_may; rw [if_neg (by decide)]; show (if (62 : Nat) = 62 then (match h.2.2 q with | some (.inr (ci, _)) => ci == am_rc 289 | _ => false) else _) = true; rw [if_pos rfl, hr, (kn_289).2.2.1]; rfl) hc (by rw [(kn_289).1]; exact Nat.le_of_ble_eq_true rfl) (fun v h' hv => by
    obtain ⟨z, rfl, hp⟩ := hv
    exact ⟨by unfold am_rok; rw [(kn_289).2.2.2], k z h' hp⟩)
theorem kn_290 : am_ml 290 = 4 ∧ am_na 290 = 3 ∧ am_rc 290 = 8 ∧ am_rt 290 = some .int := by decide +kernel
theorem kv_290 {q : Nat} {x0 : Int32} {x1 : Int32} {fs : List Value} (hr : h.2.2 q = some (.inr (8, fs))) {P : Int32 → am_H → Prop} (hm : am_mi xs L d 290 [.ref q, .int x0, .int x1] h P) (hc : am_cats st ≤ 8) (k : ∀ z h', P z h' → am_w xs L (d + 1) y is l (.int z :: st) h' Q) : am_w xs L (d + 1) y ((62, 3, 290, 3, cc) :: is) l (.int x1 :: .int x0 :: .ref q :: st) h Q :=
  wp_inv [.ref q, .int x0, .int x1] st hm (Or.inr (Or.inl rfl)) rfl ⟨rfl, (kn_290).2.1.symm⟩ (by unfold am_may; rw [if_neg (by decide)]; show (if (62 : Nat) = 62 then (match h.2.2 q with | some (.inr (ci, _)) => ci == am_rc 290 | _ => false) else _) = true; rw [if_pos rfl, hr, (kn_290).2.2.1]; rfl) hc (by rw [(kn_290).1]; exact Nat.le_of_ble_eq_true rfl) (fun v h' hv => by
    obtain ⟨z, rfl, hp⟩ := hv
    exact ⟨by unfold am_rok; rw [(kn_290).2.2.2], k z h' hp⟩)
theorem kn_291 : am_ml 291 = 2 ∧ am_na 291 = 2 ∧ am_rc 291 = 8 ∧ am_rt 291 = some .boolean := by decide +kernel
theorem kv_291 {q : Nat} {x0 : Int32} {fs : List Value} (hr : h.2.2 q = some (.inr (8, fs))) {P : Bool → am_H → Prop} (hm : am_mb xs L d 291 [.ref q, .int x0] h P) (hc : am_cats st ≤ 8) (k : ∀ (z : Bool) h', P z h' → am_w xs L (d + 1) y is l (.int (if z = true then 1 else 0) :: st) h' Q) : am_w xs L (d + 1) y ((62, 3, 291, 2, cc) :: is) l (.int x0 :: .ref q :: st) h Q :=
  wp_inv [.ref q, .int x0] st hm (Or.inr (Or.inl rfl)) rfl ⟨rfl, (kn_291).2.1.symm⟩ (by unfold am_may; rw [if_neg (by decide)]; show (if (62 : Nat) = 62 then (match h.2.2 q with | some (.inr (ci, _)) => ci == am_rc 291 | _ => false) else _) = true; rw [if_pos rfl, hr, (kn_291).2.2.1]; rfl) hc (by rw [(kn_291).1]; exact Nat.le_of_ble_eq_true rfl) (fun v h' hv => by
    obtain ⟨z, rfl, hp⟩ := hv
    exact ⟨by unfold am_rok; rw [(kn_291).2.2.2]; cases z <;> rfl, k z h' hp⟩)
theorem kn_292 : am_ml 292 = 4 ∧ am_na 292 = 3 ∧ am_rc 292 = 8 ∧ am_rt 292 = some .boolean := by decide +kernel
theorem kv_292 {q : Nat} {x0 : Int32} {x1 : Int32} {fs : List Value} (hr : h.2.2 q = some (.inr (8, fs))) {P : Bool → am_H → Prop} (hm : am_mb xs L d 292 [.ref q, .int x0, .int x1] h P) (hc : am_cats st ≤ 8) (k : ∀ (z : Bool) h', P z h' → am_w xs L (d + 1) y is l (.int (if z = true then 1 else 0) :: st) h' Q) : am_w xs L (d + 1) y ((62, 3, 292, 3, cc) :: is) l (.int x1 :: .int x0 :: .ref q :: st) h Q :=
  wp_inv [.ref q, .int x0, .int x1] st hm (Or.inr (Or.inl rfl)) rfl ⟨rfl, (kn_292).2.1.symm⟩ (by unfold am_may; rw [if_neg (by decide)]; show (if (62 : Nat) = 62 then (match h.2.2 q with | some (.inr (ci, _)) => ci == am_rc 292 | _ => false) else _) = true; rw [if_pos rfl, hr, (kn_292).2.2.1]; rfl) hc (by rw [(kn_292).1]; exact Nat.le_of_ble_eq_true rfl) (fun v h' hv => by
    obtain ⟨z, rfl, hp⟩ := hv
    exact ⟨by unfold am_rok; rw [(kn_292).2.2.2]; cases z <;> rfl, k z h' hp⟩)
theorem kn_293 : am_ml 293 = 2 ∧ am_na 293 = 2 ∧ am_rc 293 = 8 ∧ am_rt 293 = some .boolean := by decide +kernel
theorem kv_293 {q : Nat} {x0 : Int32} {fs : List Value} (hr : h.2.2 q = some (.inr (8, fs))) {P : Bool → am_H → Prop} (hm : am_mb xs L d 293 [.ref q, .int x0] h P) (hc : am_cats st ≤ 8) (k : ∀ (z : Bool) h', P z h' → am_w xs L (d + 1) y is l (.int (if z = true then 1 else 0) :: st) h' Q) : am_w xs L (d + 1) y ((62, 3, 293, 2, cc) :: is) l (.int x0 :: .ref q :: st) h Q :=
  wp_inv [.ref q, .int x0] st hm (Or.inr (Or.inl rfl)) rfl ⟨rfl, (kn_293).2.1.symm⟩ (by unfold am_may; rw [if_neg (by decide)]; show (if (62 : Nat) = 62 then (match h.2.2 q with | some (.inr (ci, _)) => ci == am_rc 293 | _ => false) else _) = true; rw [if_pos rfl, hr, (kn_293).2.2.1]; rfl) hc (by rw [(kn_293).1]; exact Nat.le_of_ble_eq_true rfl) (fun v h' hv => by
    obtain ⟨z, rfl, hp⟩ := hv
    exact ⟨by unfold am_rok; rw [(kn_293).2.2.2]; cases z <;> rfl, k z h' hp⟩)
theorem kn_294 : am_ml 294 = 2 ∧ am_na 294 = 1 ∧ am_rc 294 = 8 ∧ am_rt 294 = none := by decide +kernel
theorem kv_294 {q : Nat} {fs : List Value} (hr : h.2.2 q = some (.inr (8, fs))) {P : am_H → Prop} (hm : am_mv xs L d 294 [.ref q] h P) (hc : am_cats st ≤ 8) (k : ∀ h', P h' → am_w xs L (d + 1) y is l st h' Q) : am_w xs L (d + 1) y ((62, 3, 294, 1, cc) :: is) l (.ref q :: st) h Q :=
  wp_inv [.ref q] st hm (Or.inr (Or.inl rfl)) rfl ⟨rfl, (kn_294).2.1.symm⟩ (by unfold am_may; rw [if_neg (by decide)]; show (if (62 : Nat) = 62 then (match h.2.2 q with | some (.inr (ci, _)) => ci == am_rc 294 | _ => false) else _) = true; rw [if_pos rfl, hr, (kn_294).2.2.1]; rfl) hc (by rw [(kn_294).1]; exact Nat.le_of_ble_eq_true rfl) (fun v h' hv => by
    obtain ⟨rfl, hp⟩ := hv
    exact ⟨by unfold am_rok; rw [(kn_294).2.2.2], k h' hp⟩)
theorem kn_295 : am_ml 295 = 3 ∧ am_na 295 = 3 ∧ am_rc 295 = 8 ∧ am_rt 295 = none := by decide +kernel
theorem kv_295 {q : Nat} {x0 : Nat} {x1 : Int32} {fs : List Value} (hr : h.2.2 q = some (.inr (8, fs))) {P : am_H → Prop} (hm : am_mv xs L d 295 [.ref q, .ref x0, .int x1] h P) (hc : am_cats st ≤ 8) (k : ∀ h', P h' → am_w xs L (d + 1) y is l st h' Q) : am_w xs L (d + 1) y ((62, 3, 295, 3, cc) :: is) l (.int x1 :: .ref x0 :: .ref q :: st) h Q :=
  wp_inv [.ref q, .ref x0, .int x1] st hm (Or.inr (Or.inl rfl)) rfl ⟨rfl, (kn_295).2.1.symm⟩ (by unfold am_may; rw [if_neg (by decide)]; show (if (62 : Nat) = 62 then (match h.2.2 q with | some (.inr (ci, _)) => ci == am_rc 295 | _ => false) else _) = true; rw [if_pos rfl, hr, (kn_295).2.2.1]; rfl) hc (by rw [(kn_295).1]; exact Nat.le_of_ble_eq_true rfl) (fun v h' hv => by
    obtain ⟨rfl, hp⟩ := hv
    exact ⟨by unfold am_rok; rw [(kn_295).2.2.2], k h' hp⟩)
theorem kn_296 : am_ml 296 = 1 ∧ am_na 296 = 1 ∧ am_rc 296 = 8 ∧ am_rt 296 = some .boolean := by decide +kernel
theorem kv_296 {q : Nat} {fs : List Value} (hr : h.2.2 q = some (.inr (8, fs))) {P : Bool → am_H → Prop} (hm : am_mb xs L d 296 [.ref q] h P) (hc : am_cats st ≤ 8) (k : ∀ (z : Bool) h', P z h' → am_w xs L (d + 1) y is l (.int (if z = true then 1 else 0) :: st) h' Q) : am_w xs L (d + 1) y ((62, 3, 296, 1, cc) :: is) l (.ref q :: st) h Q :=
  wp_inv [.ref q] st hm (Or.inr (Or.inl rfl)) rfl ⟨rfl, (kn_296).2.1.symm⟩ (by unfold am_may; rw [if_neg (by decide)]; show (if (62 : Nat) = 62 then (match h.2.2 q with | some (.inr (ci, _)) => ci == am_rc 296 | _ => false) else _) = true; rw [if_pos rfl, hr, (kn_296).2.2.1]; rfl) hc (by rw [(kn_296).1]; exact Nat.le_of_ble_eq_true rfl) (fun v h' hv => by
    obtain ⟨z, rfl, hp⟩ := hv
    exact ⟨by unfold am_rok; rw [(kn_296).2.2.2]; cases z <;> rfl, k z h' hp⟩)
theorem kn_297 : am_ml 297 = 2 ∧ am_na 297 = 2 ∧ am_rc 297 = 8 ∧ am_rt 297 = some .boolean := by decide +kernel
theorem kv_297 {q : Nat} {x0 : Int32} {fs : List Value} (hr : h.2.2 q = some (.inr (8, fs))) {P : Bool → am_H → Prop} (hm : am_mb xs L d 297 [.ref q, .int x0] h P) (hc : am_cats st ≤ 8) (k : ∀ (z : Bool) h', P z h' → am_w xs L (d + 1) y is l (.int (if z = true then 1 else 0) :: st) h' Q) : am_w xs L (d + 1) y ((62, 3, 297, 2, cc) :: is) l (.int x0 :: .ref q :: st) h Q :=
  wp_inv [.ref q, .int x0] st hm (Or.inr (Or.inl rfl)) rfl ⟨rfl, (kn_297).2.1.symm⟩ (by unfold am_may; rw [if_neg (by decide)]; show (if (62 : Nat) = 62 then (match h.2.2 q with | some (.inr (ci, _)) => ci == am_rc 297 | _ => false) else _) = true; rw [if_pos rfl, hr, (kn_297).2.2.1]; rfl) hc (by rw [(kn_297).1]; exact Nat.le_of_ble_eq_true rfl) (fun v h' hv => by
    obtain ⟨z, rfl, hp⟩ := hv
    exact ⟨by unfold am_rok; rw [(kn_297).2.2.2]; cases z <;> rfl, k z h' hp⟩)
theorem kn_298 : am_ml 298 = 2 ∧ am_na 298 = 2 ∧ am_rc 298 = 8 ∧ am_rt 298 = some .boolean := by decide +kernel
theorem kv_298 {q : Nat} {x0 : Int32} {fs : List Value} (hr : h.2.2 q = some (.inr (8, fs))) {P : Bool → am_H → Prop} (hm : am_mb xs L d 298 [.ref q, .int x0] h P) (hc : am_cats st ≤ 8) (k : ∀ (z : Bool) h', P z h' → am_w xs L (d + 1) y is l (.int (if z = true then 1 else 0) :: st) h' Q) : am_w xs L (d + 1) y ((62, 3, 298, 2, cc) :: is) l (.int x0 :: .ref q :: st) h Q :=
  wp_inv [.ref q, .int x0] st hm (Or.inr (Or.inl rfl)) rfl ⟨rfl, (kn_298).2.1.symm⟩ (by unfold am_may; rw [if_neg (by decide)]; show (if (62 : Nat) = 62 then (match h.2.2 q with | some (.inr (ci, _)) => ci == am_rc 298 | _ => false) else _) = true; rw [if_pos rfl, hr, (kn_298).2.2.1]; rfl) hc (by rw [(kn_298).1]; exact Nat.le_of_ble_eq_true rfl) (fun v h' hv => by
    obtain ⟨z, rfl, hp⟩ := hv
    exact ⟨by unfold am_rok; rw [(kn_298).2.2.2]; cases z <;> rfl, k z h' hp⟩)
theorem kn_299 : am_ml 299 = 4 ∧ am_na 299 = 2 ∧ am_rc 299 = 8 ∧ am_rt 299 = some .int := by decide +kernel
theorem kv_299 {q : Nat} {x0 : Int32} {fs : List Value} (hr : h.2.2 q = some (.inr (8, fs))) {P : Int32 → am_H → Prop} (hm : am_mi xs L d 299 [.ref q, .int x0] h P) (hc : am_cats st ≤ 8) (k : ∀ z h', P z h' → am_w xs L (d + 1) y is l (.int z :: st) h' Q) : am_w xs L (d + 1) y ((62, 3, 299, 2, cc) :: is) l (.int x0 :: .ref q :: st) h Q :=
  wp_inv [.ref q, .int x0] st hm (Or.inr (Or.inl rfl)) rfl ⟨rfl, (kn_299).2.1.symm⟩ (by unfold am_may; rw [if_neg (by decide)]; show (if (62 : Nat) = 62 then (match h.2.2 q with | some (.inr (ci, _)) => ci == am_rc 299 | _ => false) else _) = true; rw [if_pos rfl, hr, (kn_299).2.2.1]; rfl) hc (by rw [(kn_299).1]; exact Nat.le_of_ble_eq_true rfl) (fun v h' hv => by
    obtain ⟨z, rfl, hp⟩ := hv
    exact ⟨by unfold am_rok; rw [(kn_299).2.2.2], k z h' hp⟩)
theorem kn_300 : am_ml 300 = 1 ∧ am_na 300 = 1 ∧ am_rc 300 = 8 ∧ am_rt 300 = some .boolean := by decide +kernel
theorem kv_300 {q : Nat} {fs : List Value} (hr : h.2.2 q = some (.inr (8, fs))) {P : Bool → am_H → Prop} (hm : am_mb xs L d 300 [.ref q] h P) (hc : am_cats st ≤ 8) (k : ∀ (z : Bool) h', P z h' → am_w xs L (d + 1) y is l (.int (if z = true then 1 else 0) :: st) h' Q) : am_w xs L (d + 1) y ((62, 3, 300, 1, cc) :: is) l (.ref q :: st) h Q :=
  wp_inv [.ref q] st hm (Or.inr (Or.inl rfl)) rfl ⟨rfl, (kn_300).2.1.symm⟩ (by unfold am_may; rw [if_neg (by decide)]; show (if (62 : Nat) = 62 then (match h.2.2 q with | some (.inr (ci, _)) => ci == am_rc 300 | _ => false) else _) = true; rw [if_pos rfl, hr, (kn_300).2.2.1]; rfl) hc (by rw [(kn_300).1]; exact Nat.le_of_ble_eq_true rfl) (fun v h' hv => by
    obtain ⟨z, rfl, hp⟩ := hv
    exact ⟨by unfold am_rok; rw [(kn_300).2.2.2]; cases z <;> rfl, k z h' hp⟩)
theorem kn_301 : am_ml 301 = 3 ∧ am_na 301 = 3 ∧ am_rc 301 = 8 ∧ am_rt 301 = none := by decide +kernel
theorem kv_301 {q : Nat} {x0 : Nat} {x1 : Int32} {fs : List Value} (hr : h.2.2 q = some (.inr (8, fs))) {P : am_H → Prop} (hm : am_mv xs L d 301 [.ref q, .ref x0, .int x1] h P) (hc : am_cats st ≤ 8) (k : ∀ h', P h' → am_w xs L (d + 1) y is l st h' Q) : am_w xs L (d + 1) y ((62, 3, 301, 3, cc) :: is) l (.int x1 :: .ref x0 :: .ref q :: st) h Q :=
  wp_inv [.ref q, .ref x0, .int x1] st hm (Or.inr (Or.inl rfl)) rfl ⟨rfl, (kn_301).2.1.symm⟩ (by unfold am_may; rw [if_neg (by decide)]; show (if (62 : Nat) = 62 then (match h.2.2 q with | some (.inr (ci, _)) => ci == am_rc 301 | _ => false) else _) = true; rw [if_pos rfl, hr, (kn_301).2.2.1]; rfl) hc (by rw [(kn_301).1]; exact Nat.le_of_ble_eq_true rfl) (fun v h' hv => by
    obtain ⟨rfl, hp⟩ := hv
    exact ⟨by unfold am_rok; rw [(kn_301).2.2.2], k h' hp⟩)
theorem kn_302 : am_ml 302 = 1 ∧ am_na 302 = 1 ∧ am_rc 302 = 8 ∧ am_rt 302 = some .int := by decide +kernel
theorem kv_302 {q : Nat} {fs : List Value} (hr : h.2.2 q = some (.inr (8, fs))) {P : Int32 → am_H → Prop} (hm : am_mi xs L d 302 [.ref q] h P) (hc : am_cats st ≤ 8) (k : ∀ z h', P z h' → am_w xs L (d + 1) y is l (.int z :: st) h' Q) : am_w xs L (d + 1) y ((62, 3, 302, 1, cc) :: is) l (.ref q :: st) h Q :=
  wp_inv [.ref q] st hm (Or.inr (Or.inl rfl)) rfl ⟨rfl, (kn_302).2.1.symm⟩ (by unfold am_may; rw [if_neg (by decide)]; show (if (62 : Nat) = 62 then (match h.2.2 q with | some (.inr (ci, _)) => ci == am_rc 302 | _ => false) else _) = true; rw [if_pos rfl, hr, (kn_302).2.2.1]; rfl) hc (by rw [(kn_302).1]; exact Nat.le_of_ble_eq_true rfl) (fun v h' hv => by
    obtain ⟨z, rfl, hp⟩ := hv
    exact ⟨by unfold am_rok; rw [(kn_302).2.2.2], k z h' hp⟩)
theorem kn_303 : am_ml 303 = 2 ∧ am_na 303 = 2 ∧ am_rc 303 = 8 ∧ am_rt 303 = some .boolean := by decide +kernel
theorem kv_303 {q : Nat} {x0 : Int32} {fs : List Value} (hr : h.2.2 q = some (.inr (8, fs))) {P : Bool → am_H → Prop} (hm : am_mb xs L d 303 [.ref q, .int x0] h P) (hc : am_cats st ≤ 8) (k : ∀ (z : Bool) h', P z h' → am_w xs L (d + 1) y is l (.int (if z = true then 1 else 0) :: st) h' Q) : am_w xs L (d + 1) y ((62, 3, 303, 2, cc) :: is) l (.int x0 :: .ref q :: st) h Q :=
  wp_inv [.ref q, .int x0] st hm (Or.inr (Or.inl rfl)) rfl ⟨rfl, (kn_303).2.1.symm⟩ (by unfold am_may; rw [if_neg (by decide)]; show (if (62 : Nat) = 62 then (match h.2.2 q with | some (.inr (ci, _)) => ci == am_rc 303 | _ => false) else _) = true; rw [if_pos rfl, hr, (kn_303).2.2.1]; rfl) hc (by rw [(kn_303).1]; exact Nat.le_of_ble_eq_true rfl) (fun v h' hv => by
    obtain ⟨z, rfl, hp⟩ := hv
    exact ⟨by unfold am_rok; rw [(kn_303).2.2.2]; cases z <;> rfl, k z h' hp⟩)
theorem kn_304 : am_ml 304 = 4 ∧ am_na 304 = 2 ∧ am_rc 304 = 8 ∧ am_rt 304 = some .int := by decide +kernel
theorem kv_304 {q : Nat} {x0 : Int32} {fs : List Value} (hr : h.2.2 q = some (.inr (8, fs))) {P : Int32 → am_H → Prop} (hm : am_mi xs L d 304 [.ref q, .int x0] h P) (hc : am_cats st ≤ 8) (k : ∀ z h', P z h' → am_w xs L (d + 1) y is l (.int z :: st) h' Q) : am_w xs L (d + 1) y ((62, 3, 304, 2, cc) :: is) l (.int x0 :: .ref q :: st) h Q :=
  wp_inv [.ref q, .int x0] st hm (Or.inr (Or.inl rfl)) rfl ⟨rfl, (kn_304).2.1.symm⟩ (by unfold am_may; rw [if_neg (by decide)]; show (if (62 : Nat) = 62 then (match h.2.2 q with | some (.inr (ci, _)) => ci == am_rc 304 | _ => false) else _) = true; rw [if_pos rfl, hr, (kn_304).2.2.1]; rfl) hc (by rw [(kn_304).1]; exact Nat.le_of_ble_eq_true rfl) (fun v h' hv => by
    obtain ⟨z, rfl, hp⟩ := hv
    exact ⟨by unfold am_rok; rw [(kn_304).2.2.2], k z h' hp⟩)
theorem kn_305 : am_ml 305 = 2 ∧ am_na 305 = 2 ∧ am_rc 305 = 8 ∧ am_rt 305 = some .int := by decide +kernel
theorem kv_305 {q : Nat} {x0 : Int32} {fs : List Value} (hr : h.2.2 q = some (.inr (8, fs))) {P : Int32 → am_H → Prop} (hm : am_mi xs L d 305 [.ref q, .int x0] h P) (hc : am_cats st ≤ 8) (k : ∀ z h', P z h' → am_w xs L (d + 1) y is l (.int z :: st) h' Q) : am_w xs L (d + 1) y ((62, 3, 305, 2, cc) :: is) l (.int x0 :: .ref q :: st) h Q :=
  wp_inv [.ref q, .int x0] st hm (Or.inr (Or.inl rfl)) rfl ⟨rfl, (kn_305).2.1.symm⟩ (by unfold am_may; rw [if_neg (by decide)]; show (if (62 : Nat) = 62 then (match h.2.2 q with | some (.inr (ci, _)) => ci == am_rc 305 | _ => false) else _) = true; rw [if_pos rfl, hr, (kn_305).2.2.1]; rfl) hc (by rw [(kn_305).1]; exact Nat.le_of_ble_eq_true rfl) (fun v h' hv => by
    obtain ⟨z, rfl, hp⟩ := hv
    exact ⟨by unfold am_rok; rw [(kn_305).2.2.2], k z h' hp⟩)
theorem kn_306 : am_ml 306 = 1 ∧ am_na 306 = 1 ∧ am_rc 306 = 8 ∧ am_rt 306 = some .int := by decide +kernel
theorem kv_306 {q : Nat} {fs : List Value} (hr : h.2.2 q = some (.inr (8, fs))) {P : Int32 → am_H → Prop} (hm : am_mi xs L d 306 [.ref q] h P) (hc : am_cats st ≤ 8) (k : ∀ z h', P z h' → am_w xs L (d + 1) y is l (.int z :: st) h' Q) : am_w xs L (d + 1) y ((62, 3, 306, 1, cc) :: is) l (.ref q :: st) h Q :=
  wp_inv [.ref q] st hm (Or.inr (Or.inl rfl)) rfl ⟨rfl, (kn_306).2.1.symm⟩ (by unfold am_may; rw [if_neg (by decide)]; show (if (62 : Nat) = 62 then (match h.2.2 q with | some (.inr (ci, _)) => ci == am_rc 306 | _ => false) else _) = true; rw [if_pos rfl, hr, (kn_306).2.2.1]; rfl) hc (by rw [(kn_306).1]; exact Nat.le_of_ble_eq_true rfl) (fun v h' hv => by
    obtain ⟨z, rfl, hp⟩ := hv
    exact ⟨by unfold am_rok; rw [(kn_306).2.2.2], k z h' hp⟩)
theorem kn_307 : am_ml 307 = 1 ∧ am_na 307 = 1 ∧ am_rc 307 = 7 ∧ am_rt 307 = none := by decide +kernel
theorem kv_307 {q : Nat} {P : am_H → Prop} (hm : am_mv xs L d 307 [.ref q] h P) (hc : am_cats st ≤ 8) (k : ∀ h', P h' → am_w xs L (d + 1) y is l st h' Q) : am_w xs L (d + 1) y ((63, 3, 307, 1, cc) :: is) l (.ref q :: st) h Q :=
  wp_inv [.ref q] st hm (Or.inr (Or.inr rfl)) rfl ⟨rfl, (kn_307).2.1.symm⟩ (by unfold am_may; rw [if_neg (by decide)]; show (if (63 : Nat) = 62 then _ else (am_rc 307 != 99)) = true; rw [if_neg (by decide), (kn_307).2.2.1]; rfl) hc (by rw [(kn_307).1]; exact Nat.le_of_ble_eq_true rfl) (fun v h' hv => by
    obtain ⟨rfl, hp⟩ := hv
    exact ⟨by unfold am_rok; rw [(kn_307).2.2.2], k h' hp⟩)
theorem kn_308 : am_ml 308 = 4 ∧ am_na 308 = 2 ∧ am_rc 308 = 7 ∧ am_rt 308 = some .int := by decide +kernel
theorem kv_308 {q : Nat} {x0 : Int64} {fs : List Value} (hr : h.2.2 q = some (.inr (7, fs))) {P : Int32 → am_H → Prop} (hm : am_mi xs L d 308 [.ref q, .long x0] h P) (hc : am_cats st ≤ 8) (k : ∀ z h', P z h' → am_w xs L (d + 1) y is l (.int z :: st) h' Q) : am_w xs L (d + 1) y ((62, 3, 308, 2, cc) :: is) l (.long x0 :: .ref q :: st) h Q :=
  wp_inv [.ref q, .long x0] st hm (Or.inr (Or.inl rfl)) rfl ⟨rfl, (kn_308).2.1.symm⟩ (by unfold am_may; rw [if_neg (by decide)]; show (if (62 : Nat) = 62 then (match h.2.2 q with | some (.inr (ci, _)) => ci == am_rc 308 | _ => false) else _) = true; rw [if_pos rfl, hr, (kn_308).2.2.1]; rfl) hc (by rw [(kn_308).1]; exact Nat.le_of_ble_eq_true rfl) (fun v h' hv => by
    obtain ⟨z, rfl, hp⟩ := hv
    exact ⟨by unfold am_rok; rw [(kn_308).2.2.2], k z h' hp⟩)
theorem kn_309 : am_ml 309 = 4 ∧ am_na 309 = 2 ∧ am_rc 309 = 7 ∧ am_rt 309 = some .boolean := by decide +kernel
theorem kv_309 {q : Nat} {x0 : Int64} {fs : List Value} (hr : h.2.2 q = some (.inr (7, fs))) {P : Bool → am_H → Prop} (hm : am_mb xs L d 309 [.ref q, .long x0] h P) (hc : am_cats st ≤ 8) (k : ∀ (z : Bool) h', P z h' → am_w xs L (d + 1) y is l (.int (if z = true then 1 else 0) :: st) h' Q) : am_w xs L (d + 1) y ((62, 3, 309, 2, cc) :: is) l (.long x0 :: .ref q :: st) h Q :=
  wp_inv [.ref q, .long x0] st hm (Or.inr (Or.inl rfl)) rfl ⟨rfl, (kn_309).2.1.symm⟩ (by unfold am_may; rw [if_neg (by decide)]; show (if (62 : Nat) = 62 then (match h.2.2 q with | some (.inr (ci, _)) => ci == am_rc 309 | _ => false) else _) = true; rw [if_pos rfl, hr, (kn_309).2.2.1]; rfl) hc (by rw [(kn_309).1]; exact Nat.le_of_ble_eq_true rfl) (fun v h' hv => by
    obtain ⟨z, rfl, hp⟩ := hv
    exact ⟨by unfold am_rok; rw [(kn_309).2.2.2]; cases z <;> rfl, k z h' hp⟩)
theorem kn_310 : am_ml 310 = 3 ∧ am_na 310 = 2 ∧ am_rc 310 = 7 ∧ am_rt 310 = some .boolean := by decide +kernel
theorem kv_310 {q : Nat} {x0 : Int32} {fs : List Value} (hr : h.2.2 q = some (.inr (7, fs))) {P : Bool → am_H → Prop} (hm : am_mb xs L d 310 [.ref q, .int x0] h P) (hc : am_cats st ≤ 8) (k : ∀ (z : Bool) h', P z h' → am_w xs L (d + 1) y is l (.int (if z = true then 1 else 0) :: st) h' Q) : am_w xs L (d + 1) y ((62, 3, 310, 2, cc) :: is) l (.int x0 :: .ref q :: st) h Q :=
  wp_inv [.ref q, .int x0] st hm (Or.inr (Or.inl rfl)) rfl ⟨rfl, (kn_310).2.1.symm⟩ (by unfold am_may; rw [if_neg (by decide)]; show (if (62 : Nat) = 62 then (match h.2.2 q with | some (.inr (ci, _)) => ci == am_rc 310 | _ => false) else _) = true; rw [if_pos rfl, hr, (kn_310).2.2.1]; rfl) hc (by rw [(kn_310).1]; exact Nat.le_of_ble_eq_true rfl) (fun v h' hv => by
    obtain ⟨z, rfl, hp⟩ := hv
    exact ⟨by unfold am_rok; rw [(kn_310).2.2.2]; cases z <;> rfl, k z h' hp⟩)
theorem kn_311 : am_ml 311 = 4 ∧ am_na 311 = 2 ∧ am_rc 311 = 7 ∧ am_rt 311 = some .int := by decide +kernel
theorem kv_311 {q : Nat} {x0 : Int32} {fs : List Value} (hr : h.2.2 q = some (.inr (7, fs))) {P : Int32 → am_H → Prop} (hm : am_mi xs L d 311 [.ref q, .int x0] h P) (hc : am_cats st ≤ 8) (k : ∀ z h', P z h' → am_w xs L (d + 1) y is l (.int z :: st) h' Q) : am_w xs L (d + 1) y ((62, 3, 311, 2, cc) :: is) l (.int x0 :: .ref q :: st) h Q :=
  wp_inv [.ref q, .int x0] st hm (Or.inr (Or.inl rfl)) rfl ⟨rfl, (kn_311).2.1.symm⟩ (by unfold am_may; rw [if_neg (by decide)]; show (if (62 : Nat) = 62 then (match h.2.2 q with | some (.inr (ci, _)) => ci == am_rc 311 | _ => false) else _) = true; rw [if_pos rfl, hr, (kn_311).2.2.1]; rfl) hc (by rw [(kn_311).1]; exact Nat.le_of_ble_eq_true rfl) (fun v h' hv => by
    obtain ⟨z, rfl, hp⟩ := hv
    exact ⟨by unfold am_rok; rw [(kn_311).2.2.2], k z h' hp⟩)
theorem kn_312 : am_ml 312 = 1 ∧ am_na 312 = 1 ∧ am_rc 312 = 7 ∧ am_rt 312 = some .int := by decide +kernel
theorem kv_312 {q : Nat} {fs : List Value} (hr : h.2.2 q = some (.inr (7, fs))) {P : Int32 → am_H → Prop} (hm : am_mi xs L d 312 [.ref q] h P) (hc : am_cats st ≤ 8) (k : ∀ z h', P z h' → am_w xs L (d + 1) y is l (.int z :: st) h' Q) : am_w xs L (d + 1) y ((62, 3, 312, 1, cc) :: is) l (.ref q :: st) h Q :=
  wp_inv [.ref q] st hm (Or.inr (Or.inl rfl)) rfl ⟨rfl, (kn_312).2.1.symm⟩ (by unfold am_may; rw [if_neg (by decide)]; show (if (62 : Nat) = 62 then (match h.2.2 q with | some (.inr (ci, _)) => ci == am_rc 312 | _ => false) else _) = true; rw [if_pos rfl, hr, (kn_312).2.2.1]; rfl) hc (by rw [(kn_312).1]; exact Nat.le_of_ble_eq_true rfl) (fun v h' hv => by
    obtain ⟨z, rfl, hp⟩ := hv
    exact ⟨by unfold am_rok; rw [(kn_312).2.2.2], k z h' hp⟩)
theorem kn_313 : am_ml 313 = 2 ∧ am_na 313 = 2 ∧ am_rc 313 = 7 ∧ am_rt 313 = some .long := by decide +kernel
theorem kv_313 {q : Nat} {x0 : Int32} {fs : List Value} (hr : h.2.2 q = some (.inr (7, fs))) {P : Int64 → am_H → Prop} (hm : am_mj xs L d 313 [.ref q, .int x0] h P) (hc : am_cats st ≤ 8) (k : ∀ z h', P z h' → am_w xs L (d + 1) y is l (.long z :: st) h' Q) : am_w xs L (d + 1) y ((62, 3, 313, 2, cc) :: is) l (.int x0 :: .ref q :: st) h Q :=
  wp_inv [.ref q, .int x0] st hm (Or.inr (Or.inl rfl)) rfl ⟨rfl, (kn_313).2.1.symm⟩ (by unfold am_may; rw [if_neg (by decide)]; show (if (62 : Nat) = 62 then (match h.2.2 q with | some (.inr (ci, _)) => ci == am_rc 313 | _ => false) else _) = true; rw [if_pos rfl, hr, (kn_313).2.2.1]; rfl) hc (by rw [(kn_313).1]; exact Nat.le_of_ble_eq_true rfl) (fun v h' hv => by
    obtain ⟨z, rfl, hp⟩ := hv
    exact ⟨by unfold am_rok; rw [(kn_313).2.2.2], k z h' hp⟩)
theorem kn_314 : am_ml 314 = 2 ∧ am_na 314 = 2 ∧ am_rc 314 = 7 ∧ am_rt 314 = some .int := by decide +kernel
theorem kv_314 {q : Nat} {x0 : Int32} {fs : List Value} (hr : h.2.2 q = some (.inr (7, fs))) {P : Int32 → am_H → Prop} (hm : am_mi xs L d 314 [.ref q, .int x0] h P) (hc : am_cats st ≤ 8) (k : ∀ z h', P z h' → am_w xs L (d + 1) y is l (.int z :: st) h' Q) : am_w xs L (d + 1) y ((62, 3, 314, 2, cc) :: is) l (.int x0 :: .ref q :: st) h Q :=
  wp_inv [.ref q, .int x0] st hm (Or.inr (Or.inl rfl)) rfl ⟨rfl, (kn_314).2.1.symm⟩ (by unfold am_may; rw [if_neg (by decide)]; show (if (62 : Nat) = 62 then (match h.2.2 q with | some (.inr (ci, _)) => ci == am_rc 314 | _ => false) else _) = true; rw [if_pos rfl, hr, (kn_314).2.2.1]; rfl) hc (by rw [(kn_314).1]; exact Nat.le_of_ble_eq_true rfl) (fun v h' hv => by
    obtain ⟨z, rfl, hp⟩ := hv
    exact ⟨by unfold am_rok; rw [(kn_314).2.2.2], k z h' hp⟩)
theorem kn_315 : am_ml 315 = 1 ∧ am_na 315 = 1 ∧ am_rc 315 = 99 ∧ am_rt 315 = some .int := by decide +kernel
theorem kv_315 {x0 : Int32} {P : Int32 → am_H → Prop} (hm : am_mi xs L d 315 [.int x0] h P) (hc : am_cats st ≤ 8) (k : ∀ z h', P z h' → am_w xs L (d + 1) y is l (.int z :: st) h' Q) : am_w xs L (d + 1) y ((60, 3, 315, 1, cc) :: is) l (.int x0 :: st) h Q :=
  wp_inv [.int x0] st hm (Or.inl rfl) rfl ⟨rfl, (kn_315).2.1.symm⟩ (by unfold am_may; rw [if_pos rfl, (kn_315).2.2.1]; rfl) hc (by rw [(kn_315).1]; exact Nat.le_of_ble_eq_true rfl) (fun v h' hv => by
    obtain ⟨z, rfl, hp⟩ := hv
    exact ⟨by unfold am_rok; rw [(kn_315).2.2.2], k z h' hp⟩)
theorem kn_316 : am_ml 316 = 4 ∧ am_na 316 = 2 ∧ am_rc 316 = 99 ∧ am_rt 316 = none := by decide +kernel
theorem kv_316 {x0 : Nat} {x1 : Int32} {P : am_H → Prop} (hm : am_mv xs L d 316 [.ref x0, .int x1] h P) (hc : am_cats st ≤ 8) (k : ∀ h', P h' → am_w xs L (d + 1) y is l st h' Q) : am_w xs L (d + 1) y ((60, 3, 316, 2, cc) :: is) l (.int x1 :: .ref x0 :: st) h Q :=
  wp_inv [.ref x0, .int x1] st hm (Or.inl rfl) rfl ⟨rfl, (kn_316).2.1.symm⟩ (by unfold am_may; rw [if_pos rfl, (kn_316).2.2.1]; rfl) hc (by rw [(kn_316).1]; exact Nat.le_of_ble_eq_true rfl) (fun v h' hv => by
    obtain ⟨rfl, hp⟩ := hv
    exact ⟨by unfold am_rok; rw [(kn_316).2.2.2], k h' hp⟩)
end KV
