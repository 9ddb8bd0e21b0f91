-- WHAT AN INSTRUCTION THAT GOES ON HAS FOUND: inversion rows (printed by wip/gen/inv.py out of am_s)
theorem ai_0 {xs : Nat → Int32} {L d ln a b : Nat} {cc : Int} {lo : am_L} {st : List Value} {h : am_H} {r : Option Nat × am_L × List Value × am_H} (hs : am_s xs L d (0, ln, a, b, cc) lo st h = some r) : r = (none, lo, .int (Int32.ofInt cc) :: st, h) := (Option.some.inj hs).symm
theorem ai_1 {xs : Nat → Int32} {L d ln a b : Nat} {cc : Int} {lo : am_L} {st : List Value} {h : am_H} {r : Option Nat × am_L × List Value × am_H} (hs : am_s xs L d (1, ln, a, b, cc) lo st h = some r) : r = (none, lo, .long (Int64.ofInt cc) :: st, h) := (Option.some.inj hs).symm
theorem ai_41 {xs : Nat → Int32} {L d ln a b : Nat} {cc : Int} {lo : am_L} {st : List Value} {h : am_H} {r : Option Nat × am_L × List Value × am_H} (hs : am_s xs L d (41, ln, a, b, cc) lo st h = some r) : r = (some a, lo, st, h) := (Option.some.inj hs).symm
theorem ai_59 {xs : Nat → Int32} {L d ln a b : Nat} {cc : Int} {lo : am_L} {st : List Value} {h : am_H} {r : Option Nat × am_L × List Value × am_H} (hs : am_s xs L d (59, ln, a, b, cc) lo st h = some r) : r = (none, lo, .ref h.1 :: st, am_new h (.inr (a, am_def a)) (am_n a)) := (Option.some.inj hs).symm
theorem ai_68 {xs : Nat → Int32} {L d ln a b : Nat} {cc : Int} {lo : am_L} {st : List Value} {h : am_H} {r : Option Nat × am_L × List Value × am_H} (hs : am_s xs L d (68, ln, a, b, cc) lo st h = some r) : r = (none, lo, .float (UInt32.ofNat a) :: st, h) := (Option.some.inj hs).symm
theorem ai_2 {xs : Nat → Int32} {L d ln a b : Nat} {cc : Int} {lo : am_L} {st : List Value} {h : am_H} {r : Option Nat × am_L × List Value × am_H} (hs : am_s xs L d (2, ln, a, b, cc) lo st h = some r) : ∃ x, am_ld lo a = some (.int x) ∧ r = (none, lo, .int x :: st, h) := by
  have hq : (match (generalizing := false) am_ld lo a with | some (.int x) => some (none, lo, .int x :: st, h) | _ => none) = some r := hs
  clear hs
  split at hq
  · rename_i x e; exact ⟨x, e, (Option.some.inj hq).symm⟩
  · cases hq
theorem ai_3 {xs : Nat → Int32} {L d ln a b : Nat} {cc : Int} {lo : am_L} {st : List Value} {h : am_H} {r : Option Nat × am_L × List Value × am_H} (hs : am_s xs L d (3, ln, a, b, cc) lo st h = some r) : ∃ x, am_ld lo a = some (.long x) ∧ r = (none, lo, .long x :: st, h) := by
  have hq : (match (generalizing := false) am_ld lo a with | some (.long x) => some (none, lo, .long x :: st, h) | _ => none) = some r := hs
  clear hs
  split at hq
  · rename_i x e; exact ⟨x, e, (Option.some.inj hq).symm⟩
  · cases hq
theorem ai_8 {xs : Nat → Int32} {L d ln a b : Nat} {cc : Int} {lo : am_L} {st : List Value} {h : am_H} {r : Option Nat × am_L × List Value × am_H} (hs : am_s xs L d (8, ln, a, b, cc) lo st h = some r) : ∃ x, am_ld lo a = some (.int x) ∧ r = (none, am_st1 lo a (.int (x + Int32.ofInt cc)), st, h) := by
  have hq : (match (generalizing := false) am_ld lo a with | some (.int x) => some (none, am_st1 lo a (.int (x + Int32.ofInt cc)), st, h) | _ => none) = some r := hs
  clear hs
  split at hq
  · rename_i x e; exact ⟨x, e, (Option.some.inj hq).symm⟩
  · cases hq
theorem ai_4 {xs : Nat → Int32} {L d ln a b : Nat} {cc : Int} {lo : am_L} {st : List Value} {h : am_H} {r : Option Nat × am_L × List Value × am_H} (hs : am_s xs L d (4, ln, a, b, cc) lo st h = some r) : ∃ v, am_ld lo a = some v ∧ ((∃ x, v = .ref x) ∨ v = .null ∨ ∃ x, v = .float x) ∧ r = (none, lo, v :: st, h) := by
  have hq : (match (generalizing := false) am_ld lo a with | some (.ref x) => some (none, lo, .ref x :: st, h) | some .null => some (none, lo, .null :: st, h) | some (.float x) => some (none, lo, .float x :: st, h) | _ => none) = some r := hs
  clear hs
  split at hq
  · rename_i x e; exact ⟨_, e, Or.inl ⟨_, rfl⟩, (Option.some.inj hq).symm⟩
  · rename_i e; exact ⟨_, e, Or.inr (Or.inl rfl), (Option.some.inj hq).symm⟩
  · rename_i x e; exact ⟨_, e, Or.inr (Or.inr ⟨_, rfl⟩), (Option.some.inj hq).symm⟩
  · cases hq
theorem ai_5 {xs : Nat → Int32} {L d ln a b : Nat} {cc : Int} {lo : am_L} {st : List Value} {h : am_H} {r : Option Nat × am_L × List Value × am_H} (hs : am_s xs L d (5, ln, a, b, cc) lo st h = some r) : ∃ x st0, st = .int x :: st0 ∧ r = (none, am_st1 lo a (.int x), st0, h) := by
  have hq : (match (generalizing := false) st with | .int x :: st => some (none, am_st1 lo a (.int x), st, h) | _ => none) = some r := hs
  clear hs
  split at hq
  · exact ⟨_, _, rfl, (Option.some.inj hq).symm⟩
  · cases hq
theorem ai_6 {xs : Nat → Int32} {L d ln a b : Nat} {cc : Int} {lo : am_L} {st : List Value} {h : am_H} {r : Option Nat × am_L × List Value × am_H} (hs : am_s xs L d (6, ln, a, b, cc) lo st h = some r) : ∃ x st0, st = .long x :: st0 ∧ r = (none, am_st2 lo a (.long x), st0, h) := by
  have hq : (match (generalizing := false) st with | .long x :: st => some (none, am_st2 lo a (.long x), st, h) | _ => none) = some r := hs
  clear hs
  split at hq
  · exact ⟨_, _, rfl, (Option.some.inj hq).symm⟩
  · cases hq
theorem ai_32 {xs : Nat → Int32} {L d ln a b : Nat} {cc : Int} {lo : am_L} {st : List Value} {h : am_H} {r : Option Nat × am_L × List Value × am_H} (hs : am_s xs L d (32, ln, a, b, cc) lo st h = some r) : ∃ x st0, st = .int x :: st0 ∧ r = (none, lo, .long x.toInt64 :: st0, h) := by
  have hq : (match (generalizing := false) st with | .int x :: st => some (none, lo, .long x.toInt64 :: st, h) | _ => none) = some r := hs
  clear hs
  split at hq
  · exact ⟨_, _, rfl, (Option.some.inj hq).symm⟩
  · cases hq
theorem ai_33 {xs : Nat → Int32} {L d ln a b : Nat} {cc : Int} {lo : am_L} {st : List Value} {h : am_H} {r : Option Nat × am_L × List Value × am_H} (hs : am_s xs L d (33, ln, a, b, cc) lo st h = some r) : ∃ x st0, st = .long x :: st0 ∧ r = (none, lo, .int x.toInt32 :: st0, h) := by
  have hq : (match (generalizing := false) st with | .long x :: st => some (none, lo, .int x.toInt32 :: st, h) | _ => none) = some r := hs
  clear hs
  split at hq
  · exact ⟨_, _, rfl, (Option.some.inj hq).symm⟩
  · cases hq
theorem ai_34 {xs : Nat → Int32} {L d ln a b : Nat} {cc : Int} {lo : am_L} {st : List Value} {h : am_H} {r : Option Nat × am_L × List Value × am_H} (hs : am_s xs L d (34, ln, a, b, cc) lo st h = some r) : ∃ x st0, st = .int x :: st0 ∧ r = (none, lo, .int x.toInt8.toInt32 :: st0, h) := by
  have hq : (match (generalizing := false) st with | .int x :: st => some (none, lo, .int x.toInt8.toInt32 :: st, h) | _ => none) = some r := hs
  clear hs
  split at hq
  · exact ⟨_, _, rfl, (Option.some.inj hq).symm⟩
  · cases hq
theorem ai_35 {xs : Nat → Int32} {L d ln a b : Nat} {cc : Int} {lo : am_L} {st : List Value} {h : am_H} {r : Option Nat × am_L × List Value × am_H} (hs : am_s xs L d (35, ln, a, b, cc) lo st h = some r) : ∃ x st0, st = .int x :: st0 ∧ r = (none, lo, .int (x.toUInt32 % 65536).toInt32 :: st0, h) := by
  have hq : (match (generalizing := false) st with | .int x :: st => some (none, lo, .int (x.toUInt32 % 65536).toInt32 :: st, h) | _ => none) = some r := hs
  clear hs
  split at hq
  · exact ⟨_, _, rfl, (Option.some.inj hq).symm⟩
  · cases hq
theorem ai_7 {xs : Nat → Int32} {L d ln a b : Nat} {cc : Int} {lo : am_L} {st : List Value} {h : am_H} {r : Option Nat × am_L × List Value × am_H} (hs : am_s xs L d (7, ln, a, b, cc) lo st h = some r) : ∃ v st0, st = v :: st0 ∧ ((∃ x, v = .ref x) ∨ v = .null) ∧ r = (none, am_st1 lo a v, st0, h) := by
  have hq : (match (generalizing := false) st with | .ref x :: st => some (none, am_st1 lo a (.ref x), st, h) | .null :: st => some (none, am_st1 lo a .null, st, h) | _ => none) = some r := hs
  clear hs
  split at hq
  · exact ⟨_, _, rfl, Or.inl ⟨_, rfl⟩, (Option.some.inj hq).symm⟩
  · exact ⟨_, _, rfl, Or.inr rfl, (Option.some.inj hq).symm⟩
  · cases hq
theorem ai_9 {xs : Nat → Int32} {L d ln a b : Nat} {cc : Int} {lo : am_L} {st : List Value} {h : am_H} {r : Option Nat × am_L × List Value × am_H} (hs : am_s xs L d (9, ln, a, b, cc) lo st h = some r) : ∃ x y st0 z, st = .int y :: .int x :: st0 ∧ am_bin 9 x y = some z ∧ r = (none, lo, .int z :: st0, h) := by
  have hq : (match (generalizing := false) st with | .int y :: .int x :: st => (match (generalizing := false) am_bin 9 x y with | some z => some (none, lo, .int z :: st, h) | none => none) | _ => none) = some r := hs
  clear hs
  split at hq
  · split at hq
    · exact ⟨_, _, _, _, rfl, by assumption, (Option.some.inj hq).symm⟩
    · cases hq
  · cases hq
theorem ai_10 {xs : Nat → Int32} {L d ln a b : Nat} {cc : Int} {lo : am_L} {st : List Value} {h : am_H} {r : Option Nat × am_L × List Value × am_H} (hs : am_s xs L d (10, ln, a, b, cc) lo st h = some r) : ∃ x y st0 z, st = .int y :: .int x :: st0 ∧ am_bin 10 x y = some z ∧ r = (none, lo, .int z :: st0, h) := by
  have hq : (match (generalizing := false) st with | .int y :: .int x :: st => (match (generalizing := false) am_bin 10 x y with | some z => some (none, lo, .int z :: st, h) | none => none) | _ => none) = some r := hs
  clear hs
  split at hq
  · split at hq
    · exact ⟨_, _, _, _, rfl, by assumption, (Option.some.inj hq).symm⟩
    · cases hq
  · cases hq
theorem ai_11 {xs : Nat → Int32} {L d ln a b : Nat} {cc : Int} {lo : am_L} {st : List Value} {h : am_H} {r : Option Nat × am_L × List Value × am_H} (hs : am_s xs L d (11, ln, a, b, cc) lo st h = some r) : ∃ x y st0 z, st = .int y :: .int x :: st0 ∧ am_bin 11 x y = some z ∧ r = (none, lo, .int z :: st0, h) := by
  have hq : (match (generalizing := false) st with | .int y :: .int x :: st => (match (generalizing := false) am_bin 11 x y with | some z => some (none, lo, .int z :: st, h) | none => none) | _ => none) = some r := hs
  clear hs
  split at hq
  · split at hq
    · exact ⟨_, _, _, _, rfl, by assumption, (Option.some.inj hq).symm⟩
    · cases hq
  · cases hq
theorem ai_12 {xs : Nat → Int32} {L d ln a b : Nat} {cc : Int} {lo : am_L} {st : List Value} {h : am_H} {r : Option Nat × am_L × List Value × am_H} (hs : am_s xs L d (12, ln, a, b, cc) lo st h = some r) : ∃ x y st0 z, st = .int y :: .int x :: st0 ∧ am_bin 12 x y = some z ∧ r = (none, lo, .int z :: st0, h) := by
  have hq : (match (generalizing := false) st with | .int y :: .int x :: st => (match (generalizing := false) am_bin 12 x y with | some z => some (none, lo, .int z :: st, h) | none => none) | _ => none) = some r := hs
  clear hs
  split at hq
  · split at hq
    · exact ⟨_, _, _, _, rfl, by assumption, (Option.some.inj hq).symm⟩
    · cases hq
  · cases hq
theorem ai_13 {xs : Nat → Int32} {L d ln a b : Nat} {cc : Int} {lo : am_L} {st : List Value} {h : am_H} {r : Option Nat × am_L × List Value × am_H} (hs : am_s xs L d (13, ln, a, b, cc) lo st h = some r) : ∃ x y st0 z, st = .int y :: .int x :: st0 ∧ am_bin 13 x y = some z ∧ r = (none, lo, .int z :: st0, h) := by
  have hq : (match (generalizing := false) st with | .int y :: .int x :: st => (match (generalizing := false) am_bin 13 x y with | some z => some (none, lo, .int z :: st, h) | none => none) | _ => none) = some r := hs
  clear hs
  split at hq
  · split at hq
    · exact ⟨_, _, _, _, rfl, by assumption, (Option.some.inj hq).symm⟩
    · cases hq
  · cases hq
theorem ai_15 {xs : Nat → Int32} {L d ln a b : Nat} {cc : Int} {lo : am_L} {st : List Value} {h : am_H} {r : Option Nat × am_L × List Value × am_H} (hs : am_s xs L d (15, ln, a, b, cc) lo st h = some r) : ∃ x y st0 z, st = .int y :: .int x :: st0 ∧ am_bin 15 x y = some z ∧ r = (none, lo, .int z :: st0, h) := by
  have hq : (match (generalizing := false) st with | .int y :: .int x :: st => (match (generalizing := false) am_bin 15 x y with | some z => some (none, lo, .int z :: st, h) | none => none) | _ => none) = some r := hs
  clear hs
  split at hq
  · split at hq
    · exact ⟨_, _, _, _, rfl, by assumption, (Option.some.inj hq).symm⟩
    · cases hq
  · cases hq
theorem ai_16 {xs : Nat → Int32} {L d ln a b : Nat} {cc : Int} {lo : am_L} {st : List Value} {h : am_H} {r : Option Nat × am_L × List Value × am_H} (hs : am_s xs L d (16, ln, a, b, cc) lo st h = some r) : ∃ x y st0 z, st = .int y :: .int x :: st0 ∧ am_bin 16 x y = some z ∧ r = (none, lo, .int z :: st0, h) := by
  have hq : (match (generalizing := false) st with | .int y :: .int x :: st => (match (generalizing := false) am_bin 16 x y with | some z => some (none, lo, .int z :: st, h) | none => none) | _ => none) = some r := hs
  clear hs
  split at hq
  · split at hq
    · exact ⟨_, _, _, _, rfl, by assumption, (Option.some.inj hq).symm⟩
    · cases hq
  · cases hq
theorem ai_17 {xs : Nat → Int32} {L d ln a b : Nat} {cc : Int} {lo : am_L} {st : List Value} {h : am_H} {r : Option Nat × am_L × List Value × am_H} (hs : am_s xs L d (17, ln, a, b, cc) lo st h = some r) : ∃ x y st0 z, st = .int y :: .int x :: st0 ∧ am_bin 17 x y = some z ∧ r = (none, lo, .int z :: st0, h) := by
  have hq : (match (generalizing := false) st with | .int y :: .int x :: st => (match (generalizing := false) am_bin 17 x y with | some z => some (none, lo, .int z :: st, h) | none => none) | _ => none) = some r := hs
  clear hs
  split at hq
  · split at hq
    · exact ⟨_, _, _, _, rfl, by assumption, (Option.some.inj hq).symm⟩
    · cases hq
  · cases hq
theorem ai_18 {xs : Nat → Int32} {L d ln a b : Nat} {cc : Int} {lo : am_L} {st : List Value} {h : am_H} {r : Option Nat × am_L × List Value × am_H} (hs : am_s xs L d (18, ln, a, b, cc) lo st h = some r) : ∃ x y st0 z, st = .int y :: .int x :: st0 ∧ am_bin 18 x y = some z ∧ r = (none, lo, .int z :: st0, h) := by
  have hq : (match (generalizing := false) st with | .int y :: .int x :: st => (match (generalizing := false) am_bin 18 x y with | some z => some (none, lo, .int z :: st, h) | none => none) | _ => none) = some r := hs
  clear hs
  split at hq
  · split at hq
    · exact ⟨_, _, _, _, rfl, by assumption, (Option.some.inj hq).symm⟩
    · cases hq
  · cases hq
theorem ai_19 {xs : Nat → Int32} {L d ln a b : Nat} {cc : Int} {lo : am_L} {st : List Value} {h : am_H} {r : Option Nat × am_L × List Value × am_H} (hs : am_s xs L d (19, ln, a, b, cc) lo st h = some r) : ∃ x y st0 z, st = .int y :: .int x :: st0 ∧ am_bin 19 x y = some z ∧ r = (none, lo, .int z :: st0, h) := by
  have hq : (match (generalizing := false) st with | .int y :: .int x :: st => (match (generalizing := false) am_bin 19 x y with | some z => some (none, lo, .int z :: st, h) | none => none) | _ => none) = some r := hs
  clear hs
  split at hq
  · split at hq
    · exact ⟨_, _, _, _, rfl, by assumption, (Option.some.inj hq).symm⟩
    · cases hq
  · cases hq
theorem ai_20 {xs : Nat → Int32} {L d ln a b : Nat} {cc : Int} {lo : am_L} {st : List Value} {h : am_H} {r : Option Nat × am_L × List Value × am_H} (hs : am_s xs L d (20, ln, a, b, cc) lo st h = some r) : ∃ x y st0 z, st = .int y :: .int x :: st0 ∧ am_bin 20 x y = some z ∧ r = (none, lo, .int z :: st0, h) := by
  have hq : (match (generalizing := false) st with | .int y :: .int x :: st => (match (generalizing := false) am_bin 20 x y with | some z => some (none, lo, .int z :: st, h) | none => none) | _ => none) = some r := hs
  clear hs
  split at hq
  · split at hq
    · exact ⟨_, _, _, _, rfl, by assumption, (Option.some.inj hq).symm⟩
    · cases hq
  · cases hq
theorem ai_21 {xs : Nat → Int32} {L d ln a b : Nat} {cc : Int} {lo : am_L} {st : List Value} {h : am_H} {r : Option Nat × am_L × List Value × am_H} (hs : am_s xs L d (21, ln, a, b, cc) lo st h = some r) : ∃ x y st0 z, st = .long y :: .long x :: st0 ∧ am_lbin 21 x y = some z ∧ r = (none, lo, .long z :: st0, h) := by
  have hq : (match (generalizing := false) st with | .long y :: .long x :: st => (match (generalizing := false) am_lbin 21 x y with | some z => some (none, lo, .long z :: st, h) | none => none) | _ => none) = some r := hs
  clear hs
  split at hq
  · split at hq
    · exact ⟨_, _, _, _, rfl, by assumption, (Option.some.inj hq).symm⟩
    · cases hq
  · cases hq
theorem ai_22 {xs : Nat → Int32} {L d ln a b : Nat} {cc : Int} {lo : am_L} {st : List Value} {h : am_H} {r : Option Nat × am_L × List Value × am_H} (hs : am_s xs L d (22, ln, a, b, cc) lo st h = some r) : ∃ x y st0 z, st = .long y :: .long x :: st0 ∧ am_lbin 22 x y = some z ∧ r = (none, lo, .long z :: st0, h) := by
  have hq : (match (generalizing := false) st with | .long y :: .long x :: st => (match (generalizing := false) am_lbin 22 x y with | some z => some (none, lo, .long z :: st, h) | none => none) | _ => none) = some r := hs
  clear hs
  split at hq
  · split at hq
    · exact ⟨_, _, _, _, rfl, by assumption, (Option.some.inj hq).symm⟩
    · cases hq
  · cases hq
theorem ai_23 {xs : Nat → Int32} {L d ln a b : Nat} {cc : Int} {lo : am_L} {st : List Value} {h : am_H} {r : Option Nat × am_L × List Value × am_H} (hs : am_s xs L d (23, ln, a, b, cc) lo st h = some r) : ∃ x y st0 z, st = .long y :: .long x :: st0 ∧ am_lbin 23 x y = some z ∧ r = (none, lo, .long z :: st0, h) := by
  have hq : (match (generalizing := false) st with | .long y :: .long x :: st => (match (generalizing := false) am_lbin 23 x y with | some z => some (none, lo, .long z :: st, h) | none => none) | _ => none) = some r := hs
  clear hs
  split at hq
  · split at hq
    · exact ⟨_, _, _, _, rfl, by assumption, (Option.some.inj hq).symm⟩
    · cases hq
  · cases hq
theorem ai_24 {xs : Nat → Int32} {L d ln a b : Nat} {cc : Int} {lo : am_L} {st : List Value} {h : am_H} {r : Option Nat × am_L × List Value × am_H} (hs : am_s xs L d (24, ln, a, b, cc) lo st h = some r) : ∃ x y st0 z, st = .long y :: .long x :: st0 ∧ am_lbin 24 x y = some z ∧ r = (none, lo, .long z :: st0, h) := by
  have hq : (match (generalizing := false) st with | .long y :: .long x :: st => (match (generalizing := false) am_lbin 24 x y with | some z => some (none, lo, .long z :: st, h) | none => none) | _ => none) = some r := hs
  clear hs
  split at hq
  · split at hq
    · exact ⟨_, _, _, _, rfl, by assumption, (Option.some.inj hq).symm⟩
    · cases hq
  · cases hq
theorem ai_25 {xs : Nat → Int32} {L d ln a b : Nat} {cc : Int} {lo : am_L} {st : List Value} {h : am_H} {r : Option Nat × am_L × List Value × am_H} (hs : am_s xs L d (25, ln, a, b, cc) lo st h = some r) : ∃ x y st0 z, st = .long y :: .long x :: st0 ∧ am_lbin 25 x y = some z ∧ r = (none, lo, .long z :: st0, h) := by
  have hq : (match (generalizing := false) st with | .long y :: .long x :: st => (match (generalizing := false) am_lbin 25 x y with | some z => some (none, lo, .long z :: st, h) | none => none) | _ => none) = some r := hs
  clear hs
  split at hq
  · split at hq
    · exact ⟨_, _, _, _, rfl, by assumption, (Option.some.inj hq).symm⟩
    · cases hq
  · cases hq
theorem ai_26 {xs : Nat → Int32} {L d ln a b : Nat} {cc : Int} {lo : am_L} {st : List Value} {h : am_H} {r : Option Nat × am_L × List Value × am_H} (hs : am_s xs L d (26, ln, a, b, cc) lo st h = some r) : ∃ x y st0 z, st = .long y :: .long x :: st0 ∧ am_lbin 26 x y = some z ∧ r = (none, lo, .long z :: st0, h) := by
  have hq : (match (generalizing := false) st with | .long y :: .long x :: st => (match (generalizing := false) am_lbin 26 x y with | some z => some (none, lo, .long z :: st, h) | none => none) | _ => none) = some r := hs
  clear hs
  split at hq
  · split at hq
    · exact ⟨_, _, _, _, rfl, by assumption, (Option.some.inj hq).symm⟩
    · cases hq
  · cases hq
theorem ai_27 {xs : Nat → Int32} {L d ln a b : Nat} {cc : Int} {lo : am_L} {st : List Value} {h : am_H} {r : Option Nat × am_L × List Value × am_H} (hs : am_s xs L d (27, ln, a, b, cc) lo st h = some r) : ∃ x y st0 z, st = .long y :: .long x :: st0 ∧ am_lbin 27 x y = some z ∧ r = (none, lo, .long z :: st0, h) := by
  have hq : (match (generalizing := false) st with | .long y :: .long x :: st => (match (generalizing := false) am_lbin 27 x y with | some z => some (none, lo, .long z :: st, h) | none => none) | _ => none) = some r := hs
  clear hs
  split at hq
  · split at hq
    · exact ⟨_, _, _, _, rfl, by assumption, (Option.some.inj hq).symm⟩
    · cases hq
  · cases hq
theorem ai_28 {xs : Nat → Int32} {L d ln a b : Nat} {cc : Int} {lo : am_L} {st : List Value} {h : am_H} {r : Option Nat × am_L × List Value × am_H} (hs : am_s xs L d (28, ln, a, b, cc) lo st h = some r) : ∃ x y st0 z, st = .int y :: .long x :: st0 ∧ am_lsh 28 x y = some z ∧ r = (none, lo, .long z :: st0, h) := by
  have hq : (match (generalizing := false) st with | .int y :: .long x :: st => (match (generalizing := false) am_lsh 28 x y with | some z => some (none, lo, .long z :: st, h) | none => none) | _ => none) = some r := hs
  clear hs
  split at hq
  · split at hq
    · exact ⟨_, _, _, _, rfl, by assumption, (Option.some.inj hq).symm⟩
    · cases hq
  · cases hq
theorem ai_29 {xs : Nat → Int32} {L d ln a b : Nat} {cc : Int} {lo : am_L} {st : List Value} {h : am_H} {r : Option Nat × am_L × List Value × am_H} (hs : am_s xs L d (29, ln, a, b, cc) lo st h = some r) : ∃ x y st0 z, st = .int y :: .long x :: st0 ∧ am_lsh 29 x y = some z ∧ r = (none, lo, .long z :: st0, h) := by
  have hq : (match (generalizing := false) st with | .int y :: .long x :: st => (match (generalizing := false) am_lsh 29 x y with | some z => some (none, lo, .long z :: st, h) | none => none) | _ => none) = some r := hs
  clear hs
  split at hq
  · split at hq
    · exact ⟨_, _, _, _, rfl, by assumption, (Option.some.inj hq).symm⟩
    · cases hq
  · cases hq
theorem ai_30 {xs : Nat → Int32} {L d ln a b : Nat} {cc : Int} {lo : am_L} {st : List Value} {h : am_H} {r : Option Nat × am_L × List Value × am_H} (hs : am_s xs L d (30, ln, a, b, cc) lo st h = some r) : ∃ x y st0 z, st = .int y :: .long x :: st0 ∧ am_lsh 30 x y = some z ∧ r = (none, lo, .long z :: st0, h) := by
  have hq : (match (generalizing := false) st with | .int y :: .long x :: st => (match (generalizing := false) am_lsh 30 x y with | some z => some (none, lo, .long z :: st, h) | none => none) | _ => none) = some r := hs
  clear hs
  split at hq
  · split at hq
    · exact ⟨_, _, _, _, rfl, by assumption, (Option.some.inj hq).symm⟩
    · cases hq
  · cases hq
theorem ai_31 {xs : Nat → Int32} {L d ln a b : Nat} {cc : Int} {lo : am_L} {st : List Value} {h : am_H} {r : Option Nat × am_L × List Value × am_H} (hs : am_s xs L d (31, ln, a, b, cc) lo st h = some r) : ∃ x y st0, st = .long y :: .long x :: st0 ∧ r = (none, lo, .int (lg_cmp x y) :: st0, h) := by
  have hq : (match (generalizing := false) st with | .long y :: .long x :: st => some (none, lo, .int (lg_cmp x y) :: st, h) | _ => none) = some r := hs
  clear hs
  split at hq
  · exact ⟨_, _, _, rfl, (Option.some.inj hq).symm⟩
  · cases hq
theorem ai_36 {xs : Nat → Int32} {L d ln a b : Nat} {cc : Int} {lo : am_L} {st : List Value} {h : am_H} {r : Option Nat × am_L × List Value × am_H} (hs : am_s xs L d (36, ln, a, b, cc) lo st h = some r) : ∃ v st0, st = v :: st0 ∧ v.category = 1 ∧ r = (none, lo, v :: v :: st0, h) := by
  have hq : (match (generalizing := false) st with | v :: st => if v.category = 1 then some (none, lo, v :: v :: st, h) else none | _ => none) = some r := hs
  clear hs
  split at hq
  · split at hq
    · exact ⟨_, _, rfl, by assumption, (Option.some.inj hq).symm⟩
    · cases hq
  · cases hq
theorem ai_37 {xs : Nat → Int32} {L d ln a b : Nat} {cc : Int} {lo : am_L} {st : List Value} {h : am_H} {r : Option Nat × am_L × List Value × am_H} (hs : am_s xs L d (37, ln, a, b, cc) lo st h = some r) : ∃ v st0, st = v :: st0 ∧ v.category = 1 ∧ r = (none, lo, st0, h) := by
  have hq : (match (generalizing := false) st with | v :: st => if v.category = 1 then some (none, lo, st, h) else none | _ => none) = some r := hs
  clear hs
  split at hq
  · split at hq
    · exact ⟨_, _, rfl, by assumption, (Option.some.inj hq).symm⟩
    · cases hq
  · cases hq
theorem ai_38 {xs : Nat → Int32} {L d ln a b : Nat} {cc : Int} {lo : am_L} {st : List Value} {h : am_H} {r : Option Nat × am_L × List Value × am_H} (hs : am_s xs L d (38, ln, a, b, cc) lo st h = some r) : ∃ v w st0, st = v :: w :: st0 ∧ v.category = 1 ∧ w.category = 1 ∧ r = (none, lo, v :: w :: v :: w :: st0, h) := by
  have hq : (match (generalizing := false) st with | v :: w :: st => if v.category = 1 ∧ w.category = 1 then some (none, lo, v :: w :: v :: w :: st, h) else none | _ => none) = some r := hs
  clear hs
  split at hq
  · split at hq
    · rename_i q; exact ⟨_, _, _, rfl, q.1, q.2, (Option.some.inj hq).symm⟩
    · cases hq
  · cases hq
theorem ai_39 {xs : Nat → Int32} {L d ln a b : Nat} {cc : Int} {lo : am_L} {st : List Value} {h : am_H} {r : Option Nat × am_L × List Value × am_H} (hs : am_s xs L d (39, ln, a, b, cc) lo st h = some r) : ∃ x st0, st = .int x :: st0 ∧ r = am_br (am_cndD b x 0) a lo st0 h := by
  have hq : (match (generalizing := false) st with | .int x :: st => some (am_br (am_cndD b x 0) a lo st h) | _ => none) = some r := hs
  clear hs
  split at hq
  · exact ⟨_, _, rfl, (Option.some.inj hq).symm⟩
  · cases hq
theorem ai_40 {xs : Nat → Int32} {L d ln a b : Nat} {cc : Int} {lo : am_L} {st : List Value} {h : am_H} {r : Option Nat × am_L × List Value × am_H} (hs : am_s xs L d (40, ln, a, b, cc) lo st h = some r) : ∃ x y st0, st = .int y :: .int x :: st0 ∧ r = am_br (am_cndD b x y) a lo st0 h := by
  have hq : (match (generalizing := false) st with | .int y :: .int x :: st => some (am_br (am_cndD b x y) a lo st h) | _ => none) = some r := hs
  clear hs
  split at hq
  · exact ⟨_, _, _, rfl, (Option.some.inj hq).symm⟩
  · cases hq
theorem ai_42 {xs : Nat → Int32} {L d ln a b : Nat} {cc : Int} {lo : am_L} {st : List Value} {h : am_H} {r : Option Nat × am_L × List Value × am_H} (hs : am_s xs L d (42, ln, a, b, cc) lo st h = some r) : (∃ st0, st = .null :: st0 ∧ r = (some a, lo, st0, h)) ∨ ∃ x st0, st = .ref x :: st0 ∧ r = (none, lo, st0, h) := by
  have hq : (match (generalizing := false) st with | .null :: st => some (some a, lo, st, h) | .ref _ :: st => some (none, lo, st, h) | _ => none) = some r := hs
  clear hs
  split at hq
  · exact Or.inl ⟨_, rfl, (Option.some.inj hq).symm⟩
  · exact Or.inr ⟨_, _, rfl, (Option.some.inj hq).symm⟩
  · cases hq
theorem ai_43 {xs : Nat → Int32} {L d ln a b : Nat} {cc : Int} {lo : am_L} {st : List Value} {h : am_H} {r : Option Nat × am_L × List Value × am_H} (hs : am_s xs L d (43, ln, a, b, cc) lo st h = some r) : (∃ st0, st = .null :: st0 ∧ r = (none, lo, st0, h)) ∨ ∃ x st0, st = .ref x :: st0 ∧ r = (some a, lo, st0, h) := by
  have hq : (match (generalizing := false) st with | .null :: st => some (none, lo, st, h) | .ref _ :: st => some (some a, lo, st, h) | _ => none) = some r := hs
  clear hs
  split at hq
  · exact Or.inl ⟨_, rfl, (Option.some.inj hq).symm⟩
  · exact Or.inr ⟨_, _, rfl, (Option.some.inj hq).symm⟩
  · cases hq
theorem ai_44 {xs : Nat → Int32} {L d ln a b : Nat} {cc : Int} {lo : am_L} {st : List Value} {h : am_H} {r : Option Nat × am_L × List Value × am_H} (hs : am_s xs L d (44, ln, a, b, cc) lo st h = some r) : ∃ x st0, st = .int x :: st0 ∧ r = (some (am_sw (am_swt a) x), lo, st0, h) := by
  have hq : (match (generalizing := false) st with | .int x :: st => some (some (am_sw (am_swt a) x), lo, st, h) | _ => none) = some r := hs
  clear hs
  split at hq
  · exact ⟨_, _, rfl, (Option.some.inj hq).symm⟩
  · cases hq
theorem ai_45 {xs : Nat → Int32} {L d ln a b : Nat} {cc : Int} {lo : am_L} {st : List Value} {h : am_H} {r : Option Nat × am_L × List Value × am_H} (hs : am_s xs L d (45, ln, a, b, cc) lo st h = some r) : ∃ q fs v st0, st = .ref q :: st0 ∧ h.2.2 q = some (.inr (b, fs)) ∧ fs[a]? = some v ∧ r = (none, lo, v :: st0, h) := by
  have hq : (match (generalizing := false) st with | .ref r :: st => (match (generalizing := false) h.2.2 r with | some (.inr (ci, fs)) => if ci = b then (match (generalizing := false) fs[a]? with | some v => some (none, lo, v :: st, h) | none => none) else none | _ => none) | _ => none) = some r := hs
  clear hs
  split at hq
  · split at hq
    · split at hq
      · rename_i e; subst e
        split at hq
        · exact ⟨_, _, _, _, rfl, by assumption, by assumption, (Option.some.inj hq).symm⟩
        · cases hq
      · cases hq
    · cases hq
  · cases hq
theorem ai_46 {xs : Nat → Int32} {L d ln a b : Nat} {cc : Int} {lo : am_L} {st : List Value} {h : am_H} {r : Option Nat × am_L × List Value × am_H} (hs : am_s xs L d (46, ln, a, b, cc) lo st h = some r) : ∃ q fs v st0, st = v :: .ref q :: st0 ∧ h.2.2 q = some (.inr (b, fs)) ∧ a < fs.length ∧ am_fit (am_fty b a) v = true ∧ r = (none, lo, st0, am_set h q (.inr (b, fs.set a v))) := by
  have hq : (match (generalizing := false) st with | v :: .ref r :: st => (match (generalizing := false) h.2.2 r with | some (.inr (ci, fs)) => if ci = b ∧ a < fs.length ∧ am_fit (am_fty b a) v = true then some (none, lo, st, am_set h r (.inr (ci, fs.set a v))) else none | _ => none) | _ => none) = some r := hs
  clear hs
  split at hq
  · split at hq
    · split at hq
      · rename_i e; obtain ⟨e, e1, e2⟩ := e; subst e
        exact ⟨_, _, _, _, rfl, by assumption, e1, e2, (Option.some.inj hq).symm⟩
      · cases hq
    · cases hq
  · cases hq
theorem ai_47 {xs : Nat → Int32} {L d ln a b : Nat} {cc : Int} {lo : am_L} {st : List Value} {h : am_H} {r : Option Nat × am_L × List Value × am_H} (hs : am_s xs L d (47, ln, a, b, cc) lo st h = some r) : ∃ q fs v st0, st = v :: .ref q :: st0 ∧ h.2.2 q = some (.inr (b, fs)) ∧ a < fs.length ∧ am_fit (am_fty b a) v = true ∧ r = (none, lo, st0, am_set h q (.inr (b, fs.set a v))) := by
  have hq : (match (generalizing := false) st with | v :: .ref r :: st => (match (generalizing := false) h.2.2 r with | some (.inr (ci, fs)) => if ci = b ∧ a < fs.length ∧ am_fit (am_fty b a) v = true then some (none, lo, st, am_set h r (.inr (ci, fs.set a v))) else none | _ => none) | _ => none) = some r := hs
  clear hs
  split at hq
  · split at hq
    · split at hq
      · rename_i e; obtain ⟨e, e1, e2⟩ := e; subst e
        exact ⟨_, _, _, _, rfl, by assumption, e1, e2, (Option.some.inj hq).symm⟩
      · cases hq
    · cases hq
  · cases hq
theorem ai_49 {xs : Nat → Int32} {L d ln a b : Nat} {cc : Int} {lo : am_L} {st : List Value} {h : am_H} {r : Option Nat × am_L × List Value × am_H} (hs : am_s xs L d (49, ln, a, b, cc) lo st h = some r) : ∃ j q n f st0, st = .int j :: .ref q :: st0 ∧ h.2.2 q = some (.inl (1, n, .inr (.inl f))) ∧ am_inB j n = true ∧ r = (none, lo, .long (f j.toNatClampNeg) :: st0, h) := by
  have hq : (match (generalizing := false) st with | .int j :: .ref r :: st => (match (generalizing := false) h.2.2 r with | some (.inl (1, n, .inr (.inl f))) => if am_inB j n = true then some (none, lo, .long (f j.toNatClampNeg) :: st, h) else none | _ => none) | _ => none) = some r := hs
  clear hs
  split at hq
  · split at hq
    · split at hq
      · exact ⟨_, _, _, _, _, rfl, by assumption, by assumption, (Option.some.inj hq).symm⟩
      · cases hq
    · cases hq
  · cases hq
theorem ai_50 {xs : Nat → Int32} {L d ln a b : Nat} {cc : Int} {lo : am_L} {st : List Value} {h : am_H} {r : Option Nat × am_L × List Value × am_H} (hs : am_s xs L d (50, ln, a, b, cc) lo st h = some r) : ∃ j q n f st0, st = .int j :: .ref q :: st0 ∧ h.2.2 q = some (.inl (2, n, .inl f)) ∧ am_inB j n = true ∧ r = (none, lo, .int (f j.toNatClampNeg) :: st0, h) := by
  have hq : (match (generalizing := false) st with | .int j :: .ref r :: st => (match (generalizing := false) h.2.2 r with | some (.inl (2, n, .inl f)) => if am_inB j n = true then some (none, lo, .int (f j.toNatClampNeg) :: st, h) else none | _ => none) | _ => none) = some r := hs
  clear hs
  split at hq
  · split at hq
    · split at hq
      · exact ⟨_, _, _, _, _, rfl, by assumption, by assumption, (Option.some.inj hq).symm⟩
      · cases hq
    · cases hq
  · cases hq
theorem ai_51 {xs : Nat → Int32} {L d ln a b : Nat} {cc : Int} {lo : am_L} {st : List Value} {h : am_H} {r : Option Nat × am_L × List Value × am_H} (hs : am_s xs L d (51, ln, a, b, cc) lo st h = some r) : ∃ j q n f st0, st = .int j :: .ref q :: st0 ∧ h.2.2 q = some (.inl (3, n, .inr (.inr f))) ∧ am_inB j n = true ∧ r = (none, lo, am_rf (f j.toNatClampNeg) :: st0, h) := by
  have hq : (match (generalizing := false) st with | .int j :: .ref r :: st => (match (generalizing := false) h.2.2 r with | some (.inl (3, n, .inr (.inr f))) => if am_inB j n = true then some (none, lo, am_rf (f j.toNatClampNeg) :: st, h) else none | _ => none) | _ => none) = some r := hs
  clear hs
  split at hq
  · split at hq
    · split at hq
      · exact ⟨_, _, _, _, _, rfl, by assumption, by assumption, (Option.some.inj hq).symm⟩
      · cases hq
    · cases hq
  · cases hq
theorem ai_48 {xs : Nat → Int32} {L d ln a b : Nat} {cc : Int} {lo : am_L} {st : List Value} {h : am_H} {r : Option Nat × am_L × List Value × am_H} (hs : am_s xs L d (48, ln, a, b, cc) lo st h = some r) : (∃ j q n f st0, st = .int j :: .ref q :: st0 ∧ h.2.2 q = some (.inl (0, n, .inl f)) ∧ am_inB j n = true ∧ r = (none, lo, .int (f j.toNatClampNeg) :: st0, h)) ∨ ∃ j st0, st = .int j :: .float 100 :: st0 ∧ am_inB j L = true ∧ r = (none, lo, .int (xs j.toNatClampNeg) :: st0, h) := by
  have hq : (match (generalizing := false) st with | .int j :: .ref r :: st => (match (generalizing := false) h.2.2 r with | some (.inl (0, n, .inl f)) => if am_inB j n = true then some (none, lo, .int (f j.toNatClampNeg) :: st, h) else none | _ => none) | .int j :: .float u :: st => if u = 100 ∧ am_inB j L = true then some (none, lo, .int (xs j.toNatClampNeg) :: st, h) else none | _ => none) = some r := hs
  clear hs
  split at hq
  · split at hq
    · split at hq
      · exact Or.inl ⟨_, _, _, _, _, rfl, by assumption, by assumption, (Option.some.inj hq).symm⟩
      · cases hq
    · cases hq
  · split at hq
    · rename_i e; obtain ⟨e, e1⟩ := e; subst e; exact Or.inr ⟨_, _, rfl, e1, (Option.some.inj hq).symm⟩
    · cases hq
  · cases hq
theorem ai_52 {xs : Nat → Int32} {L d ln a b : Nat} {cc : Int} {lo : am_L} {st : List Value} {h : am_H} {r : Option Nat × am_L × List Value × am_H} (hs : am_s xs L d (52, ln, a, b, cc) lo st h = some r) : ∃ x j q n f st0, st = .int x :: .int j :: .ref q :: st0 ∧ h.2.2 q = some (.inl (0, n, .inl f)) ∧ am_inB j n = true ∧ r = (none, lo, st0, am_set h q (.inl (0, n, .inl (upd f j.toNatClampNeg x)))) := by
  have hq : (match (generalizing := false) st with | .int x :: .int j :: .ref r :: st => (match (generalizing := false) h.2.2 r with | some (.inl (0, n, .inl f)) => if am_inB j n = true then some (none, lo, st, am_set h r (.inl (0, n, .inl (upd f j.toNatClampNeg x)))) else none | _ => none) | _ => none) = some r := hs
  clear hs
  split at hq
  · split at hq
    · split at hq
      · exact ⟨_, _, _, _, _, _, rfl, by assumption, by assumption, (Option.some.inj hq).symm⟩
      · cases hq
    · cases hq
  · cases hq
theorem ai_53 {xs : Nat → Int32} {L d ln a b : Nat} {cc : Int} {lo : am_L} {st : List Value} {h : am_H} {r : Option Nat × am_L × List Value × am_H} (hs : am_s xs L d (53, ln, a, b, cc) lo st h = some r) : ∃ x j q n f st0, st = .long x :: .int j :: .ref q :: st0 ∧ h.2.2 q = some (.inl (1, n, .inr (.inl f))) ∧ am_inB j n = true ∧ r = (none, lo, st0, am_set h q (.inl (1, n, .inr (.inl (vp_updL f j.toNatClampNeg x))))) := by
  have hq : (match (generalizing := false) st with | .long x :: .int j :: .ref r :: st => (match (generalizing := false) h.2.2 r with | some (.inl (1, n, .inr (.inl f))) => if am_inB j n = true then some (none, lo, st, am_set h r (.inl (1, n, .inr (.inl (vp_updL f j.toNatClampNeg x))))) else none | _ => none) | _ => none) = some r := hs
  clear hs
  split at hq
  · split at hq
    · split at hq
      · exact ⟨_, _, _, _, _, _, rfl, by assumption, by assumption, (Option.some.inj hq).symm⟩
      · cases hq
    · cases hq
  · cases hq
theorem ai_54 {xs : Nat → Int32} {L d ln a b : Nat} {cc : Int} {lo : am_L} {st : List Value} {h : am_H} {r : Option Nat × am_L × List Value × am_H} (hs : am_s xs L d (54, ln, a, b, cc) lo st h = some r) : ∃ x j q n f st0, st = .int x :: .int j :: .ref q :: st0 ∧ h.2.2 q = some (.inl (2, n, .inl f)) ∧ am_inB j n = true ∧ r = (none, lo, st0, am_set h q (.inl (2, n, .inl (upd f j.toNatClampNeg (vp_nar .byte x))))) := by
  have hq : (match (generalizing := false) st with | .int x :: .int j :: .ref r :: st => (match (generalizing := false) h.2.2 r with | some (.inl (2, n, .inl f)) => if am_inB j n = true then some (none, lo, st, am_set h r (.inl (2, n, .inl (upd f j.toNatClampNeg (vp_nar .byte x))))) else none | _ => none) | _ => none) = some r := hs
  clear hs
  split at hq
  · split at hq
    · split at hq
      · exact ⟨_, _, _, _, _, _, rfl, by assumption, by assumption, (Option.some.inj hq).symm⟩
      · cases hq
    · cases hq
  · cases hq
theorem ai_55 {xs : Nat → Int32} {L d ln a b : Nat} {cc : Int} {lo : am_L} {st : List Value} {h : am_H} {r : Option Nat × am_L × List Value × am_H} (hs : am_s xs L d (55, ln, a, b, cc) lo st h = some r) : ∃ v j q n f fs st0, st = .ref v :: .int j :: .ref q :: st0 ∧ h.2.2 q = some (.inl (3, n, .inr (.inr f))) ∧ h.2.2 v = some (.inr (1, fs)) ∧ am_inB j n = true ∧ r = (none, lo, st0, am_set h q (.inl (3, n, .inr (.inr (va_up f j.toNatClampNeg (some v)))))) := by
  have hq : (match (generalizing := false) st with | .ref v :: .int j :: .ref r :: st => (match (generalizing := false) h.2.2 r, h.2.2 v with | some (.inl (3, n, .inr (.inr f))), some (.inr (1, _)) => if am_inB j n = true then some (none, lo, st, am_set h r (.inl (3, n, .inr (.inr (va_up f j.toNatClampNeg (some v)))))) else none | _, _ => none) | _ => none) = some r := hs
  clear hs
  split at hq
  · split at hq
    · split at hq
      · exact ⟨_, _, _, _, _, _, _, rfl, by assumption, by assumption, by assumption, (Option.some.inj hq).symm⟩
      · cases hq
    · cases hq
  · cases hq
theorem ai_56 {xs : Nat → Int32} {L d ln a b : Nat} {cc : Int} {lo : am_L} {st : List Value} {h : am_H} {r : Option Nat × am_L × List Value × am_H} (hs : am_s xs L d (56, ln, a, b, cc) lo st h = some r) : (∃ q tag n f st0, st = .ref q :: st0 ∧ h.2.2 q = some (.inl (tag, n, f)) ∧ tag ≤ 3 ∧ r = (none, lo, .int (Int32.ofNat n) :: st0, h)) ∨ ∃ st0, st = .float 100 :: st0 ∧ r = (none, lo, .int (Int32.ofNat L) :: st0, h) := by
  have hq : (match (generalizing := false) st with | .ref r :: st => (match (generalizing := false) h.2.2 r with | some (.inl (tag, n, _)) => if tag ≤ 3 then some (none, lo, .int (Int32.ofNat n) :: st, h) else none | _ => none) | .float u :: st => if u = 100 then some (none, lo, .int (Int32.ofNat L) :: st, h) else none | _ => none) = some r := hs
  clear hs
  split at hq
  · split at hq
    · split at hq
      · exact Or.inl ⟨_, _, _, _, _, rfl, by assumption, by assumption, (Option.some.inj hq).symm⟩
      · cases hq
    · cases hq
  · split at hq
    · rename_i e; subst e; exact Or.inr ⟨_, rfl, (Option.some.inj hq).symm⟩
    · cases hq
  · cases hq
theorem ai_57 {xs : Nat → Int32} {L d ln a b : Nat} {cc : Int} {lo : am_L} {st : List Value} {h : am_H} {r : Option Nat × am_L × List Value × am_H} (hs : am_s xs L d (57, ln, a, b, cc) lo st h = some r) : ∃ n st0, st = .int n :: st0 ∧ (a ≤ 2 ∧ ¬ n < 0 ∧ n.toNatClampNeg ≤ 67108864) ∧ r = (none, lo, .ref h.1 :: st0, am_new h (.inl (a, n.toNatClampNeg, am_arr0 a)) n.toNatClampNeg) := by
  have hq : (match (generalizing := false) st with | .int n :: st => if a ≤ 2 ∧ ¬ n < 0 ∧ n.toNatClampNeg ≤ 67108864 then some (none, lo, .ref h.1 :: st, am_new h (.inl (a, n.toNatClampNeg, am_arr0 a)) n.toNatClampNeg) else none | _ => none) = some r := hs
  clear hs
  split at hq
  · split at hq
    · exact ⟨_, _, rfl, by assumption, (Option.some.inj hq).symm⟩
    · cases hq
  · cases hq
theorem ai_58 {xs : Nat → Int32} {L d ln a b : Nat} {cc : Int} {lo : am_L} {st : List Value} {h : am_H} {r : Option Nat × am_L × List Value × am_H} (hs : am_s xs L d (58, ln, a, b, cc) lo st h = some r) : ∃ n st0, st = .int n :: st0 ∧ (¬ n < 0 ∧ n.toNatClampNeg ≤ 67108864) ∧ r = (none, lo, .ref h.1 :: st0, am_new h (.inl (3, n.toNatClampNeg, am_arr0 3)) n.toNatClampNeg) := by
  have hq : (match (generalizing := false) st with | .int n :: st => if ¬ n < 0 ∧ n.toNatClampNeg ≤ 67108864 then some (none, lo, .ref h.1 :: st, am_new h (.inl (3, n.toNatClampNeg, am_arr0 3)) n.toNatClampNeg) else none | _ => none) = some r := hs
  clear hs
  split at hq
  · split at hq
    · exact ⟨_, _, rfl, by assumption, (Option.some.inj hq).symm⟩
    · cases hq
  · cases hq
theorem ai_61 {xs : Nat → Int32} {L d ln a b : Nat} {cc : Int} {lo : am_L} {st : List Value} {h : am_H} {r : Option Nat × am_L × List Value × am_H} (hs : am_s xs L d (61, ln, a, b, cc) lo st h = some r) : ∃ q st0, st = .ref q :: st0 ∧ (1 ≤ d ∧ am_cats st0 ≤ 8) ∧ r = (none, lo, st0, h) := by
  have hq : (match (generalizing := false) st with | .ref _ :: st => if 1 ≤ d ∧ am_cats st ≤ 8 then some (none, lo, st, h) else none | _ => none) = some r := hs
  clear hs
  split at hq
  · split at hq
    · exact ⟨_, _, rfl, by assumption, (Option.some.inj hq).symm⟩
    · cases hq
  · cases hq
theorem ai_69 {xs : Nat → Int32} {L d ln a b : Nat} {cc : Int} {lo : am_L} {st : List Value} {h : am_H} {r : Option Nat × am_L × List Value × am_H} (hs : am_s xs L d (69, ln, a, b, cc) lo st h = some r) : ∃ u st0, st = .float u :: st0 ∧ (u.toNat < 13 ∧ 3 ≤ d ∧ am_cats st0 ≤ 8) ∧ r = (none, lo, .int (nI (am_str.getD u.toNat []).length) :: st0, h) := by
  have hq : (match (generalizing := false) st with | .float u :: st => if u.toNat < 13 ∧ 3 ≤ d ∧ am_cats st ≤ 8 then some (none, lo, .int (nI (am_str.getD u.toNat []).length) :: st, h) else none | _ => none) = some r := hs
  clear hs
  split at hq
  · split at hq
    · exact ⟨_, _, rfl, by assumption, (Option.some.inj hq).symm⟩
    · cases hq
  · cases hq
theorem ai_70 {xs : Nat → Int32} {L d ln a b : Nat} {cc : Int} {lo : am_L} {st : List Value} {h : am_H} {r : Option Nat × am_L × List Value × am_H} (hs : am_s xs L d (70, ln, a, b, cc) lo st h = some r) : ∃ j u st0, st = .int j :: .float u :: st0 ∧ (u.toNat < 13 ∧ 3 ≤ d ∧ am_cats st0 ≤ 8 ∧ am_inB j (am_str.getD u.toNat []).length = true) ∧ r = (none, lo, .int ((am_str.getD u.toNat []).getD j.toNatClampNeg 0) :: st0, h) := by
  have hq : (match (generalizing := false) st with | .int j :: .float u :: st => if u.toNat < 13 ∧ 3 ≤ d ∧ am_cats st ≤ 8 ∧ am_inB j (am_str.getD u.toNat []).length = true then some (none, lo, .int ((am_str.getD u.toNat []).getD j.toNatClampNeg 0) :: st, h) else none | _ => none) = some r := hs
  clear hs
  split at hq
  · split at hq
    · exact ⟨_, _, _, rfl, by assumption, (Option.some.inj hq).symm⟩
    · cases hq
  · cases hq
theorem ai_71 {xs : Nat → Int32} {L d ln a b : Nat} {cc : Int} {lo : am_L} {st : List Value} {h : am_H} {r : Option Nat × am_L × List Value × am_H} (hs : am_s xs L d (71, ln, a, b, cc) lo st h = some r) : ∃ x y st0, st = .int y :: .int x :: st0 ∧ (1 ≤ d ∧ am_cats st0 ≤ 8) ∧ r = (none, lo, .int (if x < y then y else x) :: st0, h) := by
  have hq : (match (generalizing := false) st with | .int y :: .int x :: st => if 1 ≤ d ∧ am_cats st ≤ 8 then some (none, lo, .int (if x < y then y else x) :: st, h) else none | _ => none) = some r := hs
  clear hs
  split at hq
  · split at hq
    · exact ⟨_, _, _, rfl, by assumption, (Option.some.inj hq).symm⟩
    · cases hq
  · cases hq
theorem ai_74 {xs : Nat → Int32} {L d ln a b : Nat} {cc : Int} {lo : am_L} {st : List Value} {h : am_H} {r : Option Nat × am_L × List Value × am_H} (hs : am_s xs L d (74, ln, a, b, cc) lo st h = some r) : ∃ x y st0, st = .int y :: .int x :: st0 ∧ (1 ≤ d ∧ am_cats st0 ≤ 8) ∧ r = (none, lo, .int (if y < x then y else x) :: st0, h) := by
  have hq : (match (generalizing := false) st with | .int y :: .int x :: st => if 1 ≤ d ∧ am_cats st ≤ 8 then some (none, lo, .int (if y < x then y else x) :: st, h) else none | _ => none) = some r := hs
  clear hs
  split at hq
  · split at hq
    · exact ⟨_, _, _, rfl, by assumption, (Option.some.inj hq).symm⟩
    · cases hq
  · cases hq
theorem am_br_h (c : Bool) (t : Nat) (l : am_L) (st : List Value) (h : am_H) : (am_br c t l st h).2.2.2 = h := by cases c <;> rfl
theorem am_s_mono {xs : Nat → Int32} {L d op ln a b : Nat} {cc : Int} {lo : am_L} {st : List Value} {h : am_H} {r : Option Nat × am_L × List Value × am_H} (hs : am_s xs L d (op, ln, a, b, cc) lo st h = some r) : h.1 ≤ r.2.2.2.1 ∧ h.2.1 ≤ r.2.2.2.2.1 := by
  match op, hs with
  | 0, hs => cases ai_0 hs; exact ⟨Nat.le_refl _, Nat.le_refl _⟩
  | 1, hs => cases ai_1 hs; exact ⟨Nat.le_refl _, Nat.le_refl _⟩
  | 2, hs => obtain ⟨_, -, e⟩ := ai_2 hs; subst e; exact ⟨Nat.le_refl _, Nat.le_refl _⟩
  | 3, hs => obtain ⟨_, -, e⟩ := ai_3 hs; subst e; exact ⟨Nat.le_refl _, Nat.le_refl _⟩
  | 4, hs => obtain ⟨_, -, -, e⟩ := ai_4 hs; subst e; exact ⟨Nat.le_refl _, Nat.le_refl _⟩
  | 5, hs => obtain ⟨_, _, -, e⟩ := ai_5 hs; subst e; exact ⟨Nat.le_refl _, Nat.le_refl _⟩
  | 6, hs => obtain ⟨_, _, -, e⟩ := ai_6 hs; subst e; exact ⟨Nat.le_refl _, Nat.le_refl _⟩
  | 7, hs => obtain ⟨_, _, -, -, e⟩ := ai_7 hs; subst e; exact ⟨Nat.le_refl _, Nat.le_refl _⟩
  | 8, hs => obtain ⟨_, -, e⟩ := ai_8 hs; subst e; exact ⟨Nat.le_refl _, Nat.le_refl _⟩
  | 9, hs => obtain ⟨_, _, _, _, -, -, e⟩ := ai_9 hs; subst e; exact ⟨Nat.le_refl _, Nat.le_refl _⟩
  | 10, hs => obtain ⟨_, _, _, _, -, -, e⟩ := ai_10 hs; subst e; exact ⟨Nat.le_refl _, Nat.le_refl _⟩
  | 11, hs => obtain ⟨_, _, _, _, -, -, e⟩ := ai_11 hs; subst e; exact ⟨Nat.le_refl _, Nat.le_refl _⟩
  | 12, hs => obtain ⟨_, _, _, _, -, -, e⟩ := ai_12 hs; subst e; exact ⟨Nat.le_refl _, Nat.le_refl _⟩
  | 13, hs => obtain ⟨_, _, _, _, -, -, e⟩ := ai_13 hs; subst e; exact ⟨Nat.le_refl _, Nat.le_refl _⟩
  | 14, hs =>
    have hq : (match (generalizing := false) st with | .int y :: .int x :: st => (match (generalizing := false) am_bin 14 x y with | some z => some (none, lo, .int z :: st, h) | none => none) | _ => none) = some r := hs
    split at hq
    · split at hq
      · cases hq; exact ⟨Nat.le_refl _, Nat.le_refl _⟩
      · cases hq
    · cases hq
  | 15, hs => obtain ⟨_, _, _, _, -, -, e⟩ := ai_15 hs; subst e; exact ⟨Nat.le_refl _, Nat.le_refl _⟩
  | 16, hs => obtain ⟨_, _, _, _, -, -, e⟩ := ai_16 hs; subst e; exact ⟨Nat.le_refl _, Nat.le_refl _⟩
  | 17, hs => obtain ⟨_, _, _, _, -, -, e⟩ := ai_17 hs; subst e; exact ⟨Nat.le_refl _, Nat.le_refl _⟩
  | 18, hs => obtain ⟨_, _, _, _, -, -, e⟩ := ai_18 hs; subst e; exact ⟨Nat.le_refl _, Nat.le_refl _⟩
  | 19, hs => obtain ⟨_, _, _, _, -, -, e⟩ := ai_19 hs; subst e; exact ⟨Nat.le_refl _, Nat.le_refl _⟩
  | 20, hs => obtain ⟨_, _, _, _, -, -, e⟩ := ai_20 hs; subst e; exact ⟨Nat.le_refl _, Nat.le_refl _⟩
  | 21, hs => obtain ⟨_, _, _, _, -, -, e⟩ := ai_21 hs; subst e; exact ⟨Nat.le_refl _, Nat.le_refl _⟩
  | 22, hs => obtain ⟨_, _, _, _, -, -, e⟩ := ai_22 hs; subst e; exact ⟨Nat.le_refl _, Nat.le_refl _⟩
  | 23, hs => obtain ⟨_, _, _, _, -, -, e⟩ := ai_23 hs; subst e; exact ⟨Nat.le_refl _, Nat.le_refl _⟩
  | 24, hs => obtain ⟨_, _, _, _, -, -, e⟩ := ai_24 hs; subst e; exact ⟨Nat.le_refl _, Nat.le_refl _⟩
  | 25, hs => obtain ⟨_, _, _, _, -, -, e⟩ := ai_25 hs; subst e; exact ⟨Nat.le_refl _, Nat.le_refl _⟩
  | 26, hs => obtain ⟨_, _, _, _, -, -, e⟩ := ai_26 hs; subst e; exact ⟨Nat.le_refl _, Nat.le_refl _⟩
  | 27, hs => obtain ⟨_, _, _, _, -, -, e⟩ := ai_27 hs; subst e; exact ⟨Nat.le_refl _, Nat.le_refl _⟩
  | 28, hs => obtain ⟨_, _, _, _, -, -, e⟩ := ai_28 hs; subst e; exact ⟨Nat.le_refl _, Nat.le_refl _⟩
  | 29, hs => obtain ⟨_, _, _, _, -, -, e⟩ := ai_29 hs; subst e; exact ⟨Nat.le_refl _, Nat.le_refl _⟩
  | 30, hs => obtain ⟨_, _, _, _, -, -, e⟩ := ai_30 hs; subst e; exact ⟨Nat.le_refl _, Nat.le_refl _⟩
  | 31, hs => obtain ⟨_, _, _, -, e⟩ := ai_31 hs; subst e; exact ⟨Nat.le_refl _, Nat.le_refl _⟩
  | 32, hs => obtain ⟨_, _, -, e⟩ := ai_32 hs; subst e; exact ⟨Nat.le_refl _, Nat.le_refl _⟩
  | 33, hs => obtain ⟨_, _, -, e⟩ := ai_33 hs; subst e; exact ⟨Nat.le_refl _, Nat.le_refl _⟩
  | 34, hs => obtain ⟨_, _, -, e⟩ := ai_34 hs; subst e; exact ⟨Nat.le_refl _, Nat.le_refl _⟩
  | 35, hs => obtain ⟨_, _, -, e⟩ := ai_35 hs; subst e; exact ⟨Nat.le_refl _, Nat.le_refl _⟩
  | 36, hs => obtain ⟨_, _, -, -, e⟩ := ai_36 hs; subst e; exact ⟨Nat.le_refl _, Nat.le_refl _⟩
  | 37, hs => obtain ⟨_, _, -, -, e⟩ := ai_37 hs; subst e; exact ⟨Nat.le_refl _, Nat.le_refl _⟩
  | 38, hs => obtain ⟨_, _, _, -, -, -, e⟩ := ai_38 hs; subst e; exact ⟨Nat.le_refl _, Nat.le_refl _⟩
  | 39, hs => obtain ⟨_, _, -, e⟩ := ai_39 hs; subst e; rw [am_br_h]; exact ⟨Nat.le_refl _, Nat.le_refl _⟩
  | 40, hs => obtain ⟨_, _, _, -, e⟩ := ai_40 hs; subst e; rw [am_br_h]; exact ⟨Nat.le_refl _, Nat.le_refl _⟩
  | 41, hs => cases ai_41 hs; exact ⟨Nat.le_refl _, Nat.le_refl _⟩
  | 42, hs => rcases ai_42 hs with ⟨_, -, e⟩ | ⟨_, _, -, e⟩ <;> (subst e; exact ⟨Nat.le_refl _, Nat.le_refl _⟩)
  | 43, hs => rcases ai_43 hs with ⟨_, -, e⟩ | ⟨_, _, -, e⟩ <;> (subst e; exact ⟨Nat.le_refl _, Nat.le_refl _⟩)
  | 44, hs => obtain ⟨_, _, -, e⟩ := ai_44 hs; subst e; exact ⟨Nat.le_refl _, Nat.le_refl _⟩
  | 45, hs => obtain ⟨_, _, _, _, -, -, -, e⟩ := ai_45 hs; subst e; exact ⟨Nat.le_refl _, Nat.le_refl _⟩
  | 46, hs => obtain ⟨_, _, _, _, -, -, -, -, e⟩ := ai_46 hs; subst e; exact ⟨Nat.le_refl _, Nat.le_refl _⟩
  | 47, hs => obtain ⟨_, _, _, _, -, -, -, -, e⟩ := ai_47 hs; subst e; exact ⟨Nat.le_refl _, Nat.le_refl _⟩
  | 48, hs => rcases ai_48 hs with ⟨_, _, _, _, _, -, -, -, e⟩ | ⟨_, _, -, -, e⟩ <;> (subst e; exact ⟨Nat.le_refl _, Nat.le_refl _⟩)
  | 49, hs => obtain ⟨_, _, _, _, _, -, -, -, e⟩ := ai_49 hs; subst e; exact ⟨Nat.le_refl _, Nat.le_refl _⟩
  | 50, hs => obtain ⟨_, _, _, _, _, -, -, -, e⟩ := ai_50 hs; subst e; exact ⟨Nat.le_refl _, Nat.le_refl _⟩
  | 51, hs => obtain ⟨_, _, _, _, _, -, -, -, e⟩ := ai_51 hs; subst e; exact ⟨Nat.le_refl _, Nat.le_refl _⟩
  | 52, hs => obtain ⟨_, _, _, _, _, _, -, -, -, e⟩ := ai_52 hs; subst e; exact ⟨Nat.le_refl _, Nat.le_refl _⟩
  | 53, hs => obtain ⟨_, _, _, _, _, _, -, -, -, e⟩ := ai_53 hs; subst e; exact ⟨Nat.le_refl _, Nat.le_refl _⟩
  | 54, hs => obtain ⟨_, _, _, _, _, _, -, -, -, e⟩ := ai_54 hs; subst e; exact ⟨Nat.le_refl _, Nat.le_refl _⟩
  | 55, hs => obtain ⟨_, _, _, _, _, _, _, -, -, -, -, e⟩ := ai_55 hs; subst e; exact ⟨Nat.le_refl _, Nat.le_refl _⟩
  | 56, hs => rcases ai_56 hs with ⟨_, _, _, _, _, -, -, -, e⟩ | ⟨_, -, e⟩ <;> (subst e; exact ⟨Nat.le_refl _, Nat.le_refl _⟩)
  | 57, hs => obtain ⟨_, _, -, -, e⟩ := ai_57 hs; subst e; exact ⟨Nat.le_succ _, Nat.le_add_right _ _⟩
  | 58, hs => obtain ⟨_, _, -, -, e⟩ := ai_58 hs; subst e; exact ⟨Nat.le_succ _, Nat.le_add_right _ _⟩
  | 59, hs => cases ai_59 hs; exact ⟨Nat.le_succ _, Nat.le_add_right _ _⟩
  | 60, hs => cases hs
  | 61, hs => obtain ⟨_, _, -, -, e⟩ := ai_61 hs; subst e; exact ⟨Nat.le_refl _, Nat.le_refl _⟩
  | 62, hs => cases hs
  | 63, hs => cases hs
  | 64, hs => cases hs
  | 65, hs => cases hs
  | 66, hs => cases hs
  | 67, hs => cases hs
  | 68, hs => cases ai_68 hs; exact ⟨Nat.le_refl _, Nat.le_refl _⟩
  | 69, hs => obtain ⟨_, _, -, -, e⟩ := ai_69 hs; subst e; exact ⟨Nat.le_refl _, Nat.le_refl _⟩
  | 70, hs => obtain ⟨_, _, _, -, -, e⟩ := ai_70 hs; subst e; exact ⟨Nat.le_refl _, Nat.le_refl _⟩
  | 71, hs => obtain ⟨_, _, _, -, -, e⟩ := ai_71 hs; subst e; exact ⟨Nat.le_refl _, Nat.le_refl _⟩
  | 72, hs => cases hs
  | 73, hs => cases hs
  | 74, hs => obtain ⟨_, _, _, -, -, e⟩ := ai_74 hs; subst e; exact ⟨Nat.le_refl _, Nat.le_refl _⟩
  | n + 75, hs => simp [am_s] at hs
