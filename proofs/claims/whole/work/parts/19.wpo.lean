-- A RULE FOR EACH OPERATION (printed by wip/gen/wpr.py)
section WPO
variable {xs : Nat → Int32} {L d y : Nat} {is : List am_I} {l l' : am_L} {st : List Value} {h : am_H} {Q : am_I → List Value → am_H → Prop} {ln a b : Nat} {cc : Int}
theorem am_i32 (n : Nat) : Int32.ofInt (OfNat.ofNat n : Int) = (OfNat.ofNat n : Int32) := by
  show Int32.ofInt (n : Int) = Int32.ofNat n
  rw [Int32.ofInt_eq_ofNat]
theorem am_i64 (n : Nat) : Int64.ofInt (OfNat.ofNat n : Int) = (OfNat.ofNat n : Int64) := by
  show Int64.ofInt (n : Int) = Int64.ofNat n
  rw [Int64.ofInt_eq_ofNat]
theorem wp_ic {n : Nat} (k : am_w xs L d y is l (.int (OfNat.ofNat n) :: st) h Q) : am_w xs L d y ((0, ln, a, b, (OfNat.ofNat n : Int)) :: is) l st h Q := wp_s rfl (by show some (none, l, Value.int (Int32.ofInt (OfNat.ofNat n : Int)) :: st, h) = _; rw [am_i32]) k
theorem wp_icm {n : Nat} (k : am_w xs L d y is l (.int (-(OfNat.ofNat n)) :: st) h Q) : am_w xs L d y ((0, ln, a, b, (-(OfNat.ofNat n) : Int)) :: is) l st h Q := wp_s rfl (by show some (none, l, Value.int (Int32.ofInt (-(OfNat.ofNat n) : Int)) :: st, h) = _; rw [Int32.ofInt_neg, am_i32]) k
theorem wp_lc {n : Nat} (k : am_w xs L d y is l (.long (OfNat.ofNat n) :: st) h Q) : am_w xs L d y ((1, ln, a, b, (OfNat.ofNat n : Int)) :: is) l st h Q := wp_s rfl (by show some (none, l, Value.long (Int64.ofInt (OfNat.ofNat n : Int)) :: st, h) = _; rw [am_i64]) k
theorem wp_iload {x : Int32} (e : am_ld l a = some (.int x)) (k : am_w xs L d y is l (.int x :: st) h Q) : am_w xs L d y ((2, ln, a, b, cc) :: is) l st h Q := wp_s rfl (by show (match am_ld l a with | some (.int x) => some (none, l, Value.int x :: st, h) | _ => none) = _; rw [e]) k
theorem wp_lload {x : Int64} (e : am_ld l a = some (.long x)) (k : am_w xs L d y is l (.long x :: st) h Q) : am_w xs L d y ((3, ln, a, b, cc) :: is) l st h Q := wp_s rfl (by show (match am_ld l a with | some (.long x) => some (none, l, Value.long x :: st, h) | _ => none) = _; rw [e]) k
theorem wp_aload {v : Value} (e : am_ld l a = some v) (hv : (match v with | .ref _ => true | .null => true | .float _ => true | _ => false) = true) (k : am_w xs L d y is l (v :: st) h Q) : am_w xs L d y ((4, ln, a, b, cc) :: is) l st h Q := wp_s rfl (by show (match am_ld l a with | some (.ref x) => some (none, l, Value.ref x :: st, h) | some .null => some (none, l, Value.null :: st, h) | some (.float x) => some (none, l, Value.float x :: st, h) | _ => none) = _; rw [e]; cases v <;> first | rfl | cases hv) k
theorem wp_istore {x : Int32} (e : am_st1 l a (.int x) = l') (k : am_w xs L d y is l' st h Q) : am_w xs L d y ((5, ln, a, b, cc) :: is) l (.int x :: st) h Q := wp_s rfl (by rw [← e]; rfl) k
theorem wp_lstore {x : Int64} (e : am_st2 l a (.long x) = l') (k : am_w xs L d y is l' st h Q) : am_w xs L d y ((6, ln, a, b, cc) :: is) l (.long x :: st) h Q := wp_s rfl (by rw [← e]; rfl) k
theorem wp_astore {x : Nat} (e : am_st1 l a (.ref x) = l') (k : am_w xs L d y is l' st h Q) : am_w xs L d y ((7, ln, a, b, cc) :: is) l (.ref x :: st) h Q := wp_s rfl (by rw [← e]; rfl) k
theorem wp_iinc {x : Int32} {n : Nat} (e : am_ld l a = some (.int x)) (e2 : am_st1 l a (.int (x + OfNat.ofNat n)) = l') (k : am_w xs L d y is l' st h Q) : am_w xs L d y ((8, ln, a, b, (OfNat.ofNat n : Int)) :: is) l st h Q := wp_s rfl (by rw [← e2]; show (match am_ld l a with | some (.int x) => some (none, am_st1 l a (.int (x + Int32.ofInt (OfNat.ofNat n : Int))), st, h) | _ => none) = _; rw [e]; dsimp only; rw [am_i32]) k
theorem wp_iincm {x : Int32} {n : Nat} (e : am_ld l a = some (.int x)) (e2 : am_st1 l a (.int (x + -(OfNat.ofNat n))) = l') (k : am_w xs L d y is l' st h Q) : am_w xs L d y ((8, ln, a, b, (-(OfNat.ofNat n) : Int)) :: is) l st h Q := wp_s rfl (by rw [← e2]; show (match am_ld l a with | some (.int x) => some (none, am_st1 l a (.int (x + Int32.ofInt (-(OfNat.ofNat n) : Int))), st, h) | _ => none) = _; rw [e]; dsimp only; rw [Int32.ofInt_neg, am_i32]) k
theorem wp_iadd {x z : Int32} (k : am_w xs L d y is l (.int (x + z) :: st) h Q) : am_w xs L d y ((9, ln, a, b, cc) :: is) l (.int z :: .int x :: st) h Q := wp_s rfl rfl k
theorem wp_isub {x z : Int32} (k : am_w xs L d y is l (.int (x - z) :: st) h Q) : am_w xs L d y ((10, ln, a, b, cc) :: is) l (.int z :: .int x :: st) h Q := wp_s rfl rfl k
theorem wp_imul {x z : Int32} (k : am_w xs L d y is l (.int (x * z) :: st) h Q) : am_w xs L d y ((11, ln, a, b, cc) :: is) l (.int z :: .int x :: st) h Q := wp_s rfl rfl k
theorem wp_ishl {x z : Int32} (k : am_w xs L d y is l (.int (x <<< (z &&& 31)) :: st) h Q) : am_w xs L d y ((15, ln, a, b, cc) :: is) l (.int z :: .int x :: st) h Q := wp_s rfl rfl k
theorem wp_ishr {x z : Int32} (k : am_w xs L d y is l (.int (x >>> (z &&& 31)) :: st) h Q) : am_w xs L d y ((16, ln, a, b, cc) :: is) l (.int z :: .int x :: st) h Q := wp_s rfl rfl k
theorem wp_iushr {x z : Int32} (k : am_w xs L d y is l (.int ((x.toUInt32 >>> (z.toUInt32 &&& Int32.toUInt32 31)).toInt32) :: st) h Q) : am_w xs L d y ((17, ln, a, b, cc) :: is) l (.int z :: .int x :: st) h Q := wp_s rfl rfl k
theorem wp_iand {x z : Int32} (k : am_w xs L d y is l (.int (x &&& z) :: st) h Q) : am_w xs L d y ((18, ln, a, b, cc) :: is) l (.int z :: .int x :: st) h Q := wp_s rfl rfl k
theorem wp_ior {x z : Int32} (k : am_w xs L d y is l (.int (x ||| z) :: st) h Q) : am_w xs L d y ((19, ln, a, b, cc) :: is) l (.int z :: .int x :: st) h Q := wp_s rfl rfl k
theorem wp_ixor {x z : Int32} (k : am_w xs L d y is l (.int (x ^^^ z) :: st) h Q) : am_w xs L d y ((20, ln, a, b, cc) :: is) l (.int z :: .int x :: st) h Q := wp_s rfl rfl k
theorem wp_ladd {x z : Int64} (k : am_w xs L d y is l (.long (x + z) :: st) h Q) : am_w xs L d y ((21, ln, a, b, cc) :: is) l (.long z :: .long x :: st) h Q := wp_s rfl rfl k
theorem wp_lsub {x z : Int64} (k : am_w xs L d y is l (.long (x - z) :: st) h Q) : am_w xs L d y ((22, ln, a, b, cc) :: is) l (.long z :: .long x :: st) h Q := wp_s rfl rfl k
theorem wp_lmul {x z : Int64} (k : am_w xs L d y is l (.long (x * z) :: st) h Q) : am_w xs L d y ((23, ln, a, b, cc) :: is) l (.long z :: .long x :: st) h Q := wp_s rfl rfl k
theorem wp_land {x z : Int64} (k : am_w xs L d y is l (.long (x &&& z) :: st) h Q) : am_w xs L d y ((26, ln, a, b, cc) :: is) l (.long z :: .long x :: st) h Q := wp_s rfl rfl k
theorem wp_lor {x z : Int64} (k : am_w xs L d y is l (.long (x ||| z) :: st) h Q) : am_w xs L d y ((27, ln, a, b, cc) :: is) l (.long z :: .long x :: st) h Q := wp_s rfl rfl k
theorem wp_idiv {x z : Int32} (hz : ¬ z = 0) (k : am_w xs L d y is l (.int (x / z) :: st) h Q) : am_w xs L d y ((12, ln, a, b, cc) :: is) l (.int z :: .int x :: st) h Q := wp_s rfl (by show (match (if z = 0 then none else some (x / z)) with | some w => some (none, l, Value.int w :: st, h) | none => none) = _; rw [if_neg hz]) k
theorem wp_irem {x z : Int32} (hz : ¬ z = 0) (k : am_w xs L d y is l (.int (x - x / z * z) :: st) h Q) : am_w xs L d y ((13, ln, a, b, cc) :: is) l (.int z :: .int x :: st) h Q := wp_s rfl (by show (match (if z = 0 then none else some (x - x / z * z)) with | some w => some (none, l, Value.int w :: st, h) | none => none) = _; rw [if_neg hz]) k
theorem wp_ldiv {x z : Int64} (hz : ¬ z = 0) (k : am_w xs L d y is l (.long (x / z) :: st) h Q) : am_w xs L d y ((24, ln, a, b, cc) :: is) l (.long z :: .long x :: st) h Q := wp_s rfl (by show (match (if z = 0 then none else some (x / z)) with | some w => some (none, l, Value.long w :: st, h) | none => none) = _; rw [if_neg hz]) k
theorem wp_lrem {x z : Int64} (hz : ¬ z = 0) (k : am_w xs L d y is l (.long (x - x / z * z) :: st) h Q) : am_w xs L d y ((25, ln, a, b, cc) :: is) l (.long z :: .long x :: st) h Q := wp_s rfl (by show (match (if z = 0 then none else some (x - x / z * z)) with | some w => some (none, l, Value.long w :: st, h) | none => none) = _; rw [if_neg hz]) k
theorem wp_lshl {x : Int64} {z : Int32} (k : am_w xs L d y is l (.long (x <<< (z.toInt64 &&& 63)) :: st) h Q) : am_w xs L d y ((28, ln, a, b, cc) :: is) l (.int z :: .long x :: st) h Q := wp_s rfl rfl k
theorem wp_lshr {x : Int64} {z : Int32} (k : am_w xs L d y is l (.long (x >>> (z.toInt64 &&& 63)) :: st) h Q) : am_w xs L d y ((29, ln, a, b, cc) :: is) l (.int z :: .long x :: st) h Q := wp_s rfl rfl k
theorem wp_lushr {x : Int64} {z : Int32} (k : am_w xs L d y is l (.long ((x.toUInt64 >>> (z.toInt64.toUInt64 &&& Int64.toUInt64 63)).toInt64) :: st) h Q) : am_w xs L d y ((30, ln, a, b, cc) :: is) l (.int z :: .long x :: st) h Q := wp_s rfl rfl k
theorem wp_lcmp {x z : Int64} (k : am_w xs L d y is l (.int (lg_cmp x z) :: st) h Q) : am_w xs L d y ((31, ln, a, b, cc) :: is) l (.long z :: .long x :: st) h Q := wp_s rfl rfl k
theorem wp_i2l {x : Int32} (k : am_w xs L d y is l (.long x.toInt64 :: st) h Q) : am_w xs L d y ((32, ln, a, b, cc) :: is) l (.int x :: st) h Q := wp_s rfl rfl k
theorem wp_l2i {x : Int64} (k : am_w xs L d y is l (.int x.toInt32 :: st) h Q) : am_w xs L d y ((33, ln, a, b, cc) :: is) l (.long x :: st) h Q := wp_s rfl rfl k
theorem wp_i2b {x : Int32} (k : am_w xs L d y is l (.int x.toInt8.toInt32 :: st) h Q) : am_w xs L d y ((34, ln, a, b, cc) :: is) l (.int x :: st) h Q := wp_s rfl rfl k
theorem wp_i2c {x : Int32} (k : am_w xs L d y is l (.int (x.toUInt32 % 65536).toInt32 :: st) h Q) : am_w xs L d y ((35, ln, a, b, cc) :: is) l (.int x :: st) h Q := wp_s rfl rfl k
theorem wp_dup_int {x : Int32} (k : am_w xs L d y is l (.int x :: .int x :: st) h Q) : am_w xs L d y ((36, ln, a, b, cc) :: is) l (.int x :: st) h Q := wp_s rfl rfl k
theorem wp_dup_ref {x : Nat} (k : am_w xs L d y is l (.ref x :: .ref x :: st) h Q) : am_w xs L d y ((36, ln, a, b, cc) :: is) l (.ref x :: st) h Q := wp_s rfl rfl k
theorem wp_pop {v : Value} (hv : v.category = 1) (k : am_w xs L d y is l st h Q) : am_w xs L d y ((37, ln, a, b, cc) :: is) l (v :: st) h Q := wp_s rfl (by show (if v.category = 1 then some (none, l, st, h) else none) = _; rw [if_pos hv]) k
theorem wp_dup2 {x : Int32} {q : Nat} (k : am_w xs L d y is l (.int x :: .ref q :: .int x :: .ref q :: st) h Q) : am_w xs L d y ((38, ln, a, b, cc) :: is) l (.int x :: .ref q :: st) h Q := wp_s rfl rfl k
theorem wp_ifeq {x : Int32} (kt : x = 0 → am_w xs L d y (am_j y a) l st h Q) (kf : ¬ (x = 0) → am_w xs L d y is l st h Q) : am_w xs L d y ((39, ln, a, 0, cc) :: is) l (.int x :: st) h Q := by
  by_cases hq : x = 0
  · exact wp_j rfl (by show some (am_br (decide (x = 0)) a l st h) = _; rw [decide_eq_true hq]; rfl) (kt hq)
  · exact wp_s rfl (by show some (am_br (decide (x = 0)) a l st h) = _; rw [decide_eq_false hq]; rfl) (kf hq)
theorem wp_iceq {x z : Int32} (kt : x = z → am_w xs L d y (am_j y a) l st h Q) (kf : ¬ (x = z) → am_w xs L d y is l st h Q) : am_w xs L d y ((40, ln, a, 0, cc) :: is) l (.int z :: .int x :: st) h Q := by
  by_cases hq : x = z
  · exact wp_j rfl (by show some (am_br (decide (x = z)) a l st h) = _; rw [decide_eq_true hq]; rfl) (kt hq)
  · exact wp_s rfl (by show some (am_br (decide (x = z)) a l st h) = _; rw [decide_eq_false hq]; rfl) (kf hq)
theorem wp_ifne {x : Int32} (kt : ¬ x = 0 → am_w xs L d y (am_j y a) l st h Q) (kf : ¬ (¬ x = 0) → am_w xs L d y is l st h Q) : am_w xs L d y ((39, ln, a, 1, cc) :: is) l (.int x :: st) h Q := by
  by_cases hq : ¬ x = 0
  · exact wp_j rfl (by show some (am_br (decide (¬ x = 0)) a l st h) = _; rw [decide_eq_true hq]; rfl) (kt hq)
  · exact wp_s rfl (by show some (am_br (decide (¬ x = 0)) a l st h) = _; rw [decide_eq_false hq]; rfl) (kf hq)
theorem wp_icne {x z : Int32} (kt : ¬ x = z → am_w xs L d y (am_j y a) l st h Q) (kf : ¬ (¬ x = z) → am_w xs L d y is l st h Q) : am_w xs L d y ((40, ln, a, 1, cc) :: is) l (.int z :: .int x :: st) h Q := by
  by_cases hq : ¬ x = z
  · exact wp_j rfl (by show some (am_br (decide (¬ x = z)) a l st h) = _; rw [decide_eq_true hq]; rfl) (kt hq)
  · exact wp_s rfl (by show some (am_br (decide (¬ x = z)) a l st h) = _; rw [decide_eq_false hq]; rfl) (kf hq)
theorem wp_iflt {x : Int32} (kt : x < 0 → am_w xs L d y (am_j y a) l st h Q) (kf : ¬ (x < 0) → am_w xs L d y is l st h Q) : am_w xs L d y ((39, ln, a, 2, cc) :: is) l (.int x :: st) h Q := by
  by_cases hq : x < 0
  · exact wp_j rfl (by show some (am_br (decide (x < 0)) a l st h) = _; rw [decide_eq_true hq]; rfl) (kt hq)
  · exact wp_s rfl (by show some (am_br (decide (x < 0)) a l st h) = _; rw [decide_eq_false hq]; rfl) (kf hq)
theorem wp_iclt {x z : Int32} (kt : x < z → am_w xs L d y (am_j y a) l st h Q) (kf : ¬ (x < z) → am_w xs L d y is l st h Q) : am_w xs L d y ((40, ln, a, 2, cc) :: is) l (.int z :: .int x :: st) h Q := by
  by_cases hq : x < z
  · exact wp_j rfl (by show some (am_br (decide (x < z)) a l st h) = _; rw [decide_eq_true hq]; rfl) (kt hq)
  · exact wp_s rfl (by show some (am_br (decide (x < z)) a l st h) = _; rw [decide_eq_false hq]; rfl) (kf hq)
theorem wp_ifge {x : Int32} (kt : 0 ≤ x → am_w xs L d y (am_j y a) l st h Q) (kf : ¬ (0 ≤ x) → am_w xs L d y is l st h Q) : am_w xs L d y ((39, ln, a, 3, cc) :: is) l (.int x :: st) h Q := by
  by_cases hq : 0 ≤ x
  · exact wp_j rfl (by show some (am_br (decide (0 ≤ x)) a l st h) = _; rw [decide_eq_true hq]; rfl) (kt hq)
  · exact wp_s rfl (by show some (am_br (decide (0 ≤ x)) a l st h) = _; rw [decide_eq_false hq]; rfl) (kf hq)
theorem wp_icge {x z : Int32} (kt : z ≤ x → am_w xs L d y (am_j y a) l st h Q) (kf : ¬ (z ≤ x) → am_w xs L d y is l st h Q) : am_w xs L d y ((40, ln, a, 3, cc) :: is) l (.int z :: .int x :: st) h Q := by
  by_cases hq : z ≤ x
  · exact wp_j rfl (by show some (am_br (decide (z ≤ x)) a l st h) = _; rw [decide_eq_true hq]; rfl) (kt hq)
  · exact wp_s rfl (by show some (am_br (decide (z ≤ x)) a l st h) = _; rw [decide_eq_false hq]; rfl) (kf hq)
theorem wp_ifgt {x : Int32} (kt : 0 < x → am_w xs L d y (am_j y a) l st h Q) (kf : ¬ (0 < x) → am_w xs L d y is l st h Q) : am_w xs L d y ((39, ln, a, 4, cc) :: is) l (.int x :: st) h Q := by
  by_cases hq : 0 < x
  · exact wp_j rfl (by show some (am_br (decide (0 < x)) a l st h) = _; rw [decide_eq_true hq]; rfl) (kt hq)
  · exact wp_s rfl (by show some (am_br (decide (0 < x)) a l st h) = _; rw [decide_eq_false hq]; rfl) (kf hq)
theorem wp_icgt {x z : Int32} (kt : z < x → am_w xs L d y (am_j y a) l st h Q) (kf : ¬ (z < x) → am_w xs L d y is l st h Q) : am_w xs L d y ((40, ln, a, 4, cc) :: is) l (.int z :: .int x :: st) h Q := by
  by_cases hq : z < x
  · exact wp_j rfl (by show some (am_br (decide (z < x)) a l st h) = _; rw [decide_eq_true hq]; rfl) (kt hq)
  · exact wp_s rfl (by show some (am_br (decide (z < x)) a l st h) = _; rw [decide_eq_false hq]; rfl) (kf hq)
theorem wp_ifle {x : Int32} (kt : x ≤ 0 → am_w xs L d y (am_j y a) l st h Q) (kf : ¬ (x ≤ 0) → am_w xs L d y is l st h Q) : am_w xs L d y ((39, ln, a, 5, cc) :: is) l (.int x :: st) h Q := by
  by_cases hq : x ≤ 0
  · exact wp_j rfl (by show some (am_br (decide (x ≤ 0)) a l st h) = _; rw [decide_eq_true hq]; rfl) (kt hq)
  · exact wp_s rfl (by show some (am_br (decide (x ≤ 0)) a l st h) = _; rw [decide_eq_false hq]; rfl) (kf hq)
theorem wp_icle {x z : Int32} (kt : x ≤ z → am_w xs L d y (am_j y a) l st h Q) (kf : ¬ (x ≤ z) → am_w xs L d y is l st h Q) : am_w xs L d y ((40, ln, a, 5, cc) :: is) l (.int z :: .int x :: st) h Q := by
  by_cases hq : x ≤ z
  · exact wp_j rfl (by show some (am_br (decide (x ≤ z)) a l st h) = _; rw [decide_eq_true hq]; rfl) (kt hq)
  · exact wp_s rfl (by show some (am_br (decide (x ≤ z)) a l st h) = _; rw [decide_eq_false hq]; rfl) (kf hq)
theorem wp_goto (k : am_w xs L d y (am_j y a) l st h Q) : am_w xs L d y ((41, ln, a, b, cc) :: is) l st h Q := wp_j rfl rfl k
theorem wp_ifnullN (k : am_w xs L d y (am_j y a) l st h Q) : am_w xs L d y ((42, ln, a, b, cc) :: is) l (.null :: st) h Q := wp_j rfl rfl k
theorem wp_ifnullR {q : Nat} (k : am_w xs L d y is l st h Q) : am_w xs L d y ((42, ln, a, b, cc) :: is) l (.ref q :: st) h Q := wp_s rfl rfl k
theorem wp_ifnonN  (k : am_w xs L d y is l st h Q) : am_w xs L d y ((43, ln, a, b, cc) :: is) l (.null :: st) h Q := wp_s rfl rfl k
theorem wp_ifnonR {q : Nat} (k : am_w xs L d y (am_j y a) l st h Q) : am_w xs L d y ((43, ln, a, b, cc) :: is) l (.ref q :: st) h Q := wp_j rfl rfl k
theorem wp_switch {x : Int32} {t : Nat} (e : am_sw (am_swt a) x = t) (k : am_w xs L d y (am_j y t) l st h Q) : am_w xs L d y ((44, ln, a, b, cc) :: is) l (.int x :: st) h Q := wp_j rfl (by rw [← e]; rfl) k
theorem wp_get {q : Nat} {fs : List Value} {v : Value} (hq : h.2.2 q = some (.inr (b, fs))) (hv : fs[a]? = some v) (k : am_w xs L d y is l (v :: st) h Q) : am_w xs L d y ((45, ln, a, b, cc) :: is) l (.ref q :: st) h Q := wp_s rfl (by show (match h.2.2 q with | some (.inr (ci, fs)) => if ci = b then (match fs[a]? with | some v => some (none, l, v :: st, h) | none => none) else none | _ => none) = _; rw [hq]; dsimp only; rw [if_pos rfl, hv]) k
theorem wp_put {q : Nat} {fs fs2 : List Value} {v : Value} (hq : h.2.2 q = some (.inr (b, fs))) (hl : a < fs.length) (hf : am_fit (am_fty b a) v = true) (e : fs.set a v = fs2) (k : am_w xs L d y is l st (am_set h q (.inr (b, fs2))) Q) : am_w xs L d y ((46, ln, a, b, cc) :: is) l (v :: .ref q :: st) h Q := wp_s rfl (by show (match h.2.2 q with | some (.inr (ci, fs)) => if ci = b ∧ a < fs.length ∧ am_fit (am_fty b a) v = true then some (none, l, st, am_set h q (.inr (ci, fs.set a v))) else none | _ => none) = _; rw [hq]; dsimp only; rw [if_pos ⟨rfl, hl, hf⟩, e]) k
theorem wp_putF {q : Nat} {fs fs2 : List Value} {v : Value} (hq : h.2.2 q = some (.inr (b, fs))) (hl : a < fs.length) (hf : am_fit (am_fty b a) v = true) (e : fs.set a v = fs2) (k : am_w xs L d y is l st (am_set h q (.inr (b, fs2))) Q) : am_w xs L d y ((47, ln, a, b, cc) :: is) l (v :: .ref q :: st) h Q := wp_s rfl (by show (match h.2.2 q with | some (.inr (ci, fs)) => if ci = b ∧ a < fs.length ∧ am_fit (am_fty b a) v = true then some (none, l, st, am_set h q (.inr (ci, fs.set a v))) else none | _ => none) = _; rw [hq]; dsimp only; rw [if_pos ⟨rfl, hl, hf⟩, e]) k
theorem wp_iald {q n : Nat} {f : Nat → Int32} {j : Int32} (hq : h.2.2 q = some (.inl (0, n, .inl f))) (hj : am_inB j n = true) (k : am_w xs L d y is l (Value.int (f j.toNatClampNeg) :: st) h Q) : am_w xs L d y ((48, ln, a, b, cc) :: is) l (.int j :: .ref q :: st) h Q := wp_s rfl (by show (match h.2.2 q with | some (.inl (0, n, .inl f)) => if am_inB j n = true then some (none, l, Value.int (f j.toNatClampNeg) :: st, h) else none | _ => none) = _; rw [hq]; exact if_pos hj) k
theorem wp_lald {q n : Nat} {f : Nat → Int64} {j : Int32} (hq : h.2.2 q = some (.inl (1, n, .inr (.inl f)))) (hj : am_inB j n = true) (k : am_w xs L d y is l (Value.long (f j.toNatClampNeg) :: st) h Q) : am_w xs L d y ((49, ln, a, b, cc) :: is) l (.int j :: .ref q :: st) h Q := wp_s rfl (by show (match h.2.2 q with | some (.inl (1, n, .inr (.inl f))) => if am_inB j n = true then some (none, l, Value.long (f j.toNatClampNeg) :: st, h) else none | _ => none) = _; rw [hq]; exact if_pos hj) k
theorem wp_bald {q n : Nat} {f : Nat → Int32} {j : Int32} (hq : h.2.2 q = some (.inl (2, n, .inl f))) (hj : am_inB j n = true) (k : am_w xs L d y is l (Value.int (f j.toNatClampNeg) :: st) h Q) : am_w xs L d y ((50, ln, a, b, cc) :: is) l (.int j :: .ref q :: st) h Q := wp_s rfl (by show (match h.2.2 q with | some (.inl (2, n, .inl f)) => if am_inB j n = true then some (none, l, Value.int (f j.toNatClampNeg) :: st, h) else none | _ => none) = _; rw [hq]; exact if_pos hj) k
theorem wp_aald {q n : Nat} {f : Nat → Option Nat} {j : Int32} (hq : h.2.2 q = some (.inl (3, n, .inr (.inr f)))) (hj : am_inB j n = true) (k : am_w xs L d y is l (am_rf (f j.toNatClampNeg) :: st) h Q) : am_w xs L d y ((51, ln, a, b, cc) :: is) l (.int j :: .ref q :: st) h Q := wp_s rfl (by show (match h.2.2 q with | some (.inl (3, n, .inr (.inr f))) => if am_inB j n = true then some (none, l, am_rf (f j.toNatClampNeg) :: st, h) else none | _ => none) = _; rw [hq]; exact if_pos hj) k
theorem wp_sald {j : Int32} (hj : am_inB j L = true) (k : am_w xs L d y is l (.int (xs j.toNatClampNeg) :: st) h Q) : am_w xs L d y ((48, ln, a, b, cc) :: is) l (.int j :: .float 100 :: st) h Q := wp_s rfl (by show (if (100 : UInt32) = 100 ∧ am_inB j L = true then some (none, l, Value.int (xs j.toNatClampNeg) :: st, h) else none) = _; rw [if_pos ⟨rfl, hj⟩]) k
theorem wp_iast {q n : Nat} {f : Nat → Int32} {j : Int32} {x : Int32} (hq : h.2.2 q = some (.inl (0, n, .inl f))) (hj : am_inB j n = true) (k : am_w xs L d y is l st (am_set h q (.inl (0, n, .inl (upd f j.toNatClampNeg x)))) Q) : am_w xs L d y ((52, ln, a, b, cc) :: is) l (.int x :: .int j :: .ref q :: st) h Q := wp_s rfl (by show (match h.2.2 q with | some (.inl (0, n, .inl f)) => if am_inB j n = true then some (none, l, st, am_set h q (.inl (0, n, .inl (upd f j.toNatClampNeg x)))) else none | _ => none) = _; rw [hq]; exact if_pos hj) k
theorem wp_last {q n : Nat} {f : Nat → Int64} {j : Int32} {x : Int64} (hq : h.2.2 q = some (.inl (1, n, .inr (.inl f)))) (hj : am_inB j n = true) (k : am_w xs L d y is l st (am_set h q (.inl (1, n, .inr (.inl (vp_updL f j.toNatClampNeg x))))) Q) : am_w xs L d y ((53, ln, a, b, cc) :: is) l (.long x :: .int j :: .ref q :: st) h Q := wp_s rfl (by show (match h.2.2 q with | some (.inl (1, n, .inr (.inl f))) => if am_inB j n = true then some (none, l, st, am_set h q (.inl (1, n, .inr (.inl (vp_updL f j.toNatClampNeg x))))) else none | _ => none) = _; rw [hq]; exact if_pos hj) k
theorem wp_bast {q n : Nat} {f : Nat → Int32} {j : Int32} {x : Int32} (hq : h.2.2 q = some (.inl (2, n, .inl f))) (hj : am_inB j n = true) (k : am_w xs L d y is l st (am_set h q (.inl (2, n, .inl (upd f j.toNatClampNeg (vp_nar .byte x))))) Q) : am_w xs L d y ((54, ln, a, b, cc) :: is) l (.int x :: .int j :: .ref q :: st) h Q := wp_s rfl (by show (match h.2.2 q with | some (.inl (2, n, .inl f)) => if am_inB j n = true then some (none, l, st, am_set h q (.inl (2, n, .inl (upd f j.toNatClampNeg (vp_nar .byte x))))) else none | _ => none) = _; rw [hq]; exact if_pos hj) k
theorem wp_aast {q n v : Nat} {f : Nat → Option Nat} {j : Int32} {fs : List Value} (hq : h.2.2 q = some (.inl (3, n, .inr (.inr f)))) (hv : h.2.2 v = some (.inr (1, fs))) (hj : am_inB j n = true) (k : am_w xs L d y is l st (am_set h q (.inl (3, n, .inr (.inr (va_up f j.toNatClampNeg (some v)))))) Q) : am_w xs L d y ((55, ln, a, b, cc) :: is) l (.ref v :: .int j :: .ref q :: st) h Q := wp_s rfl (by show (match h.2.2 q, h.2.2 v with | some (.inl (3, n, .inr (.inr f))), some (.inr (1, _)) => if am_inB j n = true then some (none, l, st, am_set h q (.inl (3, n, .inr (.inr (va_up f j.toNatClampNeg (some v)))))) else none | _, _ => none) = _; rw [hq, hv]; exact if_pos hj) k
theorem wp_alen {q tag n : Nat} {f : am_A} (hq : h.2.2 q = some (.inl (tag, n, f))) (ht : tag ≤ 3) (k : am_w xs L d y is l (.int (Int32.ofNat n) :: st) h Q) : am_w xs L d y ((56, ln, a, b, cc) :: is) l (.ref q :: st) h Q := wp_s rfl (by show (match h.2.2 q with | some (.inl (tag, n, _)) => if tag ≤ 3 then some (none, l, Value.int (Int32.ofNat n) :: st, h) else none | _ => none) = _; rw [hq]; dsimp only; rw [if_pos ht]) k
theorem wp_slen (k : am_w xs L d y is l (.int (Int32.ofNat L) :: st) h Q) : am_w xs L d y ((56, ln, a, b, cc) :: is) l (.float 100 :: st) h Q := wp_s rfl (by show (if (100 : UInt32) = 100 then some (none, l, Value.int (Int32.ofNat L) :: st, h) else none) = _; rw [if_pos rfl]) k
theorem wp_newa {n : Int32} (hn : a ≤ 2 ∧ ¬ n < 0 ∧ n.toNatClampNeg ≤ 67108864) (k : am_w xs L d y is l (.ref h.1 :: st) (am_new h (.inl (a, n.toNatClampNeg, am_arr0 a)) n.toNatClampNeg) Q) : am_w xs L d y ((57, ln, a, b, cc) :: is) l (.int n :: st) h Q := wp_s rfl (by show (if a ≤ 2 ∧ ¬ n < 0 ∧ n.toNatClampNeg ≤ 67108864 then some (none, l, Value.ref h.1 :: st, am_new h (.inl (a, n.toNatClampNeg, am_arr0 a)) n.toNatClampNeg) else none) = _; rw [if_pos hn]) k
theorem wp_newq {n : Int32} (hn : ¬ n < 0 ∧ n.toNatClampNeg ≤ 67108864) (k : am_w xs L d y is l (.ref h.1 :: st) (am_new h (.inl (3, n.toNatClampNeg, am_arr0 3)) n.toNatClampNeg) Q) : am_w xs L d y ((58, ln, a, b, cc) :: is) l (.int n :: st) h Q := wp_s rfl (by show (if ¬ n < 0 ∧ n.toNatClampNeg ≤ 67108864 then some (none, l, Value.ref h.1 :: st, am_new h (.inl (3, n.toNatClampNeg, am_arr0 3)) n.toNatClampNeg) else none) = _; rw [if_pos hn]) k
theorem wp_new  (k : am_w xs L d y is l (.ref h.1 :: st) (am_new h (.inr (a, am_def a)) (am_n a)) Q) : am_w xs L d y ((59, ln, a, b, cc) :: is) l st h Q := wp_s rfl rfl k
theorem wp_obj {q : Nat} (hd : 1 ≤ d ∧ am_cats st ≤ 8) (k : am_w xs L d y is l st h Q) : am_w xs L d y ((61, ln, a, b, cc) :: is) l (.ref q :: st) h Q := wp_s rfl (by show (if 1 ≤ d ∧ am_cats st ≤ 8 then some (none, l, st, h) else none) = _; rw [if_pos hd]) k
theorem wp_ldcs  (k : am_w xs L d y is l (.float (UInt32.ofNat a) :: st) h Q) : am_w xs L d y ((68, ln, a, b, cc) :: is) l st h Q := wp_s rfl rfl k
theorem wp_max {x z : Int32} (hd : 1 ≤ d ∧ am_cats st ≤ 8) (k : am_w xs L d y is l (.int (if x < z then z else x) :: st) h Q) : am_w xs L d y ((71, ln, a, b, cc) :: is) l (.int z :: .int x :: st) h Q := wp_s rfl (by show (if 1 ≤ d ∧ am_cats st ≤ 8 then some (none, l, Value.int (if x < z then z else x) :: st, h) else none) = _; rw [if_pos hd]) k
theorem wp_min {x z : Int32} (hd : 1 ≤ d ∧ am_cats st ≤ 8) (k : am_w xs L d y is l (.int (if z < x then z else x) :: st) h Q) : am_w xs L d y ((74, ln, a, b, cc) :: is) l (.int z :: .int x :: st) h Q := wp_s rfl (by show (if 1 ≤ d ∧ am_cats st ≤ 8 then some (none, l, Value.int (if z < x then z else x) :: st, h) else none) = _; rw [if_pos hd]) k
theorem wp_slength {u : UInt32} {n : Nat} (hd : u.toNat < 13 ∧ 3 ≤ d ∧ am_cats st ≤ 8) (e : (am_str.getD u.toNat []).length = n) (k : am_w xs L d y is l (.int (nI n) :: st) h Q) : am_w xs L d y ((69, ln, a, b, cc) :: is) l (.float u :: st) h Q := wp_s rfl (by show (if u.toNat < 13 ∧ 3 ≤ d ∧ am_cats st ≤ 8 then some (none, l, Value.int (nI (am_str.getD u.toNat []).length) :: st, h) else none) = _; rw [if_pos hd, e]) k
theorem wp_scharat {u : UInt32} {j : Int32} (hd : u.toNat < 13 ∧ 3 ≤ d ∧ am_cats st ≤ 8 ∧ am_inB j (am_str.getD u.toNat []).length = true) (k : am_w xs L d y is l (.int ((am_str.getD u.toNat []).getD j.toNatClampNeg 0) :: st) h Q) : am_w xs L d y ((70, ln, a, b, cc) :: is) l (.int j :: .float u :: st) h Q := wp_s rfl (by show (if u.toNat < 13 ∧ 3 ≤ d ∧ am_cats st ≤ 8 ∧ am_inB j (am_str.getD u.toNat []).length = true then some (none, l, Value.int ((am_str.getD u.toNat []).getD j.toNatClampNeg 0) :: st, h) else none) = _; rw [if_pos hd]) k
theorem wp_iret {x : Int32} (k : Q (64, ln, a, b, cc) [.int x] h) : am_w xs L d y ((64, ln, a, b, cc) :: is) l [.int x] h Q := wp_end (i := (64, ln, a, b, cc)) (Or.inl ⟨(by decide : 64 ≤ 64), (by decide : 64 ≤ 67)⟩) k
theorem wp_lret {x : Int64} (k : Q (65, ln, a, b, cc) [.long x] h) : am_w xs L d y ((65, ln, a, b, cc) :: is) l [.long x] h Q := wp_end (i := (65, ln, a, b, cc)) (Or.inl ⟨(by decide : 64 ≤ 65), (by decide : 65 ≤ 67)⟩) k
theorem wp_aret {x : Nat} (k : Q (66, ln, a, b, cc) [.ref x] h) : am_w xs L d y ((66, ln, a, b, cc) :: is) l [.ref x] h Q := wp_end (i := (66, ln, a, b, cc)) (Or.inl ⟨(by decide : 64 ≤ 66), (by decide : 66 ≤ 67)⟩) k
theorem wp_vret (k : Q (67, ln, a, b, cc) [] h) : am_w xs L d y ((67, ln, a, b, cc) :: is) l [] h Q := wp_end (i := (67, ln, a, b, cc)) (Or.inl ⟨(by decide : 64 ≤ 67), (by decide : 67 ≤ 67)⟩) k
end WPO
-- CONTRACTS: a method at depth d, its arguments, the heap: it ends with v and h'
/-- the end of a method, as its caller sees it -/
def am_K (P : Option Value → am_H → Prop) : am_I → List Value → am_H → Prop := fun r rs h' => ∃ v, am_rv r rs = some v ∧ P v h'
/-- method y, called with av in heap h, comes back with P -/
def am_m (xs : Nat → Int32) (L d y : Nat) (av : List Value) (h : am_H) (P : Option Value → am_H → Prop) : Prop := am_w xs L d y (am_j y 0) (am_ent (am_ml y) av) [] h (am_K P)
theorem am_m_mono {xs : Nat → Int32} {L d y : Nat} {av : List Value} {h : am_H} {P P' : Option Value → am_H → Prop} (k : am_m xs L d y av h P) (hp : ∀ v h', P v h' → P' v h') : am_m xs L d y av h P' := wp_mono k (fun _ _ _ ⟨v, e, q⟩ => ⟨v, e, hp _ _ q⟩)
section WPC
variable {xs : Nat → Int32} {L d y : Nat} {is : List am_I} {l : am_L} {st : List Value} {h : am_H} {Q : am_I → List Value → am_H → Prop} {op ln a b : Nat} {cc : Int}
/-- a call by contract -/
theorem wp_inv (av rest : List Value) {P : Option Value → am_H → Prop} (hm : am_m xs L d a av h P) (hop : op = 60 ∨ op = 62 ∨ op = 63) (hst : st = av.reverse ++ rest) (hna : av.length = b ∧ b = am_na a) (hmay : am_may op a av h = true) (hcat : am_cats rest ≤ 8) (har : (am_args av).length ≤ am_ml a)
    (k : ∀ v h', P v h' → am_rok a v = true ∧ am_w xs L (d + 1) y is l (v.toList ++ rest) h' Q) : am_w xs L (d + 1) y ((op, ln, a, b, cc) :: is) l st h Q := by
  refine wp_call hop hst hna.1 hna.2 hmay hcat har (wp_mono hm ?_)
  rintro r rs h' ⟨v, e, hp⟩
  obtain ⟨k1, k2⟩ := k v h' hp
  exact ⟨v, e, k1, k2⟩
end WPC
