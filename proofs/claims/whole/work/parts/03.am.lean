-- AN ABSTRACT MACHINE (am_): the bytecode that this claim uses, over a heap of numbered cells; instruction = (op, length, a, b, c)
abbrev am_I : Type := Nat × Nat × Nat × Nat × Int
abbrev am_A : Type := (Nat → Int32) ⊕ (Nat → Int64) ⊕ (Nat → Option Nat)
/-- a cell: an array (its kind 0 int, 1 long, 2 byte, 3 Now; its length; what it holds) or an object (its class's number, its fields) -/
abbrev am_C : Type := (Nat × Nat × am_A) ⊕ (Nat × List Value)
/-- a heap: how many cells, how many slots they have together, the cells by number -/
abbrev am_H : Type := Nat × Nat × (Nat → Option am_C)
abbrev am_L : Type := List (Option Value)
def am_set (h : am_H) (k : Nat) (c : am_C) : am_H := (h.1, h.2.1, va_up h.2.2 k (some c))
def am_new (h : am_H) (c : am_C) (n : Nat) : am_H := (h.1 + 1, h.2.1 + n, va_up h.2.2 h.1 (some c))
def am_clr : Option Value → Option Value
  | none => none
  | some v => if v.category = 2 then none else some v
def am_st1 : am_L → Nat → Value → am_L
  | [], _, _ => []
  | _ :: l, 0, v => some v :: l
  | o :: l, k + 1, v => (if k = 0 then am_clr o else o) :: am_st1 l k v
def am_st2 (l : am_L) (k : Nat) (v : Value) : am_L := (am_st1 l k v).set (k + 1) none
def am_ld (l : am_L) (k : Nat) : Option Value := (l[k]?).getD none
def am_bin (op : Nat) (x y : Int32) : Option Int32 :=
  if op = 9 then some (x + y) else if op = 10 then some (x - y) else if op = 11 then some (x * y)
  else if op = 12 then (if y = 0 then none else some (x / y)) else if op = 13 then (if y = 0 then none else some (x - x / y * y))
  else if op = 15 then some (x <<< (y &&& 31)) else if op = 16 then some (x >>> (y &&& 31))
  else if op = 17 then some (x.toUInt32 >>> (y.toUInt32 &&& Int32.toUInt32 31)).toInt32
  else if op = 18 then some (x &&& y) else if op = 19 then some (x ||| y) else if op = 20 then some (x ^^^ y) else none
def am_lbin (op : Nat) (x y : Int64) : Option Int64 :=
  if op = 21 then some (x + y) else if op = 22 then some (x - y) else if op = 23 then some (x * y)
  else if op = 24 then (if y = 0 then none else some (x / y)) else if op = 25 then (if y = 0 then none else some (x - x / y * y))
  else if op = 26 then some (x &&& y) else if op = 27 then some (x ||| y) else none
def am_lsh (op : Nat) (x : Int64) (y : Int32) : Option Int64 :=
  if op = 28 then some (x <<< (y.toInt64 &&& 63)) else if op = 29 then some (x >>> (y.toInt64 &&& 63))
  else if op = 30 then some (x.toUInt64 >>> (y.toInt64.toUInt64 &&& Int64.toUInt64 63)).toInt64 else none
def am_cnd (b : Nat) (x y : Int32) : Prop := if b = 0 then x = y else if b = 1 then ¬ x = y else if b = 2 then x < y else if b = 3 then y ≤ x else if b = 4 then y < x else x ≤ y
def am_cndD (b : Nat) (x y : Int32) : Bool := if b = 0 then decide (x = y) else if b = 1 then decide (¬ x = y) else if b = 2 then decide (x < y) else if b = 3 then decide (y ≤ x) else if b = 4 then decide (y < x) else decide (x ≤ y)
def am_br (c : Bool) (t : Nat) (l : am_L) (st : List Value) (h : am_H) : Option Nat × am_L × List Value × am_H := if c = true then (some t, l, st, h) else (none, l, st, h)
/-- what a field may hold -/
def am_fit : FieldType → Value → Bool
  | .int, .int _ => true
  | .long, .long _ => true
  | .boolean, .int x => x == 0 || x == 1
  | .array _, .null => true
  | .array _, .ref _ => true
  | .object _, .null => true
  | .object _, .ref _ => true
  | _, _ => false
def am_inB (i : Int32) (n : Nat) : Bool := !(decide (i < 0) || decide (n ≤ i.toNatClampNeg))
def am_rf : Option Nat → Value
  | none => .null
  | some r => .ref r
def am_cats (st : List Value) : Nat := (st.map fun v => v.category).sum
/-- where a table's jump goes -/
def am_sw (t : Int × Nat × List Nat) (x : Int32) : Nat := if x.toInt < t.1 then t.2.1 else (t.2.2[(x.toInt - t.1).toNat]?).getD t.2.1
def am_arr0 (tag : Nat) : am_A := if tag = 1 then .inr (.inl (fun _ => 0)) else if tag = 3 then .inr (.inr (fun _ => none)) else .inl (fun _ => 0)
