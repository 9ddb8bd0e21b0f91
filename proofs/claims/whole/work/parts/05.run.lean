-- THE MACHINE'S STEPS AND RUNS
def am_str : List (List Int32) := [[116, 111, 110, 103, 117, 101], [116, 104, 105, 110, 103], [115, 97, 121, 105, 110, 103], [119, 111, 114, 100], [99, 111, 105, 110, 101, 100], [103, 111, 110, 101], [104, 101, 97, 114, 100], [115, 104, 117, 110, 110, 101, 100], [111, 108, 100], [111, 102], [109, 101, 97, 110, 115], [100, 97, 121], [121, 101, 97, 114]]
/-- one instruction that is no call and no end: where it goes (none: on), locals, stack, heap -/
def am_s (xs : Nat → Int32) (L d : Nat) : am_I → am_L → List Value → am_H → Option (Option Nat × am_L × List Value × am_H)
  | (op, _, a, b, c), l, st, h =>
  if op = 0 then some (none, l, .int (Int32.ofInt c) :: st, h)
  else if op = 1 then some (none, l, .long (Int64.ofInt c) :: st, h)
  else if op = 2 then (match am_ld l a with | some (.int x) => some (none, l, .int x :: st, h) | _ => none)
  else if op = 3 then (match am_ld l a with | some (.long x) => some (none, l, .long x :: st, h) | _ => none)
  else if op = 4 then (match am_ld l a with | some (.ref x) => some (none, l, .ref x :: st, h) | some .null => some (none, l, .null :: st, h) | some (.float x) => some (none, l, .float x :: st, h) | _ => none)
  else if op = 5 then (match st with | .int x :: st => some (none, am_st1 l a (.int x), st, h) | _ => none)
  else if op = 6 then (match st with | .long x :: st => some (none, am_st2 l a (.long x), st, h) | _ => none)
  else if op = 7 then (match st with | .ref x :: st => some (none, am_st1 l a (.ref x), st, h) | .null :: st => some (none, am_st1 l a .null, st, h) | _ => none)
  else if op = 8 then (match am_ld l a with | some (.int x) => some (none, am_st1 l a (.int (x + Int32.ofInt c)), st, h) | _ => none)
  else if op ≤ 20 then (match st with | .int y :: .int x :: st => (match am_bin op x y with | some z => some (none, l, .int z :: st, h) | none => none) | _ => none)
  else if op ≤ 27 then (match st with | .long y :: .long x :: st => (match am_lbin op x y with | some z => some (none, l, .long z :: st, h) | none => none) | _ => none)
  else if op ≤ 30 then (match st with | .int y :: .long x :: st => (match am_lsh op x y with | some z => some (none, l, .long z :: st, h) | none => none) | _ => none)
  else if op = 31 then (match st with | .long y :: .long x :: st => some (none, l, .int (lg_cmp x y) :: st, h) | _ => none)
  else if op = 32 then (match st with | .int x :: st => some (none, l, .long x.toInt64 :: st, h) | _ => none)
  else if op = 33 then (match st with | .long x :: st => some (none, l, .int x.toInt32 :: st, h) | _ => none)
  else if op = 34 then (match st with | .int x :: st => some (none, l, .int x.toInt8.toInt32 :: st, h) | _ => none)
  else if op = 35 then (match st with | .int x :: st => some (none, l, .int (x.toUInt32 % 65536).toInt32 :: st, h) | _ => none)
  else if op = 36 then (match st with | v :: st => if v.category = 1 then some (none, l, v :: v :: st, h) else none | _ => none)
  else if op = 37 then (match st with | v :: st => if v.category = 1 then some (none, l, st, h) else none | _ => none)
  else if op = 38 then (match st with | v :: w :: st => if v.category = 1 ∧ w.category = 1 then some (none, l, v :: w :: v :: w :: st, h) else none | _ => none)
  else if op = 39 then (match st with | .int x :: st => some (am_br (am_cndD b x 0) a l st h) | _ => none)
  else if op = 40 then (match st with | .int y :: .int x :: st => some (am_br (am_cndD b x y) a l st h) | _ => none)
  else if op = 41 then some (some a, l, st, h)
  else if op = 42 then (match st with | .null :: st => some (some a, l, st, h) | .ref _ :: st => some (none, l, st, h) | _ => none)
  else if op = 43 then (match st with | .null :: st => some (none, l, st, h) | .ref _ :: st => some (some a, l, st, h) | _ => none)
  else if op = 44 then (match st with | .int x :: st => some (some (am_sw (am_swt a) x), l, st, h) | _ => none)
  else if op = 45 then (match st with | .ref r :: st => (match h.2.2 r with | some (.inr (ci, fs)) => if ci = b then (match fs[a]? with | some v => some (none, l, v :: st, h) | none => none) else none | _ => none) | _ => none)
  else if op ≤ 47 then (match st with | v :: .ref r :: st => (match h.2.2 r with | some (.inr (ci, fs)) => if ci = b ∧ a < fs.length ∧ am_fit (am_fty b a) v = true then some (none, l, st, am_set h r (.inr (ci, fs.set a v))) else none | _ => none) | _ => none)
  else if op = 48 then (match st with
    | .int j :: .ref r :: st => (match h.2.2 r with | some (.inl (0, n, .inl f)) => if am_inB j n = true then some (none, l, .int (f j.toNatClampNeg) :: st, h) else none | _ => none)
    | .int j :: .float u :: st => if u = 100 ∧ am_inB j L = true then some (none, l, .int (xs j.toNatClampNeg) :: st, h) else none
    | _ => none)
  else if op = 49 then (match st with | .int j :: .ref r :: st => (match h.2.2 r with | some (.inl (1, n, .inr (.inl f))) => if am_inB j n = true then some (none, l, .long (f j.toNatClampNeg) :: st, h) else none | _ => none) | _ => none)
  else if op = 50 then (match st with | .int j :: .ref r :: st => (match h.2.2 r with | some (.inl (2, n, .inl f)) => if am_inB j n = true then some (none, l, .int (f j.toNatClampNeg) :: st, h) else none | _ => none) | _ => none)
  else if op = 51 then (match st with | .int j :: .ref r :: st => (match h.2.2 r with | some (.inl (3, n, .inr (.inr f))) => if am_inB j n = true then some (none, l, am_rf (f j.toNatClampNeg) :: st, h) else none | _ => none) | _ => none)
  else if op = 52 then (match st with | .int x :: .int j :: .ref r :: st => (match h.2.2 r with | some (.inl (0, n, .inl f)) => if am_inB j n = true then some (none, l, st, am_set h r (.inl (0, n, .inl (upd f j.toNatClampNeg x)))) else none | _ => none) | _ => none)
  else if op = 53 then (match st with | .long x :: .int j :: .ref r :: st => (match h.2.2 r with | some (.inl (1, n, .inr (.inl f))) => if am_inB j n = true then some (none, l, st, am_set h r (.inl (1, n, .inr (.inl (vp_updL f j.toNatClampNeg x))))) else none | _ => none) | _ => none)
  else if op = 54 then (match st with | .int x :: .int j :: .ref r :: st => (match h.2.2 r with | some (.inl (2, n, .inl f)) => if am_inB j n = true then some (none, l, st, am_set h r (.inl (2, n, .inl (upd f j.toNatClampNeg (vp_nar .byte x))))) else none | _ => none) | _ => none)
  else if op = 55 then (match st with | .ref v :: .int j :: .ref r :: st => (match h.2.2 r, h.2.2 v with | some (.inl (3, n, .inr (.inr f))), some (.inr (1, _)) => if am_inB j n = true then some (none, l, st, am_set h r (.inl (3, n, .inr (.inr (va_up f j.toNatClampNeg (some v)))))) else none | _, _ => none) | _ => none)
  else if op = 56 then (match st with
    | .ref r :: st => (match h.2.2 r with | some (.inl (tag, n, _)) => if tag ≤ 3 then some (none, l, .int (Int32.ofNat n) :: st, h) else none | _ => none)
    | .float u :: st => if u = 100 then some (none, l, .int (Int32.ofNat L) :: st, h) else none
    | _ => none)
  else if op = 57 then (match st with | .int n :: st => if a ≤ 2 ∧ ¬ n < 0 ∧ n.toNatClampNeg ≤ 67108864 then some (none, l, .ref h.1 :: st, am_new h (.inl (a, n.toNatClampNeg, am_arr0 a)) n.toNatClampNeg) else none | _ => none)
  else if op = 58 then (match st with | .int n :: st => if ¬ n < 0 ∧ n.toNatClampNeg ≤ 67108864 then some (none, l, .ref h.1 :: st, am_new h (.inl (3, n.toNatClampNeg, am_arr0 3)) n.toNatClampNeg) else none | _ => none)
  else if op = 59 then some (none, l, .ref h.1 :: st, am_new h (.inr (a, am_def a)) (am_n a))
  else if op = 61 then (match st with | .ref _ :: st => if 1 ≤ d ∧ am_cats st ≤ 8 then some (none, l, st, h) else none | _ => none)
  else if op = 68 then some (none, l, .float (UInt32.ofNat a) :: st, h)
  else if op = 69 then (match st with | .float u :: st => if u.toNat < 13 ∧ 3 ≤ d ∧ am_cats st ≤ 8 then some (none, l, .int (nI (am_str.getD u.toNat []).length) :: st, h) else none | _ => none)
  else if op = 70 then (match st with | .int j :: .float u :: st => if u.toNat < 13 ∧ 3 ≤ d ∧ am_cats st ≤ 8 ∧ am_inB j (am_str.getD u.toNat []).length = true then some (none, l, .int ((am_str.getD u.toNat []).getD j.toNatClampNeg 0) :: st, h) else none | _ => none)
  else if op = 71 then (match st with | .int y :: .int x :: st => if 1 ≤ d ∧ am_cats st ≤ 8 then some (none, l, .int (if x < y then y else x) :: st, h) else none | _ => none)
  else if op = 74 then (match st with | .int y :: .int x :: st => if 1 ≤ d ∧ am_cats st ≤ 8 then some (none, l, .int (if y < x then y else x) :: st, h) else none | _ => none)
  else none
/-- a method's locals at its entry -/
def am_args : List Value → am_L
  | [] => []
  | v :: vs => if v.category = 2 then some v :: none :: am_args vs else some v :: am_args vs
def am_ent (n : Nat) (vs : List Value) : am_L := am_args vs ++ List.replicate (n - (am_args vs).length) none
/-- what a method's end gives back -/
def am_rv (i : am_I) (st : List Value) : Option (Option Value) :=
  if i.1 = 67 then (match st with | [] => some none | _ => none)
  else if i.1 = 64 then (match st with | [.int x] => some (some (.int x)) | _ => none)
  else if i.1 = 65 then (match st with | [.long x] => some (some (.long x)) | _ => none)
  else if i.1 = 66 then (match st with | [.ref x] => some (some (.ref x)) | _ => none)
  else none
/-- may this method be called so? (60 static, 62 by its object's class, 63 a constructor) -/
def am_may (op y : Nat) (av : List Value) (h : am_H) : Bool :=
  if op = 60 then am_rc y == 99
  else match av with
    | .ref r :: _ => if op = 62 then (match h.2.2 r with | some (.inr (ci, _)) => ci == am_rc y | _ => false) else (am_rc y != 99)
    | _ => false
/-- what a boolean method gives back is 0 or 1 -/
def am_rok (y : Nat) (v : Option Value) : Bool := match am_rt y, v with
  | none, none => true
  | some .int, some (.int _) => true
  | some .long, some (.long _) => true
  | some .boolean, some (.int x) => x == 0 || x == 1
  | some (.object _), some (.ref _) => true
  | _, _ => false
/-- runs: fuel, how deep calls may go yet, the method, its code from here on, locals, stack, heap: the instruction that ends it, the stack there, the heap -/
noncomputable def am_x (xs : Nat → Int32) (L : Nat) : Nat → Nat → Nat → List am_I → am_L → List Value → am_H → Option (am_I × List Value × am_H)
  | 0, _, _, _, _, _, _ => none
  | _ + 1, _, _, [], _, _, _ => none
  | n + 1, d, y, i :: is, l, st, h =>
    if i.1 = 60 ∨ i.1 = 62 ∨ i.1 = 63 then
      (match d with
      | 0 => none
      | d + 1 =>
        if i.2.2.2.1 ≤ st.length ∧ i.2.2.2.1 = am_na i.2.2.1 ∧ am_may i.1 i.2.2.1 (st.take i.2.2.2.1).reverse h = true ∧ am_cats (st.drop i.2.2.2.1) ≤ 8 ∧ (am_args (st.take i.2.2.2.1).reverse).length ≤ am_ml i.2.2.1 then
          (match am_x xs L n d i.2.2.1 (am_j i.2.2.1 0) (am_ent (am_ml i.2.2.1) (st.take i.2.2.2.1).reverse) [] h with
          | none => none
          | some (r, rs, h') => (match am_rv r rs with
            | none => none
            | some v => if am_rok i.2.2.1 v = true then am_x xs L n (d + 1) y is l (v.toList ++ st.drop i.2.2.2.1) h' else none))
        else none)
    else if i.1 = 73 then
      (match d with
      | 0 => none
      | 1 => none
      | d + 2 =>
        (match st with
        | .ref o :: .int p0 :: .ref r :: st =>
          (match h.2.2 o, h.2.2 r with
          | some (.inl (1, on, .inr (.inl of))), some (.inr (6, _)) =>
            if 1 ≤ on ∧ am_cats st ≤ 8 then
              (match am_x xs L n d 70 (am_j 70 0) (am_ent (am_ml 70) [.ref r, .int p0]) [] h with
              | none => none
              | some (e, rs, h') => (match h'.2.2 o with
                | some (.inl (1, on', .inr (.inl of'))) =>
                  if e.1 = 72 then am_x xs L n (d + 2) y is l (.int 1 :: st) (am_new h' (.inr (9, [])) 6)
                  else (match am_rv e rs with
                    | some (some (.int v)) => if 1 ≤ on' then am_x xs L n (d + 2) y is l (.int 0 :: st) (am_set h' o (.inl (1, on', .inr (.inl (vp_updL of' 0 v.toInt64))))) else none
                    | _ => none)
                | _ => none))
            else none
          | _, _ => none)
        | _ => none))
    else if (64 ≤ i.1 ∧ i.1 ≤ 67) ∨ i.1 = 72 then some (i, st, h)
    else (match am_s xs L d i l st h with
      | none => none
      | some (none, l', st', h') => am_x xs L n d y is l' st' h'
      | some (some t, l', st', h') => am_x xs L n d y (am_j y t) l' st' h')
/-- the weakest start: it comes to an end with Q -/
def am_w (xs : Nat → Int32) (L d y : Nat) (is : List am_I) (l : am_L) (st : List Value) (h : am_H) (Q : am_I → List Value → am_H → Prop) : Prop := ∃ (n : Nat) (i : am_I) (rs : List Value) (h' : am_H), am_x xs L n d y is l st h = some (i, rs, h') ∧ Q i rs h'
