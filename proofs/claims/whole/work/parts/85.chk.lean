-- THE AM'S CODE IS THE CLASS FILES' CODE
def am_cdn : Jvm.ClassFile.Cond → Nat
  | .eq => 0
  | .ne => 1
  | .lt => 2
  | .ge => 3
  | .gt => 4
  | .le => 5
def am_aty : ArrayType → Nat
  | .int => 0
  | .long => 1
  | .byte => 2
  | _ => 9
def am_okk (y a : Nat) (c : Int) (ix kd : Nat) : Bool := match am_pk[a - 1]? with
  | some (o, ix', v, _, kd') => o == am_ow y && ix' == ix && v == c && kd' == kd
  | none => false
def am_okf (y a b : Nat) (c : Int) (ix : Nat) : Bool := match am_pf[c.toNat]? with
  | some (o, ix', ci, k, _, _) => o == am_ow y && ix' == ix && ci == b && k == a
  | none => false
def am_okm (y a : Nat) (c : Int) (ix k1 k2 : Nat) : Bool := match am_pm[c.toNat]? with
  | some (o, ix', y', kd, _) => o == am_ow y && ix' == ix && y' == a && (kd == k1 || kd == k2)
  | none => false
def am_okc (y a : Nat) (c : Int) (ix kd : Nat) : Bool := match am_pc[c.toNat]? with
  | some (o, ix', ci, kd', _) => o == am_ow y && ix' == ix && ci == a && kd' == kd
  | none => false
def am_oks (y a b ix : Nat) : Bool := match am_ps[b]? with
  | some (o, ix', k, _) => o == am_ow y && ix' == ix && k == a
  | none => false
def am_swk (pc a : Nat) (d lo hi : Int) (offs : Array Int) : Bool :=
  decide ((am_swt a).1 = lo) && decide ((pc : Int) + d = ((am_swt a).2.1 : Nat)) && decide (offs.toList.map (fun o => (pc : Int) + o) = (am_swt a).2.2.map (fun (t : Nat) => (t : Int))) && decide (hi + 1 - lo = (offs.toList.length : Nat))
def am_fin (ci k : Nat) : Bool := match am_cl[ci]? with
  | some (_, T, _) => (T k).2.2.2
  | none => false
/-- does the AM's instruction stand for this one? -/
def am_ok (y pc : Nat) : am_I → Instr → Bool
  | (op, ln, a, b, c), j => match j with
  | .iconst n => op == 0 && ln == 1 && decide (Int32.ofInt n = Int32.ofInt c)
  | .bipush n => op == 0 && ln == 2 && decide ((Int8.ofInt n).toInt32 = Int32.ofInt c)
  | .sipush n => op == 0 && ln == 3 && decide ((Int16.ofInt n).toInt32 = Int32.ofInt c)
  | .ldc ix => ln == 2 && ((op == 0 && am_okk y a c ix 0) || (op == 68 && am_oks y a b ix))
  | .ldc_w ix => ln == 3 && op == 0 && am_okk y a c ix 0
  | .ldc2_w ix => ln == 3 && op == 1 && am_okk y a c ix 1
  | .lconst n => op == 1 && ln == 1 && decide (Int64.ofNat n.val = Int64.ofInt c)
  | .iload_n k => op == 2 && ln == 1 && a == k.val
  | .iload k => op == 2 && ln == 2 && a == k
  | .lload_n k => op == 3 && ln == 1 && a == k.val
  | .lload k => op == 3 && ln == 2 && a == k
  | .aload_n k => op == 4 && ln == 1 && a == k.val
  | .aload k => op == 4 && ln == 2 && a == k
  | .istore_n k => op == 5 && ln == 1 && a == k.val && decide (a < am_ml y)
  | .istore k => op == 5 && ln == 2 && a == k && decide (a < am_ml y)
  | .lstore_n k => op == 6 && ln == 1 && a == k.val && decide (a + 1 < am_ml y)
  | .lstore k => op == 6 && ln == 2 && a == k && decide (a + 1 < am_ml y)
  | .astore_n k => op == 7 && ln == 1 && a == k.val && decide (a < am_ml y)
  | .astore k => op == 7 && ln == 2 && a == k && decide (a < am_ml y)
  | .iinc k n => op == 8 && ln == 3 && a == k && decide (n = c) && decide (a < am_ml y)
  | .iadd => op == 9 && ln == 1
  | .isub => op == 10 && ln == 1
  | .imul => op == 11 && ln == 1
  | .idiv => op == 12 && ln == 1
  | .irem => op == 13 && ln == 1
  | .ishl => op == 15 && ln == 1
  | .ishr => op == 16 && ln == 1
  | .iushr => op == 17 && ln == 1
  | .iand => op == 18 && ln == 1
  | .ior => op == 19 && ln == 1
  | .ixor => op == 20 && ln == 1
  | .ladd => op == 21 && ln == 1
  | .lsub => op == 22 && ln == 1
  | .lmul => op == 23 && ln == 1
  | .ldiv => op == 24 && ln == 1
  | .lrem => op == 25 && ln == 1
  | .land => op == 26 && ln == 1
  | .lor => op == 27 && ln == 1
  | .lshl => op == 28 && ln == 1
  | .lshr => op == 29 && ln == 1
  | .lushr => op == 30 && ln == 1
  | .lcmp => op == 31 && ln == 1
  | .i2l => op == 32 && ln == 1
  | .l2i => op == 33 && ln == 1
  | .i2b => op == 34 && ln == 1
  | .i2c => op == 35 && ln == 1
  | .dup => op == 36 && ln == 1
  | .pop => op == 37 && ln == 1
  | .dup2 => op == 38 && ln == 1
  | .ifCond cd off => op == 39 && ln == 3 && b == am_cdn cd && decide ((pc : Int) + off = (a : Int))
  | .if_icmp cd off => op == 40 && ln == 3 && b == am_cdn cd && decide ((pc : Int) + off = (a : Int))
  | .goto off => op == 41 && ln == 3 && decide ((pc : Int) + off = (a : Int))
  | .ifnull off => op == 42 && ln == 3 && decide ((pc : Int) + off = (a : Int))
  | .ifnonnull off => op == 43 && ln == 3 && decide ((pc : Int) + off = (a : Int))
  | .tableswitch d lo hi offs => op == 44 && am_swk pc a d lo hi offs
  | .getfield ix => op == 45 && ln == 3 && am_okf y a b c ix
  | .putfield ix => ((op == 46 && !am_fin b a) || (op == 47 && am_fin b a && decide ((am_nm y).name = "<init>") && decide ((am_cl[b]?).map (fun q => q.1) = some (am_cn (am_ow y))))) && ln == 3 && am_okf y a b c ix
  | .iaload => op == 48 && ln == 1
  | .laload => op == 49 && ln == 1
  | .baload => op == 50 && ln == 1
  | .aaload => op == 51 && ln == 1
  | .iastore => op == 52 && ln == 1
  | .lastore => op == 53 && ln == 1
  | .bastore => op == 54 && ln == 1
  | .aastore => op == 55 && ln == 1
  | .arraylength => op == 56 && ln == 1
  | .newarray t => op == 57 && ln == 2 && a == am_aty t
  | .anewarray ix => op == 58 && ln == 3 && am_okc y 1 c ix 1
  | .new ix => ln == 3 && ((op == 59 && am_okc y a c ix 0) || (op == 72 && y == 70 && pc == 69 && ix == 322))
  | .invokestatic ix => ln == 3 && ((op == 60 && am_okm y a c ix 1 4) || (op == 73 && y == 0 && ix == 222) || (op == 71 && am_okm y 0 c ix 11 11) || (op == 74 && am_okm y 1 c ix 11 11))
  | .invokevirtual ix => ln == 3 && ((op == 62 && am_okm y a c ix 0 3) || (op == 69 && am_okm y 0 c ix 10 10) || (op == 70 && am_okm y 1 c ix 10 10))
  | .invokespecial ix => ln == 3 && ((op == 63 && am_okm y a c ix 2 5) || (op == 61 && am_okm y 0 c ix 9 9) || op == 99)
  | .ireturn => op == 64 && ln == 1
  | .lreturn => op == 65 && ln == 1
  | .areturn => op == 66 && ln == 1
  | .return_ => op == 67 && ln == 1
  | .athrow => op == 98 && ln == 1
  | _ => false
def am_chk (y : Nat) : Nat → List am_I → Bool
  | _, [] => true
  | pc, i :: is => (match decode (am_by y) pc with | .ok (j, n) => n == i.2.1 && am_ok y pc i j | .error _ => false) && am_chk y (pc + i.2.1) is
