-- THE POOL: every entry that the code names stands among the words of the tables
def am_host (o : Nat) : String := if o = 13 ∨ o = 14 then "GapLetterModel" else "GapLetter"
def am_tb (p : Nat) (w : Cond) : Bool := decide (lw_tbl[p]? = some w) && goodWord w
theorem am_tb_mem {p : Nat} {w : Cond} (h : am_tb p w = true) : w ∈ lw_tbl ∧ goodWord w = true := by
  simp only [am_tb, Bool.and_eq_true, decide_eq_true_eq] at h
  exact ⟨List.mem_of_getElem? h.1, h.2⟩
def am_gf : Nat × Nat × Nat × Nat × Nat × Nat → Bool
  | (o, ix, ci, k, kd, p) => match am_cl[ci]? with
    | some (C, T, N) => decide (k < N) && decide ((T k).1 = C) && (if kd = 0 then am_tb p (.fieldLink (am_cn o) ix C (T k).2.1 (T k).2.2.1) else decide (lw_tbl[p]? = some (.fieldLinkNest (am_cn o) ix C (T k).2.1 (T k).2.2.1 (am_host o))))
    | none => false
def am_prm (d : String) : Option Nat := (parseMethodDescriptor d).map (fun q => q.parameters.length)
def am_pln (C : String) : Bool := decide (C ≠ "java/lang/invoke/MethodHandle") && decide (C ≠ "java/lang/invoke/VarHandle")
def am_gm : Nat × Nat × Nat × Nat × List Nat → Bool
  | (o, ix, y, kd, ps) =>
    if kd = 9 then am_tb (ps.getD 0 0) (.methodLink (am_cn o) ix objectInit) && am_tb (ps.getD 1 0) (.instanceMethod objectInit)
    else if kd = 10 then am_tb (ps.getD 0 0) (.methodLink (am_cn o) ix (if y = 0 then ⟨"java/lang/String", "length", "()I"⟩ else ⟨"java/lang/String", "charAt", "(I)C"⟩))
    else if kd = 11 then am_tb (ps.getD 0 0) (.methodLink (am_cn o) ix (if y = 0 then Lib.Math.max.name else Lib.Math.min.name))
    else
      decide (0 < y) && decide (y < 317) && am_pln (am_nm y).cls
      && (if kd < 3 then am_tb (ps.getD 0 0) (.methodLink (am_cn o) ix (am_nm y)) else decide (lw_tbl[ps.getD 0 0]? = some (.methodLinkNest (am_cn o) ix (am_nm y) (am_host o))))
      && (if kd = 0 ∨ kd = 3 then am_tb (ps.getD 1 0) (.instanceMethod (am_nm y)) && am_tb (ps.getD 2 0) (.selects (am_nm y).cls (am_nm y) (am_nm y)) && am_tb (ps.getD 3 0) (.initialized (am_nm y).cls) && decide ((am_prm (am_nm y).desc).map (fun k => k + 1) = some (am_na y)) && decide ((am_cl[am_rc y]?).map (fun q => q.1) = some (am_nm y).cls)
        else if kd = 1 ∨ kd = 4 then am_tb (ps.getD 1 0) (.static (am_nm y)) && am_tb (ps.getD 2 0) (.initialized (am_nm y).cls) && decide (am_prm (am_nm y).desc = some (am_na y))
        else am_tb (ps.getD 1 0) (.instanceMethod (am_nm y)) && am_tb (ps.getD 2 0) (.initialized (am_nm y).cls) && decide ((am_prm (am_nm y).desc).map (fun k => k + 1) = some (am_na y)) && decide ((am_nm y).name = "<init>") && decide (am_rt y = none))
def am_gc : Nat × Nat × Nat × Nat × Nat → Bool
  | (o, ix, ci, _, p) => match am_cl[ci]? with
    | some (C, _, _) => am_tb p (.classLink (am_cn o) ix C)
    | none => false
def am_gk : Nat × Nat × Int × Nat × Nat → Bool
  | (o, ix, v, p, kd) => if kd = 0 then am_tb p (.constant (am_cn o) ix (Int32.ofInt v)) else am_tb p (.constantLong (am_cn o) ix (Int64.ofInt v))
set_option maxRecDepth 20000 in
theorem am_pf_a0 : am_pf0.all am_gf = true := by decide +kernel
set_option maxRecDepth 20000 in
theorem am_pf_a1 : am_pf1.all am_gf = true := by decide +kernel
set_option maxRecDepth 20000 in
theorem am_pf_a2 : am_pf2.all am_gf = true := by decide +kernel
theorem am_pf_ok : am_pf.all am_gf = true := by
  simp only [am_pf, List.all_append, Bool.and_eq_true]
  exact ⟨am_pf_a0, am_pf_a1, am_pf_a2⟩
set_option maxRecDepth 20000 in
theorem am_pm_a0 : am_pm0.all am_gm = true := by decide +kernel
set_option maxRecDepth 20000 in
theorem am_pm_a1 : am_pm1.all am_gm = true := by decide +kernel
set_option maxRecDepth 20000 in
theorem am_pm_a2 : am_pm2.all am_gm = true := by decide +kernel
set_option maxRecDepth 20000 in
theorem am_pm_a3 : am_pm3.all am_gm = true := by decide +kernel
set_option maxRecDepth 20000 in
theorem am_pm_a4 : am_pm4.all am_gm = true := by decide +kernel
set_option maxRecDepth 20000 in
theorem am_pm_a5 : am_pm5.all am_gm = true := by decide +kernel
set_option maxRecDepth 20000 in
theorem am_pm_a6 : am_pm6.all am_gm = true := by decide +kernel
theorem am_pm_ok : am_pm.all am_gm = true := by
  simp only [am_pm, List.all_append, Bool.and_eq_true]
  exact ⟨am_pm_a0, am_pm_a1, am_pm_a2, am_pm_a3, am_pm_a4, am_pm_a5, am_pm_a6⟩
set_option maxRecDepth 20000 in
theorem am_pc_a0 : am_pc0.all am_gc = true := by decide +kernel
theorem am_pc_ok : am_pc.all am_gc = true := by
  simp only [am_pc, List.all_append, Bool.and_eq_true]
  exact am_pc_a0
set_option maxRecDepth 20000 in
theorem am_pk_a0 : am_pk0.all am_gk = true := by decide +kernel
theorem am_pk_ok : am_pk.all am_gk = true := by
  simp only [am_pk, List.all_append, Bool.and_eq_true]
  exact am_pk_a0
-- every method's code word, and its class's name
def am_mp : List Nat := [0, 137, 482, 486, 490, 494, 655, 693, 721, 725, 729, 733, 737, 741, 746, 750, 765, 769, 783, 787, 796, 804, 812, 816, 820, 825, 829, 833, 837, 841, 845, 849, 853, 858, 865, 874, 890, 895, 902, 912, 916, 926, 930, 938, 942, 953, 962, 966, 973, 977, 1009, 1018, 1026, 1044, 1048, 1052, 1056, 1079, 1083, 1098, 1107, 1111, 1123, 1127, 1131, 1135, 1147, 1159, 1167, 1171, 1179, 1060, 1063, 1069, 1072, 1075, 1086, 1090, 1093, 1101, 868, 877, 881, 898, 416, 717, 981, 993, 997, 1001, 1005, 1013, 1022, 1030, 1034, 1038, 905, 919, 922, 933, 372, 709, 1119, 945, 956, 969, 391, 713, 1115, 1139, 1143, 1151, 1155, 1163, 288, 339, 632, 644, 647, 678, 861, 949, 986, 145, 498, 543, 547, 551, 555, 560, 564, 568, 572, 576, 580, 596, 604, 613, 617, 640, 663, 671, 682, 697, 701, 151, 509, 516, 520, 523, 527, 531, 535, 539, 184, 502, 584, 588, 592, 600, 609, 621, 625, 629, 636, 652, 659, 667, 675, 686, 690, 705, 754, 758, 773, 791, 800, 808, 1245, 1344, 1348, 1352, 1356, 1455, 1459, 1462, 1466, 1470, 1474, 1479, 1482, 1488, 1492, 1497, 1501, 1505, 1508, 1513, 1517, 1521, 1525, 1543, 1547, 1551, 1555, 1559, 1567, 1571, 1580, 1584, 1592, 1596, 1600, 1604, 1608, 1612, 1623, 1631, 1635, 1638, 1641, 1646, 1650, 1654, 1658, 1661, 1665, 1669, 1673, 1677, 1681, 1685, 1689, 1693, 1697, 1701, 1705, 1709, 1713, 1717, 1721, 1725, 1729, 1733, 1737, 1741, 1745, 1749, 1753, 1757, 1761, 1765, 1769, 1773, 1777, 1781, 1785, 1789, 1793, 1797, 1801, 1804, 1808, 1812, 1816, 1820, 1824, 1828, 1832, 1836, 1840, 1844, 1847, 1850, 1854, 1858, 1862, 1866, 1870, 1874, 1878, 1882, 1886, 1889, 1893, 1897, 1901, 1906, 1910, 1917, 1921, 1925, 1929, 1933, 1937, 1941, 1945, 1949, 1953, 1957, 1961, 1965, 1969, 1973, 1977, 1981, 1985, 1361, 1539, 1563, 1576, 1588, 1616, 1620, 1627, 776, 505]
def am_gy (y : Nat) : Bool := decide (lw_tbl[am_mp.getD y 0]? = some (.code (am_nm y) (am_by y) (am_ml y) (am_rt y))) && goodWord (.code (am_nm y) (am_by y) (am_ml y) (am_rt y)) && Jvm.plainName (am_nm y).cls && decide (am_ml y ≤ 20)
set_option maxRecDepth 20000 in
theorem am_gy_a0 : (List.range' 1 40).all am_gy = true := by decide +kernel
set_option maxRecDepth 20000 in
theorem am_gy_a1 : (List.range' 41 40).all am_gy = true := by decide +kernel
set_option maxRecDepth 20000 in
theorem am_gy_a2 : (List.range' 81 40).all am_gy = true := by decide +kernel
set_option maxRecDepth 20000 in
theorem am_gy_a3 : (List.range' 121 40).all am_gy = true := by decide +kernel
set_option maxRecDepth 20000 in
theorem am_gy_a4 : (List.range' 161 40).all am_gy = true := by decide +kernel
set_option maxRecDepth 20000 in
theorem am_gy_a5 : (List.range' 201 40).all am_gy = true := by decide +kernel
set_option maxRecDepth 20000 in
theorem am_gy_a6 : (List.range' 241 40).all am_gy = true := by decide +kernel
set_option maxRecDepth 20000 in
theorem am_gy_a7 : (List.range' 281 36).all am_gy = true := by decide +kernel
theorem am_gy_ok {y : Nat} (h0 : 0 < y) (h1 : y < 317) : am_gy y = true := by
  have h : ∀ {a n : Nat}, (List.range' a n).all am_gy = true → a ≤ y → y < a + n → am_gy y = true := fun {a n} h ha hb => List.all_eq_true.mp h y (List.mem_range'_1.mpr ⟨ha, hb⟩)
  by_cases c0 : y < 41
  · exact h am_gy_a0 (by omega) (by omega)
  by_cases c1 : y < 81
  · exact h am_gy_a1 (by omega) (by omega)
  by_cases c2 : y < 121
  · exact h am_gy_a2 (by omega) (by omega)
  by_cases c3 : y < 161
  · exact h am_gy_a3 (by omega) (by omega)
  by_cases c4 : y < 201
  · exact h am_gy_a4 (by omega) (by omega)
  by_cases c5 : y < 241
  · exact h am_gy_a5 (by omega) (by omega)
  by_cases c6 : y < 281
  · exact h am_gy_a6 (by omega) (by omega)
  exact h am_gy_a7 (by omega) (by omega)
