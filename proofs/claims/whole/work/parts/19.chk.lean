/-! the tables against the claim's words: a test that the kernel runs -/
def am_w1s : List Nat := [295, 746, 1109, 1100, 1104, 134, 1272, 505, 545, 676, 988, 525, 1170, 493, 513, 529, 1117, 1133, 1255, 1142, 680, 201, 565, 579, 557, 553, 668, 711, 1032, 276,
  615, 623, 630, 633, 423, 1158, 1196, 1213, 328, 841, 782, 844, 847, 911, 919, 948, 956, 404, 1244, 243, 774, 618, 927, 975, 951, 923, 967, 996, 1000, 533,
  759, 762, 980, 1286, 1468, 1479, 1740, 1297, 1669, 1498, 1507, 1526, 1603, 1564, 1572, 1588, 1576, 1596, 1614, 1599, 1584, 1621, 1641, 1656, 1712, 1704, 1693, 1717, 1677, 1744,
  1697, 1748, 1824, 1872, 1904, 1932, 1945, 1940, 1988, 705, 793, 803, 867, 872, 815, 369, 1095, 541, 521, 501, 1048, 1052, 1027, 1129, 575, 598, 688, 606, 549, 582,
  602, 659, 734, 627, 1227, 1209, 972, 964, 944, 1139, 1178, 1252, 308, 1278, 561, 1019, 489, 509, 754, 984, 1113, 1166, 1292, 1476, 1764, 1491, 1464, 1482, 1494, 1502,
  1510, 1522, 1618, 1592, 1625, 1709, 1660, 1725, 1792, 1808, 1892, 1901, 1929, 1936, 1953, 1973, 1965, 1980, 1984, 789, 810, 864, 647, 684, 610, 1200, 1222, 960, 940, 1125,
  1248, 126, 497, 517, 537, 654, 663, 1015, 1043, 1174, 1268, 1282, 1471, 1486, 1519, 1701, 1760, 1768, 1851, 1879, 1888, 1916, 1923, 1948, 1969, 859, 807, 594, 729, 700,
  1190, 936, 642, 672, 1036, 1121, 1218, 1568, 1611, 1629, 1649, 1737, 1689, 1721, 1784, 1756, 1787, 1795, 1799, 1803, 1883, 1911, 1919, 799, 855, 696, 1089, 851, 837, 932,
  1151, 1240, 589, 1023, 1161, 1184, 1560, 1580, 1607, 1633, 1653, 1733, 1685, 1751, 1780, 1847, 724, 785, 915, 1235, 1263, 692, 1085, 1146, 1645, 1729, 1776, 1843, 1876, 1895,
  1907, 1961, 742, 1060, 1071, 1080, 779, 720, 1005, 1231, 1259, 1637, 1681, 1771, 1811, 1867, 1956, 1976, 770, 715, 738, 992, 1056, 1067, 1076, 1514, 1673, 1855, 1859, 1863,
  766, 1664, 1820, 1815, 1839, 1827, 0]
def am_w2s : List Nat := [0, 0, 22, 20, 21, 0, 1273, 506, 546, 677, 989, 526, 1171, 494, 514, 530, 1118, 1134, 1256, 1143, 681, 0, 566, 0, 558, 554, 669, 712, 1033, 0,
  0, 1, 0, 0, 0, 0, 24, 27, 0, 6, 0, 0, 0, 7, 9, 14, 15, 0, 30, 0, 775, 619, 928, 976, 952, 924, 968, 997, 1001, 534,
  4, 763, 981, 1287, 0, 0, 0, 33, 60, 1499, 36, 0, 48, 39, 41, 45, 42, 47, 0, 0, 44, 0, 56, 1657, 0, 0, 66, 0, 62, 74,
  67, 75, 86, 88, 0, 0, 96, 95, 1989, 0, 794, 804, 0, 0, 0, 0, 1096, 542, 522, 502, 1049, 1053, 1028, 1130, 576, 599, 689, 607, 550, 583,
  603, 660, 735, 2, 28, 26, 18, 17, 13, 23, 1179, 32, 0, 1279, 562, 1020, 490, 510, 755, 985, 1114, 1167, 0, 34, 78, 35, 1465, 1483, 1495, 1503,
  1511, 0, 51, 46, 52, 0, 1661, 70, 83, 84, 91, 0, 93, 94, 97, 101, 99, 1981, 1985, 790, 0, 0, 648, 685, 611, 25, 1223, 16, 12, 1126,
  31, 0, 498, 518, 538, 655, 664, 1016, 1044, 1175, 1269, 1283, 1472, 1487, 37, 68, 77, 79, 1852, 1880, 90, 92, 1924, 1949, 100, 860, 0, 595, 730, 701,
  1191, 11, 643, 673, 1037, 1122, 1219, 40, 50, 53, 58, 73, 65, 69, 82, 76, 1788, 1796, 1800, 1804, 1884, 1912, 1920, 800, 856, 697, 1090, 0, 0, 10,
  1152, 29, 590, 1024, 1162, 1185, 38, 43, 49, 54, 59, 72, 64, 1752, 81, 1848, 725, 0, 8, 1236, 1264, 693, 1086, 1147, 57, 71, 80, 1844, 89, 1896,
  1908, 98, 743, 1061, 1072, 1081, 5, 3, 19, 1232, 1260, 55, 63, 1772, 1812, 1868, 1957, 1977, 771, 716, 739, 993, 1057, 1068, 1077, 1515, 61, 1856, 1860, 1864,
  767, 1665, 85, 1816, 87, 1828, 0]
def am_wis : List Nat := [108, 108, 111, 111, 111, 104, 104, 104, 104, 104, 104, 104, 104, 104, 104, 104, 104, 104, 104, 104, 104, 105, 105, 105, 105, 105, 105, 105, 105, 107,
  107, 107, 107, 107, 113, 113, 113, 113, 110, 110, 110, 110, 110, 110, 110, 110, 110, 112, 112, 106, 106, 106, 106, 106, 106, 106, 106, 106, 106, 103,
  103, 103, 103, 103, 114, 114, 114, 114, 114, 114, 114, 114, 114, 114, 114, 114, 114, 114, 114, 114, 114, 114, 114, 114, 114, 114, 114, 114, 114, 114,
  114, 114, 114, 114, 114, 114, 114, 114, 114, 117, 118, 118, 119, 119, 120, 111, 111, 104, 104, 104, 104, 104, 104, 104, 105, 105, 105, 105, 105, 105,
  105, 105, 105, 107, 113, 113, 110, 110, 110, 112, 112, 112, 109, 109, 109, 109, 103, 103, 103, 103, 103, 103, 114, 114, 114, 114, 114, 114, 114, 114,
  114, 114, 114, 114, 114, 114, 114, 114, 114, 114, 114, 114, 114, 114, 114, 114, 114, 114, 114, 118, 118, 119, 105, 105, 107, 113, 113, 110, 110, 112,
  112, 103, 103, 103, 103, 103, 103, 103, 103, 103, 103, 103, 114, 114, 114, 114, 114, 114, 114, 114, 114, 114, 114, 114, 114, 118, 119, 108, 108, 107,
  113, 110, 103, 103, 103, 103, 103, 114, 114, 114, 114, 114, 114, 114, 114, 114, 114, 114, 114, 114, 114, 114, 114, 118, 118, 108, 111, 110, 110, 110,
  112, 112, 103, 103, 103, 103, 114, 114, 114, 114, 114, 114, 114, 114, 114, 114, 108, 110, 110, 112, 112, 103, 103, 103, 114, 114, 114, 114, 114, 114,
  114, 114, 108, 111, 111, 111, 110, 103, 103, 103, 103, 114, 114, 114, 114, 114, 114, 114, 110, 103, 103, 103, 103, 103, 103, 114, 114, 114, 114, 114,
  103, 114, 114, 114, 114, 114, 102]
/-- by class: where its instantiable, its initialized stand -/
def am_wci : List (Nat × Nat) := [(293, 108), (367, 111), (132, 104), (199, 105), (274, 107), (421, 113), (326, 110), (402, 112), (241, 106), (306, 109), (124, 103), (1290, 114)]
def am_wat (i : Nat) (w : Cond) : Bool := decide (lw_tbl[i]? = some w) && (goodWord w || am_isN w)
theorem am_wat_ok {i : Nat} {w : Cond} (h : am_wat i w = true) : w ∈ am_G := by
  unfold am_wat at h
  simp only [Bool.and_eq_true, decide_eq_true_eq] at h
  exact List.mem_filter.mpr ⟨List.mem_of_getElem? h.1, h.2⟩
def am_wag (i : Nat) (w : Cond) : Bool := decide (lw_tbl[i]? = some w) && goodWord w
theorem am_wag_ok {i : Nat} {w : Cond} (h : am_wag i w = true) : w ∈ am_Gg := by
  unfold am_wag at h
  simp only [Bool.and_eq_true, decide_eq_true_eq] at h
  exact List.mem_filter.mpr ⟨List.mem_of_getElem? h.1, h.2⟩
def am_rtb (k : Nat) (t : Option FieldType) : Bool := match k with
  | 0 => decide (t = none)
  | 1 => decide (t = some .int)
  | 2 => decide (t = some .boolean)
  | 3 => decide (t = some .char)
  | 4 => decide (t = some .byte)
  | 5 => decide (t = some .long)
  | _ => false
def am_zb (z : Nat) : Bool := plainName (am_nm z).cls && (decide ((am_nm z).cls ≠ "java/lang/invoke/MethodHandle") && (decide ((am_nm z).cls ≠ "java/lang/invoke/VarHandle") && (am_wag (am_ci z) (Cond.code (am_nm z) (am_bc z) (am_ml z) (am_rt z)) && (am_wat (am_wis.getD z 0) (Cond.initialized (am_nm z).cls) && ((decide (am_ml z ≤ 14) && (decide (z < am_law) && decide (am_pc z 0 = 0))) && am_rtb (am_rk z) (am_rt z))))))
theorem am_zb_ok {z : Nat} (h : am_zb z = true) : am_zOk z := by
  unfold am_zb at h
  simp only [Bool.and_eq_true, decide_eq_true_eq] at h
  obtain ⟨h1, h2, h3, h4, h5, ⟨h6, h7, h8⟩, h9⟩ := h
  refine ⟨h1, h2, h3, am_wag_ok h4, am_wat_ok h5, ⟨h6, h7, h8⟩, ?_⟩
  generalize am_rk z = k at h9 ⊢
  unfold am_rtb at h9
  match k, h9 with
  | 0, h9 => exact Or.inl ⟨rfl, of_decide_eq_true h9⟩
  | 1, h9 => exact Or.inr (Or.inl ⟨rfl, of_decide_eq_true h9⟩)
  | 2, h9 => exact Or.inr (Or.inr (Or.inl ⟨rfl, of_decide_eq_true h9⟩))
  | 3, h9 => exact Or.inr (Or.inr (Or.inr (Or.inl ⟨rfl, of_decide_eq_true h9⟩)))
  | 4, h9 => exact Or.inr (Or.inr (Or.inr (Or.inr (Or.inl ⟨rfl, of_decide_eq_true h9⟩))))
  | 5, h9 => exact Or.inr (Or.inr (Or.inr (Or.inr (Or.inr ⟨rfl, of_decide_eq_true h9⟩))))
  | n + 6, h9 => cases h9
def am_kb (own : String) (q : Instr) (a : Int) (h : Nat) : Bool := match q with
  | .iconst n => decide (-128 ≤ n) && decide (n < 128)
  | .bipush n => decide (-128 ≤ n) && decide (n < 128)
  | .sipush n => decide (-32768 ≤ n) && decide (n < 32768)
  | .ldc k => am_wat (h + 102) (Cond.constant own k (Int32.ofInt a)) && (decide (-2147483648 ≤ a) && decide (a < 2147483648))
  | .ldc_w k => am_wat (h + 102) (Cond.constant own k (Int32.ofInt a)) && (decide (-2147483648 ≤ a) && decide (a < 2147483648))
  | .ldc2_w k => am_wat (h + 102) (Cond.constantLong own k (Int64.ofInt a)) && (decide (-9223372036854775808 ≤ a) && decide (a < 9223372036854775808))
  | _ => true
theorem am_kb_ok {own : String} {q : Instr} {a : Int} {h : Nat} (hb : am_kb own q a h = true) : am_kOk own q a := by
  cases q
  case iconst n =>
    have hb : (decide (-128 ≤ n) && decide (n < 128)) = true := hb
    simp only [Bool.and_eq_true, decide_eq_true_eq] at hb
    exact hb
  case bipush n =>
    have hb : (decide (-128 ≤ n) && decide (n < 128)) = true := hb
    simp only [Bool.and_eq_true, decide_eq_true_eq] at hb
    exact hb
  case sipush n =>
    have hb : (decide (-32768 ≤ n) && decide (n < 32768)) = true := hb
    simp only [Bool.and_eq_true, decide_eq_true_eq] at hb
    exact hb
  case ldc k =>
    have hb : (am_wat (h + 102) (Cond.constant own k (Int32.ofInt a)) && (decide (-2147483648 ≤ a) && decide (a < 2147483648))) = true := hb
    simp only [Bool.and_eq_true, decide_eq_true_eq] at hb
    exact ⟨am_wat_ok hb.1, hb.2⟩
  case ldc_w k =>
    have hb : (am_wat (h + 102) (Cond.constant own k (Int32.ofInt a)) && (decide (-2147483648 ≤ a) && decide (a < 2147483648))) = true := hb
    simp only [Bool.and_eq_true, decide_eq_true_eq] at hb
    exact ⟨am_wat_ok hb.1, hb.2⟩
  case ldc2_w k =>
    have hb : (am_wat (h + 102) (Cond.constantLong own k (Int64.ofInt a)) && (decide (-9223372036854775808 ≤ a) && decide (a < 9223372036854775808))) = true := hb
    simp only [Bool.and_eq_true, decide_eq_true_eq] at hb
    exact ⟨am_wat_ok hb.1, hb.2⟩
  all_goals trivial
def am_jb (y pc len : Nat) (q : Instr) (h : Nat) (x : List Nat) (i : Nat) : Bool := match q with
  | .goto off => decide (len = 3) && decide ((pc : Int) + off = am_pc y h)
  | .ifCond _ off => decide (len = 3) && (decide ((pc : Int) + off = am_pc y h) && decide (am_pc y i = pc + 3))
  | .if_icmp _ off => decide (len = 3) && (decide ((pc : Int) + off = am_pc y h) && decide (am_pc y i = pc + 3))
  | .ifnull off => decide (len = 3) && (decide ((pc : Int) + off = am_pc y h) && decide (am_pc y i = pc + 3))
  | .ifnonnull off => decide (len = 3) && (decide ((pc : Int) + off = am_pc y h) && decide (am_pc y i = pc + 3))
  | .tableswitch d lo hi offs => decide ((pc : Int) + d = am_pc y h) && (decide (hi = lo + x.length - 1) && decide (offs.toList.map (fun o => (pc : Int) + o) = x.map (fun t => (am_pc y t : Int))))
  | .lookupswitch d ps => decide ((pc : Int) + d = am_pc y h) && ((ps.toList.zip (ps.toList.drop 1)).all (fun (a, next) => a.1 < next.1) && decide (ps.toList.map (fun q => (pc : Int) + q.2) = x.map (fun t => (am_pc y t : Int))))
  | _ => true
theorem am_jb_ok {y pc len : Nat} {q : Instr} {h : Nat} {x : List Nat} {i : Nat} (hb : am_jb y pc len q h x i = true) : am_jOk y pc len q h x i := by
  cases q
  case goto off =>
    have hb : (decide (len = 3) && decide ((pc : Int) + off = am_pc y h)) = true := hb
    simp only [Bool.and_eq_true, decide_eq_true_eq] at hb
    exact hb
  case ifCond cd off =>
    have hb : (decide (len = 3) && (decide ((pc : Int) + off = am_pc y h) && decide (am_pc y i = pc + 3))) = true := hb
    simp only [Bool.and_eq_true, decide_eq_true_eq] at hb
    exact hb
  case if_icmp cd off =>
    have hb : (decide (len = 3) && (decide ((pc : Int) + off = am_pc y h) && decide (am_pc y i = pc + 3))) = true := hb
    simp only [Bool.and_eq_true, decide_eq_true_eq] at hb
    exact hb
  case ifnull off =>
    have hb : (decide (len = 3) && (decide ((pc : Int) + off = am_pc y h) && decide (am_pc y i = pc + 3))) = true := hb
    simp only [Bool.and_eq_true, decide_eq_true_eq] at hb
    exact hb
  case ifnonnull off =>
    have hb : (decide (len = 3) && (decide ((pc : Int) + off = am_pc y h) && decide (am_pc y i = pc + 3))) = true := hb
    simp only [Bool.and_eq_true, decide_eq_true_eq] at hb
    exact hb
  case tableswitch d lo hi offs =>
    have hb : (decide ((pc : Int) + d = am_pc y h) && (decide (hi = lo + x.length - 1) && decide (offs.toList.map (fun o => (pc : Int) + o) = x.map (fun t => (am_pc y t : Int))))) = true := hb
    simp only [Bool.and_eq_true, decide_eq_true_eq] at hb
    exact hb
  case lookupswitch d ps =>
    have hb : (decide ((pc : Int) + d = am_pc y h) && ((ps.toList.zip (ps.toList.drop 1)).all (fun (a, next) => a.1 < next.1) && decide (ps.toList.map (fun q => (pc : Int) + q.2) = x.map (fun t => (am_pc y t : Int))))) = true := hb
    simp only [Bool.and_eq_true, decide_eq_true_eq] at hb
    exact hb
  all_goals trivial
def am_fb (own : String) (idx : Nat) (a b : Int) (fin : Bool) (h : Nat) : Bool := match am_cl[a.toNat]? with
  | some (_, T, N) => decide (0 ≤ b) && (decide (b.toNat < N) && ((am_wat (h + 102) (Cond.fieldLink own idx (T b.toNat).1 (T b.toNat).2.1 (T b.toNat).2.2.1) || (!(fin && (T b.toNat).2.2.2) && am_wat (h + 102) (Cond.fieldLinkNest own idx (T b.toNat).1 (T b.toNat).2.1 (T b.toNat).2.2.1 "UnlearnedHand"))) && (!(fin && (T b.toNat).2.2.2) || decide ((T b.toNat).1 = own))))
  | none => false
theorem am_fb_ok {own : String} {idx : Nat} {a b : Int} {fin : Bool} {h : Nat} (hb : am_fb own idx a b fin h = true) : am_fOk own idx a b fin := by
  unfold am_fb at hb
  split at hb
  · rename_i C T N hcl
    simp only [Bool.and_eq_true, decide_eq_true_eq, Bool.or_eq_true] at hb
    obtain ⟨h1, h2, h3, h4⟩ := hb
    refine ⟨C, T, N, hcl, by omega, h2, ?_, fun hf ht => ?_⟩
    · rcases h3 with h3 | ⟨h5, h3⟩
      · exact Or.inl (am_wat_ok h3)
      · cases hfin : fin with
        | false => exact Or.inr (Or.inr ⟨rfl, _, am_wat_ok h3⟩)
        | true =>
          cases ht : (T b.toNat).2.2.2 with
          | false => exact Or.inr (Or.inl ⟨rfl, _, am_wat_ok h3⟩)
          | true => rw [hfin, ht] at h5; simp at h5
    · rcases h4 with h4 | h4
      · rw [hf, ht] at h4; simp at h4
      · exact h4
  · cases hb

def am_hb (y : Nat) (q : Instr) (a b : Int) (h : Nat) : Bool := match q with
  | .getfield idx => am_fb (am_nm y).cls idx a b false h
  | .putfield idx => am_fb (am_nm y).cls idx a b true h && (match am_cl[a.toNat]? with
    | some (_, T, _) => !(T b.toNat).2.2.2 || decide ((am_nm y).name = "<init>")
    | none => false)
  | .new idx => (match am_cl[a.toNat]? with
    | some (C, _, N) => am_wat (h + 102) (Cond.classLink (am_nm y).cls idx C) && (am_wat (am_wci.getD a.toNat (0, 0)).1 (Cond.instantiable C N) && am_wat (am_wci.getD a.toNat (0, 0)).2 (Cond.initialized C))
    | none => false)
  | .newarray .int => decide (a = 20) && am_wat 197 (Cond.arrayClass .int)
  | .newarray .long => decide (a = 21) && am_wat 1462 (Cond.arrayClass .long)
  | .newarray .char => decide (a = 22) && am_wat 365 (Cond.arrayClass .char)
  | .newarray .byte => decide (a = 23) && am_wat 978 (Cond.arrayClass .byte)
  | .newarray _ => false
  | .anewarray idx => (decide (a = 24) && (am_wat (h + 102) (Cond.classLink (am_nm y).cls idx RX8) && am_wat 240 (Cond.arrayOver (.object RX8)))) || (decide (a = 25) && (am_wat (h + 102) (Cond.classLink (am_nm y).cls idx RX3) && am_wat 312 (Cond.arrayOver (.object RX3))))
  | .multianewarray idx dims => decide (dims = 2) && (am_wat (h + 102) (Cond.classLink (am_nm y).cls idx "[[I") && (am_wat 375 (Cond.arrayOver (.array .int)) && am_wat 197 (Cond.arrayClass .int)))
  | _ => true
theorem am_hb_ok {y : Nat} {q : Instr} {a b : Int} {h : Nat} (hb : am_hb y q a b h = true) : am_h2Ok y q a b := by
  cases q
  case getfield idx => exact am_fb_ok (h := h) hb
  case putfield idx =>
    have hb : (am_fb (am_nm y).cls idx a b true h && (match am_cl[a.toNat]? with | some (_, T, _) => !(T b.toNat).2.2.2 || decide ((am_nm y).name = "<init>") | none => false)) = true := hb
    rw [Bool.and_eq_true] at hb
    refine ⟨am_fb_ok hb.1, fun C T N hcl hfin => ?_⟩
    have h2 := hb.2
    rw [hcl] at h2
    simp only [hfin, Bool.or_eq_true, decide_eq_true_eq] at h2
    rcases h2 with h2 | h2
    · cases h2
    · exact h2
  case new idx =>
    have hb : (match am_cl[a.toNat]? with | some (C, _, N) => am_wat (h + 102) (Cond.classLink (am_nm y).cls idx C) && (am_wat (am_wci.getD a.toNat (0, 0)).1 (Cond.instantiable C N) && am_wat (am_wci.getD a.toNat (0, 0)).2 (Cond.initialized C)) | none => false) = true := hb
    split at hb
    · rename_i C T N hcl
      simp only [Bool.and_eq_true] at hb
      exact ⟨C, T, N, hcl, am_wat_ok hb.1, am_wat_ok hb.2.1, am_wat_ok hb.2.2⟩
    · cases hb
  case newarray t =>
    cases t
    case int =>
      have hb : (decide (a = 20) && am_wat 197 (Cond.arrayClass .int)) = true := hb
      simp only [Bool.and_eq_true, decide_eq_true_eq] at hb
      exact ⟨Or.inl ⟨rfl, hb.1⟩, am_wat_ok hb.2⟩
    case long =>
      have hb : (decide (a = 21) && am_wat 1462 (Cond.arrayClass .long)) = true := hb
      simp only [Bool.and_eq_true, decide_eq_true_eq] at hb
      exact ⟨Or.inr (Or.inl ⟨rfl, hb.1⟩), am_wat_ok hb.2⟩
    case char =>
      have hb : (decide (a = 22) && am_wat 365 (Cond.arrayClass .char)) = true := hb
      simp only [Bool.and_eq_true, decide_eq_true_eq] at hb
      exact ⟨Or.inr (Or.inr (Or.inl ⟨rfl, hb.1⟩)), am_wat_ok hb.2⟩
    case byte =>
      have hb : (decide (a = 23) && am_wat 978 (Cond.arrayClass .byte)) = true := hb
      simp only [Bool.and_eq_true, decide_eq_true_eq] at hb
      exact ⟨Or.inr (Or.inr (Or.inr ⟨rfl, hb.1⟩)), am_wat_ok hb.2⟩
    all_goals (exact absurd hb (by intro z; cases z))
  case anewarray idx =>
    have hb : ((decide (a = 24) && (am_wat (h + 102) (Cond.classLink (am_nm y).cls idx RX8) && am_wat 240 (Cond.arrayOver (.object RX8)))) || (decide (a = 25) && (am_wat (h + 102) (Cond.classLink (am_nm y).cls idx RX3) && am_wat 312 (Cond.arrayOver (.object RX3))))) = true := hb
    simp only [Bool.and_eq_true, Bool.or_eq_true, decide_eq_true_eq] at hb
    rcases hb with ⟨h1, h2, h3⟩ | ⟨h1, h2, h3⟩
    · exact Or.inl ⟨h1, am_wat_ok h2, am_wat_ok h3⟩
    · exact Or.inr ⟨h1, am_wat_ok h2, am_wat_ok h3⟩
  case multianewarray idx dims =>
    have hb : (decide (dims = 2) && (am_wat (h + 102) (Cond.classLink (am_nm y).cls idx "[[I") && (am_wat 375 (Cond.arrayOver (.array .int)) && am_wat 197 (Cond.arrayClass .int)))) = true := hb
    simp only [Bool.and_eq_true, decide_eq_true_eq] at hb
    exact ⟨hb.1, am_wat_ok hb.2.1, am_wat_ok hb.2.2.1, am_wat_ok hb.2.2.2⟩
  all_goals trivial
def am_cb (own : String) (q : Instr) (z n h : Nat) : Bool := match q with
  | .invokevirtual idx => am_wat (h + 102) (Cond.methodLink own idx (am_nm z)) && (am_wat (am_w1s.getD z 0) (Cond.instanceMethod (am_nm z)) && (am_wat (am_w2s.getD z 0) (Cond.selects (am_nm z).cls (am_nm z) (am_nm z)) && (decide (1 ≤ n) && (decide (am_np z = some (n - 1)) && ((decide (am_own z = 60) && decide ((am_nm z).cls = "java/lang/String")) || (decide (¬ am_own z = 60) && (match am_cl[am_own z]? with
    | some (C, _, _) => decide (C = (am_nm z).cls)
    | none => false)))))))
  | .invokestatic idx => am_wat (h + 102) (Cond.methodLink own idx (am_nm z)) && (am_wat (am_w1s.getD z 0) (Cond.static (am_nm z)) && decide (am_np z = some n))
  | .invokespecial idx => (am_wat (h + 102) (Cond.methodLink own idx (am_nm z)) || am_wat (h + 102) (Cond.methodLinkNest own idx (am_nm z) "UnlearnedHand")) && (decide ((am_nm z).name = "<init>") && (am_wat (am_w1s.getD z 0) (Cond.instanceMethod (am_nm z)) && (decide (1 ≤ n) && (decide (am_np z = some (n - 1)) && (decide (am_rt z = none) && (decide (¬ am_own z = 60) && decide (am_own z < 12)))))))
  | _ => false
theorem am_cb_ok {own : String} {q : Instr} {z n h : Nat} (hb : am_cb own q z n h = true) : am_cOk own q z n := by
  cases q
  case invokevirtual idx =>
    have hb : (am_wat (h + 102) (Cond.methodLink own idx (am_nm z)) && (am_wat (am_w1s.getD z 0) (Cond.instanceMethod (am_nm z)) && (am_wat (am_w2s.getD z 0) (Cond.selects (am_nm z).cls (am_nm z) (am_nm z)) && (decide (1 ≤ n) && (decide (am_np z = some (n - 1)) && ((decide (am_own z = 60) && decide ((am_nm z).cls = "java/lang/String")) || (decide (¬ am_own z = 60) && (match am_cl[am_own z]? with | some (C, _, _) => decide (C = (am_nm z).cls) | none => false)))))))) = true := hb
    simp only [Bool.and_eq_true, Bool.or_eq_true, decide_eq_true_eq] at hb
    obtain ⟨h1, h2, h3, h4, h5, h6⟩ := hb
    refine ⟨am_wat_ok h1, am_wat_ok h2, am_wat_ok h3, h4, h5, ?_⟩
    rcases h6 with h6 | ⟨h6, h7⟩
    · exact Or.inl h6
    · refine Or.inr ⟨h6, ?_⟩
      split at h7
      · rename_i C T N hcl
        have h7 := of_decide_eq_true h7
        subst h7
        exact ⟨T, N, hcl⟩
      · cases h7
  case invokestatic idx =>
    have hb : (am_wat (h + 102) (Cond.methodLink own idx (am_nm z)) && (am_wat (am_w1s.getD z 0) (Cond.static (am_nm z)) && decide (am_np z = some n))) = true := hb
    simp only [Bool.and_eq_true, decide_eq_true_eq] at hb
    exact ⟨am_wat_ok hb.1, am_wat_ok hb.2.1, hb.2.2⟩
  case invokespecial idx =>
    have hb : ((am_wat (h + 102) (Cond.methodLink own idx (am_nm z)) || am_wat (h + 102) (Cond.methodLinkNest own idx (am_nm z) "UnlearnedHand")) && (decide ((am_nm z).name = "<init>") && (am_wat (am_w1s.getD z 0) (Cond.instanceMethod (am_nm z)) && (decide (1 ≤ n) && (decide (am_np z = some (n - 1)) && (decide (am_rt z = none) && (decide (¬ am_own z = 60) && decide (am_own z < 12)))))))) = true := hb
    simp only [Bool.and_eq_true, Bool.or_eq_true, decide_eq_true_eq] at hb
    obtain ⟨h1, h2, h3, h4, h5, h6, h7, h8⟩ := hb
    refine ⟨?_, h2, am_wat_ok h3, h4, h5, h6, h7, h8⟩
    rcases h1 with h1 | h1
    · exact Or.inl (am_wat_ok h1)
    · exact Or.inr ⟨_, am_wat_ok h1⟩
  all_goals (exact absurd hb (by intro z; cases z))
def am_rb (own : String) (q : Instr) (a : Int) (h : Nat) : Bool := match q with
  | .getfield idx => (decide (a = 0) && am_wat (h + 102) (Cond.fieldLink own idx "java/lang/String" "value" "[B")) || (decide (a = 1) && am_wat (h + 102) (Cond.fieldLink own idx "java/lang/String" "coder" "B"))
  | .getstatic idx => (decide (a = 0) && am_wat (h + 102) (Cond.fieldLink own idx "java/lang/String" "COMPACT_STRINGS" "Z")) || (decide (a = 1) && am_wat (h + 102) (Cond.fieldLink own idx "jdk/internal/util/Preconditions" "SIOOBE_FORMATTER" "Ljava/util/function/BiFunction;"))
  | _ => true
theorem am_rb_ok {own : String} {q : Instr} {a : Int} {h : Nat} (hb : am_rb own q a h = true) : am_rOk own q a := by
  cases q
  case getfield idx =>
    have hb : ((decide (a = 0) && am_wat (h + 102) (Cond.fieldLink own idx "java/lang/String" "value" "[B")) || (decide (a = 1) && am_wat (h + 102) (Cond.fieldLink own idx "java/lang/String" "coder" "B"))) = true := hb
    simp only [Bool.and_eq_true, Bool.or_eq_true, decide_eq_true_eq] at hb
    rcases hb with ⟨h1, h2⟩ | ⟨h1, h2⟩
    · exact Or.inl ⟨h1, am_wat_ok h2⟩
    · exact Or.inr ⟨h1, am_wat_ok h2⟩
  case getstatic idx =>
    have hb : ((decide (a = 0) && am_wat (h + 102) (Cond.fieldLink own idx "java/lang/String" "COMPACT_STRINGS" "Z")) || (decide (a = 1) && am_wat (h + 102) (Cond.fieldLink own idx "jdk/internal/util/Preconditions" "SIOOBE_FORMATTER" "Ljava/util/function/BiFunction;"))) = true := hb
    simp only [Bool.and_eq_true, Bool.or_eq_true, decide_eq_true_eq] at hb
    rcases hb with ⟨h1, h2⟩ | ⟨h1, h2⟩
    · exact Or.inl ⟨h1, am_wat_ok h2⟩
    · exact Or.inr ⟨h1, am_wat_ok h2⟩
  all_goals trivial

