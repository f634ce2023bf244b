/-! THE METHODS: where their words stand; written by wip/whole/gen10.py. -/
def zpl : List (Nat × Nat) := [(105, 75), (1024, 75), (1052, 75), (431, 75), (733, 75), (870, 75), (961, 75), (983, 75), (996, 75), (1006, 75), (1096, 75), (1105, 75), (1115, 75), (1123, 75), (741, 75), (1131, 75), (1136, 75), (1143, 75), (1154, 75), (1165, 75), (1169, 75), (1180, 75), (737, 75), (860, 75), (864, 75), (837, 75), (802, 75), (790, 75), (598, 75), (113, 76), (435, 76), (544, 76), (554, 76), (583, 76), (558, 76), (636, 76), (664, 76), (686, 76), (704, 76), (562, 76), (654, 76), (567, 76), (608, 76), (630, 76), (612, 76), (119, 77), (1044, 77), (439, 77), (535, 77), (447, 77), (443, 77), (460, 77), (463, 77), (457, 77), (451, 77), (469, 77), (475, 77), (548, 77), (579, 77), (575, 77), (571, 77), (617, 77), (182, 78), (539, 78), (745, 78), (965, 78), (987, 78), (1000, 78), (1010, 78), (595, 78), (644, 78), (672, 78), (694, 78), (588, 78), (640, 78), (668, 78), (690, 78), (874, 78), (971, 78), (975, 78), (979, 78), (878, 78), (882, 78), (1016, 78), (886, 78), (890, 78), (777, 78), (783, 78), (769, 78), (830, 78), (834, 78), (826, 78), (794, 78), (810, 78), (814, 78), (822, 78), (845, 78), (854, 78), (195, 79), (602, 79), (749, 79), (622, 79), (798, 79), (233, 80), (648, 80), (753, 80), (787, 80), (818, 80), (296, 81), (676, 81), (757, 81), (1158, 81), (335, 82), (698, 82), (761, 82), (765, 82), (773, 82), (708, 82), (712, 82), (723, 82), (716, 82), (727, 82), (849, 82), (1188, 83), (1438, 83), (1446, 83), (1453, 83), (1617, 83), (1629, 83), (1660, 83), (1672, 83), (1650, 83), (1703, 83), (1476, 83), (1479, 83), (1469, 83), (1473, 83), (1483, 83), (1465, 83), (1495, 83), (1503, 83), (1511, 83), (1507, 83), (1491, 83), (1499, 83), (1515, 83), (1519, 83), (1523, 83), (1539, 83), (1535, 83), (1531, 83), (1542, 83), (1527, 83), (1546, 83), (1550, 83), (1461, 83), (1442, 83), (1450, 83), (1457, 83), (1565, 83), (1573, 83), (1569, 83), (1621, 83), (1613, 83), (1633, 83), (1625, 83), (1664, 83), (1656, 83), (1676, 83), (1668, 83), (1683, 83), (1687, 83), (1692, 83), (1733, 83), (1745, 83), (1741, 83), (1754, 83), (1759, 83), (1769, 83), (1763, 83), (1775, 83), (1779, 83), (1783, 83), (1194, 84), (1297, 85), (1558, 85), (1737, 85), (1554, 85), (1585, 85), (1637, 85), (1641, 85), (1645, 85), (1609, 85), (1605, 85), (1601, 85), (1700, 85), (1712, 85), (1716, 85), (1725, 85), (1720, 85), (1729, 85), (1696, 85), (1708, 85), (1597, 85), (1593, 85), (1577, 85), (1581, 85), (1589, 85), (1749, 85), (1019, 74), (1047, 74), (1071, 74), (1076, 74), (1080, 74), (1084, 74), (1088, 74), (1092, 74), (1101, 74), (1111, 74), (1119, 74), (1127, 74), (1139, 74), (1150, 74), (1161, 74), (1173, 100), (479, 93), (489, 93), (483, 93), (493, 93), (499, 93), (496, 94), (504, 95)]
/-- the word of a method's code -/
def zcw (t : zMt) : Jvm.Cond := if t.2.2.2.2 = [] then .code t.1 t.2.1 t.2.2.1 t.2.2.2.1 else .codeWith t.1 t.2.1 t.2.2.1 t.2.2.2.1 t.2.2.2.2
def zmw (a : Nat) : List Jvm.Cond := zcw (zm a) :: zT
def zmf (a : Nat) : Bool := zin (.initialized (zmy a).cls) (zpl.getD a (0, 0)).2 && decide ((zmy a).cls ≠ "java/lang/invoke/MethodHandle") && decide ((zmy a).cls ≠ "java/lang/invoke/VarHandle") && plainName (zmy a).cls && decide ((zm a).2.2.1 ≤ 11)
set_option maxRecDepth 100000 in
theorem zqc_0 : (List.range 29).map (fun i => lw_tbl[(zpl.getD (0 + i) (0, 0)).1]?) = (List.range 29).map (fun i => some (zcw (zm (0 + i)))) := rfl
set_option maxRecDepth 100000 in
theorem zqc_1 : (List.range 29).map (fun i => lw_tbl[(zpl.getD (29 + i) (0, 0)).1]?) = (List.range 29).map (fun i => some (zcw (zm (29 + i)))) := rfl
set_option maxRecDepth 100000 in
theorem zqc_2 : (List.range 29).map (fun i => lw_tbl[(zpl.getD (58 + i) (0, 0)).1]?) = (List.range 29).map (fun i => some (zcw (zm (58 + i)))) := rfl
set_option maxRecDepth 100000 in
theorem zqc_3 : (List.range 29).map (fun i => lw_tbl[(zpl.getD (87 + i) (0, 0)).1]?) = (List.range 29).map (fun i => some (zcw (zm (87 + i)))) := rfl
set_option maxRecDepth 100000 in
theorem zqc_4 : (List.range 29).map (fun i => lw_tbl[(zpl.getD (116 + i) (0, 0)).1]?) = (List.range 29).map (fun i => some (zcw (zm (116 + i)))) := rfl
set_option maxRecDepth 100000 in
theorem zqc_5 : (List.range 29).map (fun i => lw_tbl[(zpl.getD (145 + i) (0, 0)).1]?) = (List.range 29).map (fun i => some (zcw (zm (145 + i)))) := rfl
set_option maxRecDepth 100000 in
theorem zqc_6 : (List.range 29).map (fun i => lw_tbl[(zpl.getD (174 + i) (0, 0)).1]?) = (List.range 29).map (fun i => some (zcw (zm (174 + i)))) := rfl
set_option maxRecDepth 100000 in
theorem zqc_7 : (List.range 29).map (fun i => lw_tbl[(zpl.getD (203 + i) (0, 0)).1]?) = (List.range 29).map (fun i => some (zcw (zm (203 + i)))) := rfl
theorem zmf_ok : ∀ a, a < 232 → zmf a = true := by decide +kernel
theorem zqc_in {lo n a : Nat} (h : (List.range n).map (fun i => lw_tbl[(zpl.getD (lo + i) (0, 0)).1]?) = (List.range n).map (fun i => some (zcw (zm (lo + i))))) (h1 : lo ≤ a) (h2 : a < lo + n) : zcw (zm a) ∈ lw_tbl := by
  have h3 := congrArg (fun l => l[a - lo]?) h
  rw [List.getElem?_map, List.getElem?_map, List.getElem?_range (by omega)] at h3
  have h4 : lw_tbl[(zpl.getD (lo + (a - lo)) (0, 0)).1]? = some (zcw (zm (lo + (a - lo)))) := Option.some.inj h3
  rw [show lo + (a - lo) = a by omega] at h4
  exact List.mem_of_getElem? h4
theorem zcw_in {a : Nat} (h : a < 232) : zcw (zm a) ∈ lw_tbl := by
  rcases Nat.lt_or_ge a 29 with q0 | q0
  · exact zqc_in zqc_0 (by omega) (by omega)
  rcases Nat.lt_or_ge a 58 with q1 | q1
  · exact zqc_in zqc_1 (by omega) (by omega)
  rcases Nat.lt_or_ge a 87 with q2 | q2
  · exact zqc_in zqc_2 (by omega) (by omega)
  rcases Nat.lt_or_ge a 116 with q3 | q3
  · exact zqc_in zqc_3 (by omega) (by omega)
  rcases Nat.lt_or_ge a 145 with q4 | q4
  · exact zqc_in zqc_4 (by omega) (by omega)
  rcases Nat.lt_or_ge a 174 with q5 | q5
  · exact zqc_in zqc_5 (by omega) (by omega)
  rcases Nat.lt_or_ge a 203 with q6 | q6
  · exact zqc_in zqc_6 (by omega) (by omega)
  rcases Nat.lt_or_ge a 232 with q7 | q7
  · exact zqc_in zqc_7 (by omega) (by omega)
  · omega
theorem zcw_good (t : zMt) : goodWord (zcw t) = true := by unfold zcw; split <;> rfl
