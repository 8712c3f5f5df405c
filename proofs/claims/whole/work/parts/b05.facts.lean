/-! WHAT THE TABLES SAY OF THE MACHINE'S TABLES: words by their places -/
def bW : List Cond := lw_tbl.filter goodWord
theorem bW_in {w : Cond} (h : w ∈ bW) : w ∈ lw_tbl := (List.mem_filter.mp h).1
theorem bW_gd {w : Cond} (h : w ∈ bW) : goodWord w = true := (List.mem_filter.mp h).2
theorem bW_good : GoodIn lw_tbl bW := fun w h => ⟨bW_in h, good_of_word (bW_gd h)⟩
theorem bW_self : GoodIn bW bW := fun w h => ⟨h, good_of_word (bW_gd h)⟩
def mhas (p : Nat) (w : Cond) : Bool := decide (lw_tbl[p]? = some w) && goodWord w
theorem mhas_in {p : Nat} {w : Cond} (h : mhas p w = true) : w ∈ bW := by
  simp only [mhas, Bool.and_eq_true, decide_eq_true_eq] at h
  exact List.mem_filter.mpr ⟨List.mem_of_getElem? h.1, h.2⟩
/-- the classes' names -/
def mcn (oc : Nat) : String := [RX0, RX1, RX2, RX3, RX4, RX5, RX6, RX7, RX8, RX9, RX10, RX11, RX12, RL, RJ6].getD oc ""
def mtyk : FieldType → Nat
  | .int => 0
  | .boolean => 1
  | .object _ => 2
  | .array _ => 2
  | _ => 9
def mfK (r : Nat × Nat × Nat × Nat × Nat) (p : Nat) : Bool := match vwCl[r.2.2.1]? with
  | some (_, T, N) => decide (r.2.2.2.1 < N) && (mhas p (.fieldLink (mcn r.1) r.2.1 (T r.2.2.2.1).1 (T r.2.2.2.1).2.1 (T r.2.2.2.1).2.2.1) && (((T r.2.2.2.1).2.2.2 == decide (4 ≤ r.2.2.2.2)) && (((parseFieldDescriptor (T r.2.2.2.1).2.2.1).map mtyk == some (r.2.2.2.2 % 4)))))
  | none => false

def mfP_0 : List (Nat) := [245, 247, 249, 251, 255, 257, 241, 282, 284, 279, 220, 223, 216, 219, 872, 871, 869, 296, 175, 301, 310, 183, 179, 190, 253, 313, 347, 344, 346, 375, 376, 377, 280, 373, 374, 371, 285, 138, 140, 136, 141, 143, 142, 361, 242, 294, 297, 299, 302, 314]
set_option maxRecDepth 100000 in
theorem mfK_all_0 : (List.zipWith mfK mfT_0 mfP_0).all id = true := by decide +kernel
theorem mfK_len_0 : mfT_0.length = mfP_0.length := by decide +kernel
def mfP_1 : List (Nat) := [304, 306, 308, 311, 171, 217, 243, 182, 222, 225, 254, 176, 177, 180, 184, 186, 188, 191, 170, 173, 391, 392, 393, 394, 395, 396, 397, 398, 400, 137, 307, 305, 870, 295, 178, 181, 185, 187, 189, 174, 192, 300, 309, 298, 221, 224, 246, 248, 250, 252]
set_option maxRecDepth 100000 in
theorem mfK_all_1 : (List.zipWith mfK mfT_1 mfP_1).all id = true := by decide +kernel
theorem mfK_len_1 : mfT_1.length = mfP_1.length := by decide +kernel
def mfP_2 : List (Nat) := [256, 312, 303, 281, 286, 283, 172, 372, 399, 218, 244, 315, 345, 139, 1362, 1363, 1364, 1365, 1366, 1367, 1370, 1376, 1377, 1379, 1380, 1381, 1382, 1383, 1384, 1385, 1368, 1369, 1371, 1372, 1373, 1374, 1378, 1375]
set_option maxRecDepth 100000 in
theorem mfK_all_2 : (List.zipWith mfK mfT_2 mfP_2).all id = true := by decide +kernel
theorem mfK_len_2 : mfT_2.length = mfP_2.length := by decide +kernel
set_option maxRecDepth 100000 in
theorem mcw_0 : (mT_0).map (fun m => Cond.code m.1 m.2.1 m.2.2.1 m.2.2.2.1) = [239, 547, 714, 727, 480, 586, 582, 1079, 1193, 578, 1323, 968, 972, 1094, 476, 1020, 1027, 1230, 277, 552, 741, 1275, 1270, 1304, 1300, 1310, 214, 542, 700, 461, 709, 736, 457, 514, 453, 485, 488, 867, 909, 883].filterMap (fun i => lw_tbl[i]?) := rfl
set_option maxRecDepth 100000 in
theorem mcw_1 : (mT_1).map (fun m => Cond.code m.1 m.2.1 m.2.2.1 m.2.2.2.1) = [491, 893, 897, 901, 1105, 921, 924, 1099, 1105, 1102, 339, 566, 1060, 527, 369, 1266, 1279, 1285, 1289, 464, 506, 494, 497, 134, 429, 433, 1335, 1339, 603, 765, 607, 672, 731, 761, 616, 757, 681, 914, 677, 687].filterMap (fun i => lw_tbl[i]?) := rfl
set_option maxRecDepth 100000 in
theorem mcw_2 : (mT_2).map (fun m => Cond.code m.1 m.2.1 m.2.2.1 m.2.2.2.1) = [691, 359, 1242, 1245, 1250, 1253, 162, 531, 599, 611, 1067, 1205, 1189, 1071, 1075, 1090, 1127, 472, 168, 535, 668, 449, 574, 1350, 519, 1178, 1083, 1112, 1122, 1117, 126, 425, 437, 595, 862, 441, 944, 996, 1010, 1036].filterMap (fun i => lw_tbl[i]?) := rfl
set_option maxRecDepth 100000 in
theorem mcw_3 : (mT_3).map (fun m => Cond.code m.1 m.2.1 m.2.2.1 m.2.2.2.1) = [1044, 1052, 1134, 1142, 1151, 1174, 1185, 1201, 1213, 1217, 1225, 1238, 1261, 1296, 1319, 445, 468, 510, 1330, 1344, 523, 557, 562, 570, 769, 948, 1000, 1014, 1055, 1355, 1630, 1645, 1795, 1360, 1439, 1443, 1714, 1447, 1506, 1534].filterMap (fun i => lw_tbl[i]?) := rfl
set_option maxRecDepth 100000 in
theorem mcw_4 : (mT_4).map (fun m => Cond.code m.1 m.2.1 m.2.2.1 m.2.2.2.1) = [1547, 1581, 1649, 1520, 1568, 1560, 1572, 1706, 1702, 1642, 1677, 1451, 1455, 1479, 1475, 1487, 1496, 1525, 1607, 1510, 1515, 1459, 1471, 1538, 1502, 1530, 1564, 1555, 1543, 1577, 1491, 1612, 1620, 1616, 1603, 1599, 1595, 1589, 1483, 1467].filterMap (fun i => lw_tbl[i]?) := rfl
set_option maxRecDepth 100000 in
theorem mcw_5 : (mT_5).map (fun m => Cond.code m.1 m.2.1 m.2.2.1 m.2.2.2.1) = [1463, 1634, 1661, 1685, 1681, 1657, 1653, 1742, 1738, 1734, 1747, 1751, 1726, 1730, 1755, 1722, 1718, 1665, 1638, 1669, 1689, 1673, 1694, 1698, 1710, 1759, 1763, 1767, 1771, 1779, 1783, 1775, 1787, 1791, 1803, 1799, 1811, 1807, 1824, 1832].filterMap (fun i => lw_tbl[i]?) := rfl
set_option maxRecDepth 100000 in
theorem mcw_6 : (mT_6.take 14).map (fun m => Cond.code m.1 m.2.1 m.2.2.1 m.2.2.2.1) = [1828, 1819, 1815, 1836, 1844, 1848, 1840, 1852, 1860, 1856, 1864, 1868, 1872, 500].filterMap (fun i => lw_tbl[i]?) := rfl
theorem mcw_at {m : MethodName × ByteArray × Nat × Option FieldType × Nat} {ms : List (MethodName × ByteArray × Nat × Option FieldType × Nat)} {ps : List Nat} (e : ms.map (fun m => Cond.code m.1 m.2.1 m.2.2.1 m.2.2.2.1) = ps.filterMap (fun i => lw_tbl[i]?)) (h : m ∈ ms) : Cond.code m.1 m.2.1 m.2.2.1 m.2.2.2.1 ∈ bW := by
  have h1 : Cond.code m.1 m.2.1 m.2.2.1 m.2.2.2.1 ∈ ms.map (fun m => Cond.code m.1 m.2.1 m.2.2.1 m.2.2.2.1) := List.mem_map.mpr ⟨m, h, rfl⟩
  rw [e] at h1
  obtain ⟨i, -, hi⟩ := List.mem_filterMap.mp h1
  exact List.mem_filter.mpr ⟨List.mem_of_getElem? hi, rfl⟩
def mmK (m : MethodName × ByteArray × Nat × Option FieldType × Nat) (p : Nat) : Bool := mhas p (.initialized m.1.cls) && (decide (m.2.2.1 ≤ 21) && (plainName m.1.cls && (decide (m.1.cls ≠ "java/lang/invoke/MethodHandle") && (decide (m.1.cls ≠ "java/lang/invoke/VarHandle") && (m.1.cls == mcn m.2.2.2.2)))))
def mmP_0 : List (Nat) := [99, 99, 99, 99, 99, 99, 99, 99, 99, 99, 99, 99, 99, 99, 99, 99, 99, 99, 100, 100, 100, 100, 100, 100, 100, 100, 98, 98, 98, 98, 98, 98, 98, 98, 98, 98, 98, 116, 116, 116]
set_option maxRecDepth 100000 in
theorem mmK_all_0 : (List.zipWith mmK mT_0 mmP_0).all id = true := by decide +kernel
theorem mmK_len_0 : mT_0.length = mmP_0.length := by decide +kernel
def mmP_1 : List (Nat) := [110, 116, 116, 116, 116, 116, 116, 116, 116, 116, 101, 101, 101, 101, 103, 103, 103, 103, 103, 110, 110, 110, 110, 95, 95, 95, 95, 95, 95, 95, 95, 95, 95, 95, 95, 95, 95, 95, 95, 95]
set_option maxRecDepth 100000 in
theorem mmK_all_1 : (List.zipWith mmK mT_1 mmP_1).all id = true := by decide +kernel
theorem mmK_len_1 : mT_1.length = mmP_1.length := by decide +kernel
def mmP_2 : List (Nat) := [95, 102, 102, 102, 102, 102, 96, 96, 96, 96, 96, 96, 96, 96, 96, 96, 96, 96, 97, 97, 97, 97, 97, 97, 97, 97, 97, 97, 97, 97, 94, 94, 94, 94, 94, 94, 94, 94, 94, 94]
set_option maxRecDepth 100000 in
theorem mmK_all_2 : (List.zipWith mmK mT_2 mmP_2).all id = true := by decide +kernel
theorem mmK_len_2 : mT_2.length = mmP_2.length := by decide +kernel
def mmP_3 : List (Nat) := [94, 94, 94, 94, 94, 94, 94, 94, 94, 94, 94, 94, 94, 94, 94, 94, 94, 94, 94, 94, 94, 94, 94, 94, 94, 94, 94, 94, 94, 104, 104, 104, 104, 104, 104, 104, 104, 104, 104, 104]
set_option maxRecDepth 100000 in
theorem mmK_all_3 : (List.zipWith mmK mT_3 mmP_3).all id = true := by decide +kernel
theorem mmK_len_3 : mT_3.length = mmP_3.length := by decide +kernel
def mmP_4 : List (Nat) := [104, 104, 104, 104, 104, 104, 104, 104, 104, 104, 104, 104, 104, 104, 104, 104, 104, 104, 104, 104, 104, 104, 104, 104, 104, 104, 104, 104, 104, 104, 104, 104, 104, 104, 104, 104, 104, 104, 104, 104]
set_option maxRecDepth 100000 in
theorem mmK_all_4 : (List.zipWith mmK mT_4 mmP_4).all id = true := by decide +kernel
theorem mmK_len_4 : mT_4.length = mmP_4.length := by decide +kernel
def mmP_5 : List (Nat) := [104, 104, 104, 104, 104, 104, 104, 104, 104, 104, 104, 104, 104, 104, 104, 104, 104, 104, 104, 104, 104, 104, 104, 104, 104, 104, 104, 104, 104, 104, 104, 104, 104, 104, 104, 104, 104, 104, 104, 104]
set_option maxRecDepth 100000 in
theorem mmK_all_5 : (List.zipWith mmK mT_5 mmP_5).all id = true := by decide +kernel
theorem mmK_len_5 : mT_5.length = mmP_5.length := by decide +kernel
def mmP_6 : List (Nat) := [104, 104, 104, 104, 104, 104, 104, 104, 104, 104, 104, 104, 104, 121, 93, 93, 93, 93, 93, 93, 93, 93, 93, 93, 93, 93, 93, 93, 93, 93, 93, 93, 93, 93, 93, 93]
set_option maxRecDepth 100000 in
theorem mmK_all_6 : (List.zipWith mmK mT_6 mmP_6).all id = true := by decide +kernel
theorem mmK_len_6 : mT_6.length = mmP_6.length := by decide +kernel
def mwH : List (List (Nat × Nat × Nat × Nat)) := [[(0, 8, 11, 13), (0, 8, 14, 15)], [(0, 8, 11, 13)], [(0, 10, 13, 24), (0, 10, 17, 26)], [(0, 10, 13, 24), (0, 10, 17, 26)], [(0, 10, 13, 24), (0, 10, 17, 26)], [(0, 10, 13, 24)], [(0, 10, 13, 24)], [(0, 9, 12, 13)], [(0, 17, 20, 24)], [(0, 10, 13, 24), (0, 10, 17, 13)], [(0, 10, 13, 24), (0, 10, 17, 13), (0, 10, 21, 55)], [(0, 10, 13, 24), (0, 10, 17, 13)], [(0, 9, 12, 13)], [(0, 9, 12, 24)], [(0, 9, 12, 13)], [(0, 10, 13, 24), (0, 10, 17, 13)], [(0, 10, 13, 24), (0, 10, 17, 13)], [(0, 10, 13, 24), (0, 10, 17, 13)], [(0, 10, 13, 24), (0, 10, 17, 13)], [(0, 10, 13, 24)], [(0, 9, 12, 13)]]
def mwM : List ((MethodName × ByteArray × Nat × Option FieldType × Nat) × List (Nat × Nat × Nat × Nat)) := ((mT.drop 254).take 21).zip mwH
set_option maxRecDepth 100000 in
theorem mww_0 : mwM.map (fun q => Cond.codeWith q.1.1 q.1.2.1 q.1.2.2.1 q.1.2.2.2.1 q.2) = [589, 858, 938, 992, 1006, 1032, 1040, 1048, 1130, 1138, 1146, 1170, 1181, 1197, 1209, 1221, 1234, 1257, 1292, 1315, 1326].filterMap (fun i => lw_tbl[i]?) := rfl
def mNs : List (String × Nat × MethodName × String) := [("BarrelNight", 9, ({ cls := "BarrelNight$Tape", name := "<init>", desc := "()V" } : Jvm.MethodName), "BarrelNight"), ("BarrelNight", 18, ({ cls := "BarrelNight$Town", name := "<init>", desc := "()V" } : Jvm.MethodName), "BarrelNight"), ("BarrelNight$Town", 11, ({ cls := "BarrelNight$Yards", name := "<init>", desc := "()V" } : Jvm.MethodName), "BarrelNight"), ("BarrelNight$Town", 20, ({ cls := "BarrelNight$Lanes", name := "<init>", desc := "()V" } : Jvm.MethodName), "BarrelNight"), ("BarrelNight$Town", 27, ({ cls := "BarrelNight$Barrels", name := "<init>", desc := "()V" } : Jvm.MethodName), "BarrelNight"), ("BarrelNight$Town", 34, ({ cls := "BarrelNight$Bearers", name := "<init>", desc := "()V" } : Jvm.MethodName), "BarrelNight"), ("BarrelNight$Memory", 15, ({ cls := "BarrelNight$Town", name := "<init>", desc := "()V" } : Jvm.MethodName), "BarrelNight"), ("BarrelNight", 38, ({ cls := "BarrelNight$Timetable", name := "<init>", desc := "()V" } : Jvm.MethodName), "BarrelNight"), ("BarrelNight", 45, ({ cls := "BarrelNight$Relay", name := "<init>", desc := "()V" } : Jvm.MethodName), "BarrelNight")]
def mnm (y : Nat) : MethodName := match mT[y]? with | some m => m.1 | none => ⟨"", "", ""⟩
def mnp (x : MethodName) : Option Nat := (parseMethodDescriptor x.desc).map (fun d => d.parameters.length)
def mcK (r : Nat × Nat × Nat × Nat × Nat) (p : Nat × Nat × Nat × Nat) : Bool := match r.2.2.1 with
  | 0 => mhas p.1 (.methodLink (mcn r.1) r.2.1 (mnm r.2.2.2.1)) && (mhas p.2.1 (.instanceMethod (mnm r.2.2.2.1)) && (mhas p.2.2.1 (.selects (mnm r.2.2.2.1).cls (mnm r.2.2.2.1) (mnm r.2.2.2.1)) && (mhas p.2.2.2 (.initialized (mnm r.2.2.2.1).cls) && (decide (mnp (mnm r.2.2.2.1) = some (r.2.2.2.2 - 1)) && (decide (0 < r.2.2.2.2) && (decide (r.2.2.2.1 < 254) && ((vwCl[mci.getD (mown r.2.2.2.1) 99]?).map (fun q => q.1) == some (mnm r.2.2.2.1).cls)))))))
  | 1 => mhas p.1 (.methodLink (mcn r.1) r.2.1 (mnm r.2.2.2.1)) && (mhas p.2.1 (.instanceMethod (mnm r.2.2.2.1)) && (mhas p.2.2.2 (.initialized (mnm r.2.2.2.1).cls) && (decide (mnp (mnm r.2.2.2.1) = some (r.2.2.2.2 - 1)) && (decide (0 < r.2.2.2.2) && (decide (r.2.2.2.1 < 254) && (((mnm r.2.2.2.1).name == "<init>") && (mret r.2.2.2.1 == none)))))))
  | 2 => mhas p.1 (.methodLink (mcn r.1) r.2.1 (mnm r.2.2.2.1)) && (mhas p.2.1 (.static (mnm r.2.2.2.1)) && (mhas p.2.2.2 (.initialized (mnm r.2.2.2.1).cls) && (decide (mnp (mnm r.2.2.2.1) = some r.2.2.2.2) && decide (r.2.2.2.1 < 275))))
  | 3 => mhas p.2.1 (.instanceMethod (mnm r.2.2.2.1)) && (mhas p.2.2.2 (.initialized (mnm r.2.2.2.1).cls) && (decide (mnp (mnm r.2.2.2.1) = some (r.2.2.2.2 - 1)) && (decide (0 < r.2.2.2.2) && (decide (r.2.2.2.1 < 254) && (((mnm r.2.2.2.1).name == "<init>") && ((mret r.2.2.2.1 == none) && decide ((mcn r.1, r.2.1, mnm r.2.2.2.1, "BarrelNight") ∈ mNs)))))))
  | 10 => mhas p.1 (.methodLink (mcn r.1) r.2.1 Lib.objectInit) && (mhas p.2.1 (.instanceMethod Lib.objectInit) && mhas p.2.2.1 (.code Lib.objectInit ⟨#[0xb1]⟩ 1 none))
  | 11 => mhas p.1 (.methodLink (mcn r.1) r.2.1 Lib.Math.min.name) && (mhas p.2.1 (.static Lib.Math.min.name) && (mhas p.2.2.1 (.code Lib.Math.min.name Lib.Math.min.code 2 (some .int)) && mhas p.2.2.2 (.initialized "java/lang/Math")))
  | 12 => mhas p.1 (.methodLink (mcn r.1) r.2.1 Lib.Math.max.name) && (mhas p.2.1 (.static Lib.Math.max.name) && (mhas p.2.2.1 (.code Lib.Math.max.name Lib.Math.max.code 2 (some .int)) && mhas p.2.2.2 (.initialized "java/lang/Math")))
  | 13 => mhas p.1 (.methodLink (mcn r.1) r.2.1 arraycopyName) && (mhas p.2.1 (.native arraycopyName) && (mhas p.2.2.1 (.static arraycopyName) && mhas p.2.2.2 (.initialized "java/lang/System")))
  | 14 => mhas p.1 (.methodLink (mcn r.1) r.2.1 yJ0_length_8abf5) && (mhas p.2.1 (.instanceMethod yJ0_length_8abf5) && (mhas p.2.2.1 (.selects "java/lang/String" yJ0_length_8abf5 yJ0_length_8abf5) && mhas p.2.2.2 (.initialized "java/lang/String")))
  | 15 => mhas p.1 (.methodLink (mcn r.1) r.2.1 yJ0_charAt_5068e) && (mhas p.2.1 (.instanceMethod yJ0_charAt_5068e) && (mhas p.2.2.1 (.selects "java/lang/String" yJ0_charAt_5068e yJ0_charAt_5068e) && mhas p.2.2.2 (.initialized "java/lang/String")))
  | _ => false

def mcP_0 : List (Nat × Nat × Nat × Nat) := [(240, 128, 129, 0), (548, 538, 537, 105), (715, 670, 671, 95), (717, 675, 676, 95), (719, 685, 686, 95), (724, 726, 2, 99), (728, 729, 730, 95), (477, 478, 479, 99), (732, 689, 690, 95), (733, 734, 735, 98), (583, 585, 0, 99), (1021, 1022, 1023, 119), (579, 580, 581, 99), (969, 971, 11, 99), (1095, 463, 0, 110), (1028, 1018, 1019, 99), (1231, 1062, 1063, 119), (278, 128, 129, 0), (553, 538, 537, 105), (742, 670, 671, 95), (744, 675, 676, 95), (745, 685, 686, 95), (1305, 1273, 1274, 100), (1301, 1303, 22, 100), (1306, 463, 0, 110), (1307, 499, 0, 121), (1308, 1309, 0, 100), (1312, 1268, 1269, 100), (1311, 496, 0, 110), (215, 128, 129, 0), (543, 538, 537, 105), (701, 670, 671, 95), (703, 675, 676, 95), (704, 685, 686, 95), (705, 689, 690, 95), (706, 707, 708, 98), (462, 463, 0, 110), (458, 459, 460, 98), (454, 455, 456, 98), (486, 487, 0, 98)]
set_option maxRecDepth 100000 in
theorem mcK_all_0 : (List.zipWith mcK mcT_0 mcP_0).all id = true := by decide +kernel
theorem mcK_len_0 : mcT_0.length = mcP_0.length := by decide +kernel
def mcP_1 : List (Nat × Nat × Nat × Nat) := [(489, 490, 0, 110), (868, 128, 129, 0), (884, 601, 602, 95), (886, 675, 676, 95), (887, 685, 686, 95), (889, 679, 680, 95), (890, 892, 5, 116), (906, 908, 8, 116), (910, 755, 756, 95), (935, 763, 764, 95), (894, 896, 6, 116), (898, 900, 7, 116), (903, 614, 615, 95), (904, 759, 760, 95), (905, 670, 671, 95), (911, 912, 913, 95), (918, 920, 9, 116), (922, 923, 0, 116), (932, 605, 606, 95), (1100, 1101, 0, 116), (1103, 1104, 0, 116), (1106, 463, 0, 110), (1107, 580, 581, 99), (340, 128, 129, 0), (0, 161, 0, 96), (528, 529, 530, 96), (1061, 1062, 1063, 119), (370, 128, 129, 0), (1267, 1268, 1269, 100), (1271, 496, 0, 110), (1272, 1273, 1274, 100), (1276, 1278, 20, 103), (1281, 499, 0, 121), (1280, 463, 0, 110), (1286, 1288, 21, 103), (492, 493, 0, 110), (498, 499, 0, 121), (504, 505, 0, 110), (495, 496, 0, 110), (135, 128, 129, 0)]
set_option maxRecDepth 100000 in
theorem mcK_all_1 : (List.zipWith mcK mcT_1 mcP_1).all id = true := by decide +kernel
theorem mcK_len_1 : mcT_1.length = mcP_1.length := by decide +kernel
def mcP_2 : List (Nat × Nat × Nat × Nat) := [(1340, 1333, 1334, 95), (604, 605, 606, 95), (683, 670, 671, 95), (617, 618, 619, 106), (627, 628, 629, 106), (758, 759, 760, 95), (682, 614, 615, 95), (915, 755, 756, 95), (678, 679, 680, 95), (688, 689, 690, 95), (360, 128, 129, 0), (1243, 1244, 0, 102), (1247, 1249, 19, 102), (1251, 1252, 0, 102), (1246, 1228, 1229, 99), (1254, 496, 0, 110), (163, 128, 129, 0), (0, 167, 0, 97), (0, 213, 0, 98), (0, 238, 0, 99), (0, 276, 0, 100), (532, 533, 534, 97), (539, 540, 541, 98), (544, 545, 546, 99), (549, 550, 551, 100), (600, 601, 602, 95), (608, 610, 1, 96), (754, 755, 756, 95), (762, 763, 764, 95), (613, 614, 615, 95), (665, 666, 667, 97), (697, 698, 699, 98), (711, 712, 713, 99), (738, 739, 740, 100), (747, 679, 680, 95), (748, 685, 686, 95), (751, 707, 708, 98), (753, 670, 671, 95), (1068, 1070, 14, 96), (1206, 1187, 1188, 96)]
set_option maxRecDepth 100000 in
theorem mcK_all_2 : (List.zipWith mcK mcT_2 mcP_2).all id = true := by decide +kernel
theorem mcK_len_2 : mcT_2.length = mcP_2.length := by decide +kernel
def mcP_3 : List (Nat × Nat × Nat × Nat) := [(1190, 1191, 1192, 99), (1108, 1062, 1063, 119), (1194, 1022, 1023, 119), (1072, 1074, 15, 96), (1085, 966, 967, 99), (1086, 463, 0, 110), (1087, 1089, 16, 96), (1119, 1120, 1121, 97), (1123, 459, 460, 98), (1124, 1126, 17, 96), (1076, 1077, 1078, 99), (1080, 1081, 1082, 97), (1091, 1092, 1093, 99), (1096, 1097, 1098, 116), (1109, 1110, 1111, 97), (481, 455, 456, 98), (1114, 1115, 1116, 97), (473, 474, 475, 99), (169, 128, 129, 0), (536, 538, 537, 105), (669, 670, 671, 95), (674, 675, 676, 95), (684, 685, 686, 95), (695, 679, 680, 95), (1351, 463, 0, 110), (1113, 1062, 1063, 119), (1084, 1022, 1023, 119), (1118, 517, 518, 97), (127, 128, 129, 0), (0, 133, 0, 95), (0, 161, 0, 96), (337, 338, 0, 101), (0, 358, 0, 102), (0, 368, 0, 103), (426, 427, 428, 95), (430, 431, 432, 95), (558, 529, 530, 96), (596, 597, 598, 96), (766, 768, 3, 94), (563, 564, 565, 101)]
set_option maxRecDepth 100000 in
theorem mcK_all_3 : (List.zipWith mcK mcT_3 mcP_3).all id = true := by decide +kernel
theorem mcK_len_3 : mcT_3.length = mcP_3.length := by decide +kernel
def mcP_4 : List (Nat × Nat × Nat × Nat) := [(865, 866, 0, 116), (880, 881, 882, 116), (945, 947, 10, 94), (965, 966, 967, 99), (973, 455, 456, 98), (997, 999, 12, 94), (1002, 459, 460, 98), (1011, 1013, 13, 94), (1016, 580, 581, 99), (1017, 1018, 1019, 99), (1024, 1025, 1026, 99), (1037, 478, 479, 99), (1053, 1054, 0, 94), (1057, 1058, 1059, 101), (1064, 1065, 1066, 96), (1135, 707, 708, 98), (516, 517, 518, 97), (1143, 1062, 1063, 119), (1175, 1176, 1177, 97), (1186, 1187, 1188, 96), (1202, 1203, 1204, 96), (1214, 1216, 18, 94), (1218, 490, 0, 110), (515, 463, 0, 110), (1227, 1228, 1229, 99), (1239, 1240, 1241, 102), (1263, 1264, 1265, 103), (1282, 1283, 1284, 103), (1297, 1298, 1299, 100), (1320, 1321, 1322, 99), (446, 447, 448, 97), (450, 451, 452, 98), (469, 470, 471, 96), (482, 483, 484, 98), (511, 512, 513, 98), (1332, 1333, 1334, 95), (1336, 1337, 1338, 95), (1341, 1343, 23, 94), (1347, 1348, 1349, 97), (524, 525, 526, 101)]
set_option maxRecDepth 100000 in
theorem mcK_all_4 : (List.zipWith mcK mcT_4 mcP_4).all id = true := by decide +kernel
theorem mcK_len_4 : mcT_4.length = mcP_4.length := by decide +kernel
def mcP_5 : List (Nat × Nat × Nat × Nat) := [(571, 572, 573, 97), (575, 576, 577, 99), (1361, 128, 129, 0), (1503, 1505, 33, 104), (1643, 1644, 0, 104), (1544, 1546, 42, 104), (1476, 1478, 27, 104), (1472, 1474, 26, 104), (1497, 618, 619, 106), (1498, 628, 629, 106), (1484, 1486, 29, 104), (1493, 1495, 31, 104), (1507, 1509, 34, 104), (1512, 1514, 35, 104), (1517, 1519, 36, 104), (1522, 1524, 37, 104), (1531, 1533, 39, 104), (1535, 1537, 40, 104), (1565, 1567, 46, 104), (1557, 1559, 44, 104), (1561, 1563, 45, 104), (1569, 1571, 47, 104), (1552, 1554, 43, 104), (1578, 1580, 49, 104), (1499, 1501, 32, 104), (1527, 1529, 38, 104), (1540, 1542, 41, 104), (1574, 1576, 48, 104), (1609, 1611, 55, 104), (1617, 1619, 57, 104), (1604, 1606, 54, 104), (1592, 1594, 51, 104), (1600, 1602, 53, 104), (1613, 1615, 56, 104), (1596, 1598, 52, 104), (1488, 1490, 30, 104), (1586, 1588, 50, 104), (1468, 1470, 25, 104), (1480, 1482, 28, 104), (1464, 1466, 24, 104)]
set_option maxRecDepth 100000 in
theorem mcK_all_5 : (List.zipWith mcK mcT_5 mcP_5).all id = true := by decide +kernel
theorem mcK_len_5 : mcT_5.length = mcP_5.length := by decide +kernel
def mcP_6 : List (Nat × Nat × Nat × Nat) := [(1627, 1629, 58, 104), (1658, 1660, 63, 104), (1682, 1684, 67, 104), (1654, 1656, 62, 104), (1646, 1648, 60, 104), (1678, 1680, 66, 104), (1739, 1741, 78, 104), (1735, 1737, 77, 104), (1690, 1022, 1023, 119), (1731, 1733, 76, 104), (1743, 1062, 1063, 119), (1744, 1746, 79, 104), (1748, 1750, 80, 104), (1650, 1652, 61, 104), (1723, 1725, 74, 104), (1727, 1729, 75, 104), (1752, 1754, 81, 104), (1719, 1721, 73, 104), (1639, 1641, 59, 104), (1662, 1664, 64, 104), (1674, 1676, 65, 104), (1686, 1688, 68, 104), (1699, 1701, 69, 104), (1703, 1705, 70, 104), (1711, 1713, 71, 104), (1715, 1717, 72, 104), (1776, 1778, 82, 104), (1780, 1782, 83, 104), (1792, 499, 0, 121), (1793, 1794, 0, 104), (1800, 1802, 84, 104), (1808, 1810, 85, 104), (1821, 1823, 87, 104), (1825, 1827, 88, 104), (1829, 1831, 89, 104), (1816, 1818, 86, 104), (1841, 1843, 90, 104), (1845, 1847, 91, 104), (1857, 1859, 92, 104), (592, 593, 594, 94)]
set_option maxRecDepth 100000 in
theorem mcK_all_6 : (List.zipWith mcK mcT_6 mcP_6).all id = true := by decide +kernel
theorem mcK_len_6 : mcT_6.length = mcP_6.length := by decide +kernel
def mcP_7 : List (Nat × Nat × Nat × Nat) := [(859, 860, 861, 94), (941, 942, 943, 94), (993, 994, 995, 94), (1007, 1008, 1009, 94), (1033, 1034, 1035, 94), (1041, 1042, 1043, 94), (1049, 1050, 1051, 94), (1131, 1132, 1133, 94), (1139, 1140, 1141, 94), (1148, 1149, 1150, 94), (1171, 1172, 1173, 94), (1182, 1183, 1184, 94), (1198, 1199, 1200, 94), (1210, 1211, 1212, 94), (1222, 1223, 1224, 94), (1235, 1236, 1237, 94), (1258, 1259, 1260, 94), (1293, 1294, 1295, 94), (1316, 1317, 1318, 94), (1327, 1328, 1329, 94), (124, 125, 0, 94), (1358, 1359, 0, 104), (422, 423, 424, 94), (1448, 1449, 1450, 104), (434, 435, 436, 94), (1452, 1453, 1454, 104), (587, 588, 0, 93), (1460, 1461, 1462, 104), (1352, 1353, 1354, 104), (856, 857, 0, 93), (1631, 1632, 1633, 104), (438, 439, 440, 94), (1456, 1457, 1458, 104), (936, 937, 0, 93), (1635, 1636, 1637, 104), (990, 991, 0, 93), (1666, 1667, 1668, 104), (1004, 1005, 0, 93), (1670, 1671, 1672, 104), (1030, 1031, 0, 93)]
set_option maxRecDepth 100000 in
theorem mcK_all_7 : (List.zipWith mcK mcT_7 mcP_7).all id = true := by decide +kernel
theorem mcK_len_7 : mcT_7.length = mcP_7.length := by decide +kernel
def mcP_8 : List (Nat × Nat × Nat × Nat) := [(1691, 1692, 1693, 104), (1038, 1039, 0, 93), (1695, 1696, 1697, 104), (1046, 1047, 0, 93), (1707, 1708, 1709, 104), (1128, 1129, 0, 93), (1756, 1757, 1758, 104), (1136, 1137, 0, 93), (1760, 1761, 1762, 104), (1144, 1145, 0, 93), (1764, 1765, 1766, 104), (1168, 1169, 0, 93), (1768, 1769, 1770, 104), (1179, 1180, 0, 93), (1772, 1773, 1774, 104), (1195, 1196, 0, 93), (1784, 1785, 1786, 104), (1207, 1208, 0, 93), (1788, 1789, 1790, 104), (1219, 1220, 0, 93), (1796, 1797, 1798, 104), (1232, 1233, 0, 93), (1804, 1805, 1806, 104), (1255, 1256, 0, 93), (1812, 1813, 1814, 104), (1290, 1291, 0, 93), (1833, 1834, 1835, 104), (1313, 1314, 0, 93), (1837, 1838, 1839, 104), (442, 443, 444, 94), (1849, 1850, 1851, 104), (465, 466, 467, 94), (1853, 1854, 1855, 104), (507, 508, 509, 94), (1861, 1862, 1863, 104), (1324, 1325, 0, 93), (1865, 1866, 1867, 104), (520, 521, 522, 94), (1444, 1445, 1446, 104), (554, 555, 556, 94)]
set_option maxRecDepth 100000 in
theorem mcK_all_8 : (List.zipWith mcK mcT_8 mcP_8).all id = true := by decide +kernel
theorem mcK_len_8 : mcT_8.length = mcP_8.length := by decide +kernel
def mcP_9 : List (Nat × Nat × Nat × Nat) := [(1436, 1437, 1438, 104), (559, 560, 561, 94), (1440, 1441, 1442, 104), (567, 568, 569, 94), (1869, 1870, 1871, 104)]
set_option maxRecDepth 100000 in
theorem mcK_all_9 : (List.zipWith mcK mcT_9 mcP_9).all id = true := by decide +kernel
theorem mcK_len_9 : mcT_9.length = mcP_9.length := by decide +kernel
def mlP : List Nat := [0, 0, 0, 0, 0, 0, 0, 0, 0, 0, 0, 0, 0, 0, 0, 0, 0, 0, 0, 0, 0, 0, 0, 0, 0, 0, 0, 0, 0, 0, 0, 0, 0, 0, 0, 0, 0, 0, 0, 0, 0, 0, 0, 0, 0, 0, 0, 0, 0, 0, 0, 0, 0, 0, 0, 0, 0, 0, 0, 0, 0, 0, 0, 0, 0, 0, 0, 0, 0, 0, 0, 0, 0, 0, 0, 1820, 501, 502, 503]
def mstrs : List (String × Nat × String) := [("BarrelNight$Town", 87, "yard"), ("BarrelNight$Yards", 48, "yard"), ("BarrelNight$Yards", 58, "wall"), ("BarrelNight$Yards", 59, "door"), ("BarrelNight$Yards", 60, "thatch"), ("BarrelNight$Town", 96, "lane"), ("BarrelNight$Lanes", 36, "lane"), ("BarrelNight$Town", 104, "barrel"), ("BarrelNight$Barrels", 45, "barrel"), ("BarrelNight$Barrels", 51, "at"), ("BarrelNight$Barrels", 57, "pace"), ("BarrelNight$Barrels", 58, "tar"), ("BarrelNight$Barrels", 59, "weight"), ("BarrelNight$Barrels", 60, "way"), ("BarrelNight$Town", 109, "bearer"), ("BarrelNight$Bearers", 33, "bearer"), ("BarrelNight$Town", 112, "wind"), ("BarrelNight$Town", 120, "push"), ("BarrelNight$Town", 121, "shut"), ("BarrelNight$Town", 128, "open"), ("BarrelNight", 374, "the text is wrong"), ("BarrelNight", 87, "there are 10 texts"), ("BarrelNight$Law", 28, "back"), ("BarrelNight$Law", 38, "if"), ("BarrelNight$Law", 70, "not"), ("BarrelNight$Law", 85, "thatch"), ("BarrelNight$Law", 87, "at"), ("BarrelNight$Law", 100, "people"), ("BarrelNight$Law", 102, "holds"), ("BarrelNight$Law", 104, "inside"), ("BarrelNight$Law", 106, "yard"), ("BarrelNight$Law", 108, "weight"), ("BarrelNight$Law", 110, "wind"), ("BarrelNight$Law", 112, "second"), ("BarrelNight$Law", 68, "and"), ("BarrelNight$Law", 63, "or"), ("BarrelNight", 344, "there is no such yard"), ("BarrelNight", 160, "a yard has no such thing"), ("BarrelNight", 376, "there is no such lane"), ("BarrelNight", 174, "a lane has no such thing"), ("BarrelNight", 378, "there is no such barrel"), ("BarrelNight", 208, "a barrel has no such thing"), ("BarrelNight", 224, "there is no such bearer"), ("BarrelNight", 380, "the number is out of its bounds"), ("BarrelNight", 257, "its start is not above the second"), ("BarrelNight", 284, "both are one barrel"), ("BarrelNight", 295, "there is no such place in the row"), ("BarrelNight", 330, "the last camera is not told whole"), ("BarrelNight", 346, "a yard is told twice"), ("BarrelNight", 348, "more are told than the yard holds"), ("BarrelNightModel", 171, "yard"), ("BarrelNightModel", 118, "wall"), ("BarrelNightModel", 124, "door"), ("BarrelNightModel", 130, "thatch"), ("BarrelNightModel", 177, "lane"), ("BarrelNightModel", 182, "barrel"), ("BarrelNightModel", 156, "at"), ("BarrelNightModel", 158, "pace"), ("BarrelNightModel", 160, "tar"), ("BarrelNightModel", 162, "weight"), ("BarrelNightModel", 144, "way"), ("BarrelNightModel", 187, "bearer"), ("BarrelNightModel", 192, "wind"), ("BarrelNightModel", 194, "push"), ("BarrelNightModel", 196, "open"), ("BarrelNightModel", 198, "shut"), ("BarrelNightModel", 242, "back"), ("BarrelNightModel", 244, "if"), ("BarrelNightModel", 227, "not"), ("BarrelNightModel", 207, "people"), ("BarrelNightModel", 209, "holds"), ("BarrelNightModel", 211, "inside"), ("BarrelNightModel", 213, "second"), ("BarrelNightModel", 235, "and"), ("BarrelNightModel", 240, "or")]
def mlK (r : Nat × Nat × Nat × Nat) (p : Nat) : Bool := match r.2.2.1 with
  | 0 => match mstrs[r.2.2.2]? with
    | some t => t.1 == mcn r.1 && t.2.1 == r.2.1
    | none => false
  | _ => mhas p (.constant (mcn r.1) r.2.1 (Int32.ofNat r.2.2.2))
set_option maxRecDepth 100000 in
theorem mlK_all : (List.zipWith mlK mlT mlP).all id = true := by decide +kernel
theorem mlK_len : mlT.length = mlP.length := by decide +kernel
def mnP : List (Nat × Nat × Nat) := [(341, 159, 96), (164, 165, 97), (210, 211, 98), (235, 236, 99), (273, 274, 100), (130, 131, 95), (158, 159, 96), (335, 336, 101), (355, 356, 102), (365, 366, 103), (863, 864, 116), (122, 123, 94), (1356, 1357, 104)]
def mty (ci : Nat) : Nat → FieldType := match ci with
  | 0 => tyX0
  | 1 => tyX1
  | 2 => tyX2
  | 3 => tyX3
  | 4 => tyX4
  | 5 => tyX5
  | 6 => tyX7
  | 7 => tyX8
  | 8 => tyX9
  | 9 => tyX10
  | 10 => tyX11
  | 11 => tyX12
  | _ => fun _ => .int
def mnK (r : Nat × Nat × Nat) (p : Nat × Nat × Nat) : Bool := match vwCl[r.2.2]? with
  | some (C, T, N) => mhas p.1 (.classLink (mcn r.1) r.2.1 C) && (mhas p.2.1 (.instantiable C N) && (mhas p.2.2 (.initialized C) && (decide ((mdef r.2.2).length = N) && (decide (r.2.2 < 12)))))
  | none => false
set_option maxRecDepth 100000 in
theorem mnK_all : (List.zipWith mnK mnT mnP).all id = true := by decide +kernel
theorem mnK_len : mnT.length = mnP.length := by decide +kernel
/-- fields of a new object of class ci -/
theorem mdef_ok : ∀ ci, ci < 12 → ∀ r, vwCl[ci]? = some r → ∀ j, j < r.2.2 → defaultValue (mty ci j) = vp_V (mdef ci) j := by
  intro ci hci r hr j hj
  have h : ((List.range 12).all (fun ci => match vwCl[ci]? with | some r => (List.range r.2.2).all (fun j => decide (defaultValue (mty ci j) = vp_V (mdef ci) j)) | none => true)) = true := by decide +kernel
  have h1 := List.all_eq_true.mp h ci (List.mem_range.mpr hci)
  rw [hr] at h1
  exact decide_eq_true_eq.mp (List.all_eq_true.mp h1 j (List.mem_range.mpr hj))
theorem mty_ok : ∀ ci, ci < 12 → ∀ r, vwCl[ci]? = some r → ∀ j, j < r.2.2 → parseFieldDescriptor (r.2.1 j).2.2.1 = some (mty ci j) := by
  intro ci hci r hr j hj
  have h : ((List.range 12).all (fun ci => match vwCl[ci]? with | some r => (List.range r.2.2).all (fun j => decide (parseFieldDescriptor (r.2.1 j).2.2.1 = some (mty ci j))) | none => true)) = true := by decide +kernel
  have h1 := List.all_eq_true.mp h ci (List.mem_range.mpr hci)
  rw [hr] at h1
  exact decide_eq_true_eq.mp (List.all_eq_true.mp h1 j (List.mem_range.mpr hj))
theorem mnm_ok : ∀ ci, ci < 12 → ∀ r, vwCl[ci]? = some r → ∀ a, a < r.2.2 → ∀ b, b < r.2.2 → a ≠ b → (r.2.1 a).2.1 ≠ (r.2.1 b).2.1 := by
  intro ci hci r hr a ha b hb
  have h : ((List.range 12).all (fun ci => match vwCl[ci]? with | some r => (List.range r.2.2).all (fun a => (List.range r.2.2).all (fun b => decide (a ≠ b → (r.2.1 a).2.1 ≠ (r.2.1 b).2.1))) | none => true)) = true := by decide +kernel
  have h1 := List.all_eq_true.mp h ci (List.mem_range.mpr hci)
  rw [hr] at h1
  exact decide_eq_true_eq.mp (List.all_eq_true.mp (List.all_eq_true.mp h1 a (List.mem_range.mpr ha)) b (List.mem_range.mpr hb))
def muP : List (List Nat) := [[258, 260, 262, 264, 266, 268, 270], [287, 289, 291], [226, 228, 230, 232], [873, 875, 877], [348, 350, 352], [378, 380, 382, 384, 386, 388], [144, 146, 148, 150, 152, 154], [362], [316, 318, 320, 322, 324, 326, 328, 330, 332], [193, 195, 197, 199, 201, 203, 205, 207], [401, 403, 405, 407, 409, 411, 413, 415, 417, 419], [1386, 1388, 1390, 1392, 1394, 1396, 1398, 1400, 1402, 1404, 1406, 1408, 1410, 1412, 1414, 1416, 1418, 1420, 1422, 1424, 1426, 1428, 1430, 1432]]
set_option maxRecDepth 100000 in
theorem mu_all : (List.zipWith (fun (q : vw_C) (p : List Nat) => (List.range q.2.2).all (fun k => mhas (p.getD k 99999) (u_lay q.1 q.2.1 k))) vwCl muP).all id = true := by decide +kernel
theorem mu_in {ci : Nat} {r : vw_C} (hr : vwCl[ci]? = some r) : ∀ w ∈ u_ws r.1 r.2.1 r.2.2, w ∈ bW := by
  intro w hw
  obtain ⟨k, hk, rfl⟩ := List.mem_map.mp hw
  have hp : ∃ p, muP[ci]? = some p := by
    have h1 := (List.getElem?_eq_some_iff.mp hr).1
    have h2 : vwCl.length = muP.length := rfl
    exact ⟨_, List.getElem?_eq_getElem (h2 ▸ h1)⟩
  obtain ⟨p, hp⟩ := hp
  have h3 : (List.zipWith (fun (q : vw_C) (p : List Nat) => (List.range q.2.2).all (fun k => mhas (p.getD k 99999) (u_lay q.1 q.2.1 k))) vwCl muP)[ci]? = some ((List.range r.2.2).all (fun k => mhas (p.getD k 99999) (u_lay r.1 r.2.1 k))) := by
    rw [List.getElem?_zipWith, hr, hp]
  have h4 := List.all_eq_true.mp mu_all _ (List.mem_of_getElem? h3)
  exact mhas_in (List.all_eq_true.mp h4 k hk)
/-- a row of a table, and what holds of it -/
theorem zip_at {α β : Type} {f : α → β → Bool} {as : List α} {bs : List β} (h : (List.zipWith f as bs).all id = true) (hl : as.length = bs.length) {a : α} (ha : a ∈ as) : ∃ b, f a b = true := by
  obtain ⟨i, hi⟩ := List.getElem?_of_mem ha
  have h1 := (List.getElem?_eq_some_iff.mp hi).1
  have hb := List.getElem?_eq_getElem (hl ▸ h1 : i < bs.length)
  refine ⟨bs[i]'(hl ▸ h1), ?_⟩
  have h3 : (List.zipWith f as bs)[i]? = some (f a (bs[i]'(hl ▸ h1))) := by rw [List.getElem?_zipWith, hi, hb]
  exact List.all_eq_true.mp h _ (List.mem_of_getElem? h3)
theorem mfK_at {r : Nat × Nat × Nat × Nat × Nat} (h : r ∈ mfT) : ∃ p : Nat, mfK r p = true := by
  simp only [mfT, List.mem_append] at h
  rcases h with h | h | h
  · exact zip_at mfK_all_0 mfK_len_0 h
  · exact zip_at mfK_all_1 mfK_len_1 h
  · exact zip_at mfK_all_2 mfK_len_2 h
theorem mmK_at {r : MethodName × ByteArray × Nat × Option FieldType × Nat} (h : r ∈ mT) : ∃ p : Nat, mmK r p = true := by
  simp only [mT, List.mem_append] at h
  rcases h with h | h | h | h | h | h | h
  · exact zip_at mmK_all_0 mmK_len_0 h
  · exact zip_at mmK_all_1 mmK_len_1 h
  · exact zip_at mmK_all_2 mmK_len_2 h
  · exact zip_at mmK_all_3 mmK_len_3 h
  · exact zip_at mmK_all_4 mmK_len_4 h
  · exact zip_at mmK_all_5 mmK_len_5 h
  · exact zip_at mmK_all_6 mmK_len_6 h
theorem mcK_at {r : Nat × Nat × Nat × Nat × Nat} (h : r ∈ mcT) : ∃ p : Nat × Nat × Nat × Nat, mcK r p = true := by
  simp only [mcT, List.mem_append] at h
  rcases h with h | h | h | h | h | h | h | h | h | h
  · exact zip_at mcK_all_0 mcK_len_0 h
  · exact zip_at mcK_all_1 mcK_len_1 h
  · exact zip_at mcK_all_2 mcK_len_2 h
  · exact zip_at mcK_all_3 mcK_len_3 h
  · exact zip_at mcK_all_4 mcK_len_4 h
  · exact zip_at mcK_all_5 mcK_len_5 h
  · exact zip_at mcK_all_6 mcK_len_6 h
  · exact zip_at mcK_all_7 mcK_len_7 h
  · exact zip_at mcK_all_8 mcK_len_8 h
  · exact zip_at mcK_all_9 mcK_len_9 h
