/-! WHAT THE TABLES SAY OF THE MACHINE'S TABLES: words by their places -/
def bW : List Cond := lw_tbl.filter goodWord
theorem bW_in {w : Cond} (h : w ∈ bW) : w ∈ lw_tbl := (List.mem_filter.mp h).1
theorem bW_gd {w : Cond} (h : w ∈ bW) : goodWord w = true := (List.mem_filter.mp h).2
theorem bW_good : GoodIn lw_tbl bW := fun w h => ⟨bW_in h, good_of_word (bW_gd h)⟩
theorem bW_self : GoodIn bW bW := fun w h => ⟨h, good_of_word (bW_gd h)⟩
def mhas (p : Nat) (w : Cond) : Bool := decide (lw_tbl[p]? = some w) && goodWord w
theorem mhas_in {p : Nat} {w : Cond} (h : mhas p w = true) : w ∈ bW := by
  simp only [mhas, Bool.and_eq_true, decide_eq_true_eq] at h
  exact List.mem_filter.mpr ⟨List.mem_of_getElem? h.1, h.2⟩
/-- the classes' names -/
def mcn (oc : Nat) : String := [RX0, RX1, RX2, RX3, RX4, RX5, RX6, RX7, RX8, RX9, RX10, RX11, RX12, RL, RJ6].getD oc ""
def mtyk : FieldType → Nat
  | .int => 0
  | .boolean => 1
  | .object _ => 2
  | .array _ => 2
  | _ => 9
def mfK (r : Nat × Nat × Nat × Nat × Nat) (p : Nat) : Bool := match vwCl[r.2.2.1]? with
  | some (_, T, N) => decide (r.2.2.2.1 < N) && (mhas p (.fieldLink (mcn r.1) r.2.1 (T r.2.2.2.1).1 (T r.2.2.2.1).2.1 (T r.2.2.2.1).2.2.1) && (((T r.2.2.2.1).2.2.2 == decide (4 ≤ r.2.2.2.2)) && (((parseFieldDescriptor (T r.2.2.2.1).2.2.1).map mtyk == some (r.2.2.2.2 % 4)))))
  | none => false

def mfP_0 : List (Nat) := [247, 249, 251, 253, 257, 259, 243, 284, 286, 281, 222, 225, 218, 221, 872, 871, 869, 298, 177, 303, 312, 185, 181, 192, 256, 315, 349, 346, 348, 377, 378, 379, 282, 375, 376, 373, 287, 140, 142, 138, 143, 145, 144, 363, 244, 296, 299, 301, 304, 316]
set_option maxRecDepth 100000 in
theorem mfK_all_0 : (List.zipWith mfK mfT_0 mfP_0).all id = true := by decide +kernel
theorem mfK_len_0 : mfT_0.length = mfP_0.length := by decide +kernel
def mfP_1 : List (Nat) := [306, 308, 310, 313, 173, 219, 245, 184, 224, 227, 255, 178, 179, 182, 186, 188, 190, 193, 172, 175, 393, 394, 395, 396, 397, 398, 399, 400, 402, 139, 309, 307, 870, 297, 180, 183, 187, 189, 191, 176, 194, 302, 311, 300, 223, 226, 248, 250, 252, 254]
set_option maxRecDepth 100000 in
theorem mfK_all_1 : (List.zipWith mfK mfT_1 mfP_1).all id = true := by decide +kernel
theorem mfK_len_1 : mfT_1.length = mfP_1.length := by decide +kernel
def mfP_2 : List (Nat) := [258, 314, 305, 283, 288, 285, 174, 374, 401, 220, 246, 317, 347, 141, 1371, 1372, 1373, 1374, 1375, 1376, 1379, 1385, 1386, 1388, 1389, 1390, 1391, 1392, 1393, 1394, 1377, 1378, 1380, 1381, 1382, 1383, 1387, 1384]
set_option maxRecDepth 100000 in
theorem mfK_all_2 : (List.zipWith mfK mfT_2 mfP_2).all id = true := by decide +kernel
theorem mfK_len_2 : mfT_2.length = mfP_2.length := by decide +kernel
set_option maxRecDepth 100000 in
theorem mcw_0 : (mT_0).map (fun m => Cond.code m.1 m.2.1 m.2.2.1 m.2.2.2.1) = [241, 547, 714, 727, 482, 586, 582, 1087, 1201, 578, 1332, 976, 980, 1102, 478, 1028, 1035, 1239, 279, 552, 741, 1284, 1279, 1313, 1309, 1319, 216, 542, 700, 463, 709, 736, 459, 514, 455, 487, 493, 867, 913, 883].filterMap (fun i => lw_tbl[i]?) := rfl
set_option maxRecDepth 100000 in
theorem mcw_1 : (mT_1).map (fun m => Cond.code m.1 m.2.1 m.2.2.1 m.2.2.2.1) = [888, 897, 901, 905, 925, 929, 932, 1107, 1113, 1110, 341, 566, 1068, 527, 371, 1275, 1288, 1294, 1298, 466, 490, 496, 500, 136, 431, 435, 1344, 1348, 603, 765, 607, 672, 731, 761, 616, 757, 681, 918, 677, 687].filterMap (fun i => lw_tbl[i]?) := rfl
set_option maxRecDepth 100000 in
theorem mcw_2 : (mT_2).map (fun m => Cond.code m.1 m.2.1 m.2.2.1 m.2.2.2.1) = [691, 361, 1251, 1254, 1259, 1262, 164, 531, 599, 611, 1075, 1213, 1197, 1079, 1083, 1098, 1135, 474, 170, 535, 668, 451, 574, 1359, 519, 1186, 1091, 1120, 1130, 1125, 128, 427, 439, 595, 862, 443, 952, 1004, 1018, 1044].filterMap (fun i => lw_tbl[i]?) := rfl
set_option maxRecDepth 100000 in
theorem mcw_3 : (mT_3).map (fun m => Cond.code m.1 m.2.1 m.2.2.1 m.2.2.2.1) = [1052, 1060, 1142, 1150, 1159, 1182, 1193, 1209, 1221, 1226, 1234, 1247, 1270, 1305, 1328, 447, 470, 510, 1339, 1353, 523, 557, 562, 570, 769, 956, 1008, 1022, 1063, 1364, 1639, 1654, 1804, 1369, 1448, 1452, 1723, 1456, 1515, 1543].filterMap (fun i => lw_tbl[i]?) := rfl
set_option maxRecDepth 100000 in
theorem mcw_4 : (mT_4).map (fun m => Cond.code m.1 m.2.1 m.2.2.1 m.2.2.2.1) = [1556, 1590, 1658, 1529, 1577, 1569, 1581, 1715, 1711, 1651, 1686, 1460, 1464, 1488, 1484, 1496, 1505, 1534, 1616, 1519, 1524, 1468, 1480, 1547, 1511, 1539, 1573, 1564, 1552, 1586, 1500, 1621, 1629, 1625, 1612, 1608, 1604, 1598, 1492, 1476].filterMap (fun i => lw_tbl[i]?) := rfl
set_option maxRecDepth 100000 in
theorem mcw_5 : (mT_5).map (fun m => Cond.code m.1 m.2.1 m.2.2.1 m.2.2.2.1) = [1472, 1643, 1670, 1694, 1690, 1666, 1662, 1751, 1747, 1743, 1756, 1760, 1735, 1739, 1764, 1731, 1727, 1674, 1647, 1678, 1698, 1682, 1703, 1707, 1719, 1768, 1772, 1776, 1780, 1788, 1792, 1784, 1796, 1800, 1812, 1808, 1820, 1816, 1833, 1841].filterMap (fun i => lw_tbl[i]?) := rfl
set_option maxRecDepth 100000 in
theorem mcw_6 : (mT_6.take 14).map (fun m => Cond.code m.1 m.2.1 m.2.2.1 m.2.2.2.1) = [1837, 1828, 1824, 1845, 1853, 1857, 1849, 1861, 1869, 1865, 1873, 1877, 1881, 503].filterMap (fun i => lw_tbl[i]?) := rfl
theorem mcw_at {m : MethodName × ByteArray × Nat × Option FieldType × Nat} {ms : List (MethodName × ByteArray × Nat × Option FieldType × Nat)} {ps : List Nat} (e : ms.map (fun m => Cond.code m.1 m.2.1 m.2.2.1 m.2.2.2.1) = ps.filterMap (fun i => lw_tbl[i]?)) (h : m ∈ ms) : Cond.code m.1 m.2.1 m.2.2.1 m.2.2.2.1 ∈ bW := by
  have h1 : Cond.code m.1 m.2.1 m.2.2.1 m.2.2.2.1 ∈ ms.map (fun m => Cond.code m.1 m.2.1 m.2.2.1 m.2.2.2.1) := List.mem_map.mpr ⟨m, h, rfl⟩
  rw [e] at h1
  obtain ⟨i, -, hi⟩ := List.mem_filterMap.mp h1
  exact List.mem_filter.mpr ⟨List.mem_of_getElem? hi, rfl⟩
def mmK (m : MethodName × ByteArray × Nat × Option FieldType × Nat) (p : Nat) : Bool := mhas p (.initialized m.1.cls) && (decide (m.2.2.1 ≤ 21) && (plainName m.1.cls && (decide (m.1.cls ≠ "java/lang/invoke/MethodHandle") && (decide (m.1.cls ≠ "java/lang/invoke/VarHandle") && (m.1.cls == mcn m.2.2.2.2)))))
def mmP_0 : List (Nat) := [101, 101, 101, 101, 101, 101, 101, 101, 101, 101, 101, 101, 101, 101, 101, 101, 101, 101, 102, 102, 102, 102, 102, 102, 102, 102, 100, 100, 100, 100, 100, 100, 100, 100, 100, 100, 100, 118, 118, 118]
set_option maxRecDepth 100000 in
theorem mmK_all_0 : (List.zipWith mmK mT_0 mmP_0).all id = true := by decide +kernel
theorem mmK_len_0 : mT_0.length = mmP_0.length := by decide +kernel
def mmP_1 : List (Nat) := [118, 118, 118, 118, 118, 118, 118, 118, 118, 118, 103, 103, 103, 103, 105, 105, 105, 105, 105, 112, 112, 112, 112, 97, 97, 97, 97, 97, 97, 97, 97, 97, 97, 97, 97, 97, 97, 97, 97, 97]
set_option maxRecDepth 100000 in
theorem mmK_all_1 : (List.zipWith mmK mT_1 mmP_1).all id = true := by decide +kernel
theorem mmK_len_1 : mT_1.length = mmP_1.length := by decide +kernel
def mmP_2 : List (Nat) := [97, 104, 104, 104, 104, 104, 98, 98, 98, 98, 98, 98, 98, 98, 98, 98, 98, 98, 99, 99, 99, 99, 99, 99, 99, 99, 99, 99, 99, 99, 96, 96, 96, 96, 96, 96, 96, 96, 96, 96]
set_option maxRecDepth 100000 in
theorem mmK_all_2 : (List.zipWith mmK mT_2 mmP_2).all id = true := by decide +kernel
theorem mmK_len_2 : mT_2.length = mmP_2.length := by decide +kernel
def mmP_3 : List (Nat) := [96, 96, 96, 96, 96, 96, 96, 96, 96, 96, 96, 96, 96, 96, 96, 96, 96, 96, 96, 96, 96, 96, 96, 96, 96, 96, 96, 96, 96, 106, 106, 106, 106, 106, 106, 106, 106, 106, 106, 106]
set_option maxRecDepth 100000 in
theorem mmK_all_3 : (List.zipWith mmK mT_3 mmP_3).all id = true := by decide +kernel
theorem mmK_len_3 : mT_3.length = mmP_3.length := by decide +kernel
def mmP_4 : List (Nat) := [106, 106, 106, 106, 106, 106, 106, 106, 106, 106, 106, 106, 106, 106, 106, 106, 106, 106, 106, 106, 106, 106, 106, 106, 106, 106, 106, 106, 106, 106, 106, 106, 106, 106, 106, 106, 106, 106, 106, 106]
set_option maxRecDepth 100000 in
theorem mmK_all_4 : (List.zipWith mmK mT_4 mmP_4).all id = true := by decide +kernel
theorem mmK_len_4 : mT_4.length = mmP_4.length := by decide +kernel
def mmP_5 : List (Nat) := [106, 106, 106, 106, 106, 106, 106, 106, 106, 106, 106, 106, 106, 106, 106, 106, 106, 106, 106, 106, 106, 106, 106, 106, 106, 106, 106, 106, 106, 106, 106, 106, 106, 106, 106, 106, 106, 106, 106, 106]
set_option maxRecDepth 100000 in
theorem mmK_all_5 : (List.zipWith mmK mT_5 mmP_5).all id = true := by decide +kernel
theorem mmK_len_5 : mT_5.length = mmP_5.length := by decide +kernel
def mmP_6 : List (Nat) := [106, 106, 106, 106, 106, 106, 106, 106, 106, 106, 106, 106, 106, 123, 95, 95, 95, 95, 95, 95, 95, 95, 95, 95, 95, 95, 95, 95, 95, 95, 95, 95, 95, 95, 95, 95]
set_option maxRecDepth 100000 in
theorem mmK_all_6 : (List.zipWith mmK mT_6 mmP_6).all id = true := by decide +kernel
theorem mmK_len_6 : mT_6.length = mmP_6.length := by decide +kernel
def mwH : List (List (Nat × Nat × Nat × Nat)) := [[(0, 8, 11, 13), (0, 8, 14, 15)], [(0, 8, 11, 13)], [(0, 10, 13, 24), (0, 10, 17, 26)], [(0, 10, 13, 24), (0, 10, 17, 26)], [(0, 10, 13, 24), (0, 10, 17, 26)], [(0, 10, 13, 24)], [(0, 10, 13, 24)], [(0, 9, 12, 13)], [(0, 17, 20, 24)], [(0, 10, 13, 24), (0, 10, 17, 13)], [(0, 10, 13, 24), (0, 10, 17, 13), (0, 10, 21, 55)], [(0, 10, 13, 24), (0, 10, 17, 13)], [(0, 9, 12, 13)], [(0, 9, 12, 24)], [(0, 9, 12, 13)], [(0, 10, 13, 24), (0, 10, 17, 13)], [(0, 10, 13, 24), (0, 10, 17, 13)], [(0, 10, 13, 24), (0, 10, 17, 13)], [(0, 10, 13, 24), (0, 10, 17, 13)], [(0, 10, 13, 24)], [(0, 9, 12, 13)]]
def mwM : List ((MethodName × ByteArray × Nat × Option FieldType × Nat) × List (Nat × Nat × Nat × Nat)) := ((mT.drop 254).take 21).zip mwH
set_option maxRecDepth 100000 in
theorem mww_0 : mwM.map (fun q => Cond.codeWith q.1.1 q.1.2.1 q.1.2.2.1 q.1.2.2.2.1 q.2) = [589, 858, 946, 1000, 1014, 1040, 1048, 1056, 1138, 1146, 1154, 1178, 1189, 1205, 1217, 1230, 1243, 1266, 1301, 1324, 1335].filterMap (fun i => lw_tbl[i]?) := rfl
def mNs : List (String × Nat × MethodName × String) := [("BarrelNight", 9, ({ cls := "BarrelNight$Tape", name := "<init>", desc := "()V" } : Jvm.MethodName), "BarrelNight"), ("BarrelNight", 18, ({ cls := "BarrelNight$Town", name := "<init>", desc := "()V" } : Jvm.MethodName), "BarrelNight"), ("BarrelNight$Town", 11, ({ cls := "BarrelNight$Yards", name := "<init>", desc := "()V" } : Jvm.MethodName), "BarrelNight"), ("BarrelNight$Town", 20, ({ cls := "BarrelNight$Lanes", name := "<init>", desc := "()V" } : Jvm.MethodName), "BarrelNight"), ("BarrelNight$Town", 27, ({ cls := "BarrelNight$Barrels", name := "<init>", desc := "()V" } : Jvm.MethodName), "BarrelNight"), ("BarrelNight$Town", 34, ({ cls := "BarrelNight$Bearers", name := "<init>", desc := "()V" } : Jvm.MethodName), "BarrelNight"), ("BarrelNight$Memory", 15, ({ cls := "BarrelNight$Town", name := "<init>", desc := "()V" } : Jvm.MethodName), "BarrelNight"), ("BarrelNight", 38, ({ cls := "BarrelNight$Timetable", name := "<init>", desc := "()V" } : Jvm.MethodName), "BarrelNight"), ("BarrelNight", 45, ({ cls := "BarrelNight$Relay", name := "<init>", desc := "()V" } : Jvm.MethodName), "BarrelNight")]
def mnm (y : Nat) : MethodName := match mT[y]? with | some m => m.1 | none => ⟨"", "", ""⟩
def mnp (x : MethodName) : Option Nat := (parseMethodDescriptor x.desc).map (fun d => d.parameters.length)
def mcK (r : Nat × Nat × Nat × Nat × Nat) (p : Nat × Nat × Nat × Nat) : Bool := match r.2.2.1 with
  | 0 => mhas p.1 (.methodLink (mcn r.1) r.2.1 (mnm r.2.2.2.1)) && (mhas p.2.1 (.instanceMethod (mnm r.2.2.2.1)) && (mhas p.2.2.1 (.selects (mnm r.2.2.2.1).cls (mnm r.2.2.2.1) (mnm r.2.2.2.1)) && (mhas p.2.2.2 (.initialized (mnm r.2.2.2.1).cls) && (decide (mnp (mnm r.2.2.2.1) = some (r.2.2.2.2 - 1)) && (decide (0 < r.2.2.2.2) && (decide (r.2.2.2.1 < 254) && ((vwCl[mci.getD (mown r.2.2.2.1) 99]?).map (fun q => q.1) == some (mnm r.2.2.2.1).cls)))))))
  | 1 => mhas p.1 (.methodLink (mcn r.1) r.2.1 (mnm r.2.2.2.1)) && (mhas p.2.1 (.instanceMethod (mnm r.2.2.2.1)) && (mhas p.2.2.2 (.initialized (mnm r.2.2.2.1).cls) && (decide (mnp (mnm r.2.2.2.1) = some (r.2.2.2.2 - 1)) && (decide (0 < r.2.2.2.2) && (decide (r.2.2.2.1 < 254) && (((mnm r.2.2.2.1).name == "<init>") && (mret r.2.2.2.1 == none)))))))
  | 2 => mhas p.1 (.methodLink (mcn r.1) r.2.1 (mnm r.2.2.2.1)) && (mhas p.2.1 (.static (mnm r.2.2.2.1)) && (mhas p.2.2.2 (.initialized (mnm r.2.2.2.1).cls) && (decide (mnp (mnm r.2.2.2.1) = some r.2.2.2.2) && decide (r.2.2.2.1 < 275))))
  | 3 => mhas p.2.1 (.instanceMethod (mnm r.2.2.2.1)) && (mhas p.2.2.2 (.initialized (mnm r.2.2.2.1).cls) && (decide (mnp (mnm r.2.2.2.1) = some (r.2.2.2.2 - 1)) && (decide (0 < r.2.2.2.2) && (decide (r.2.2.2.1 < 254) && (((mnm r.2.2.2.1).name == "<init>") && ((mret r.2.2.2.1 == none) && decide ((mcn r.1, r.2.1, mnm r.2.2.2.1, "BarrelNight") ∈ mNs)))))))
  | 10 => mhas p.1 (.methodLink (mcn r.1) r.2.1 Lib.objectInit) && (mhas p.2.1 (.instanceMethod Lib.objectInit) && mhas p.2.2.1 (.code Lib.objectInit ⟨#[0xb1]⟩ 1 none))
  | 11 => mhas p.1 (.methodLink (mcn r.1) r.2.1 Lib.Math.min.name) && (mhas p.2.1 (.static Lib.Math.min.name) && (mhas p.2.2.1 (.code Lib.Math.min.name Lib.Math.min.code 2 (some .int)) && mhas p.2.2.2 (.initialized "java/lang/Math")))
  | 12 => mhas p.1 (.methodLink (mcn r.1) r.2.1 Lib.Math.max.name) && (mhas p.2.1 (.static Lib.Math.max.name) && (mhas p.2.2.1 (.code Lib.Math.max.name Lib.Math.max.code 2 (some .int)) && mhas p.2.2.2 (.initialized "java/lang/Math")))
  | 13 => mhas p.1 (.methodLink (mcn r.1) r.2.1 arraycopyName) && (mhas p.2.1 (.native arraycopyName) && (mhas p.2.2.1 (.static arraycopyName) && mhas p.2.2.2 (.initialized "java/lang/System")))
  | 14 => mhas p.1 (.methodLink (mcn r.1) r.2.1 yJ0_length_8abf5) && (mhas p.2.1 (.instanceMethod yJ0_length_8abf5) && (mhas p.2.2.1 (.selects "java/lang/String" yJ0_length_8abf5 yJ0_length_8abf5) && mhas p.2.2.2 (.initialized "java/lang/String")))
  | 15 => mhas p.1 (.methodLink (mcn r.1) r.2.1 yJ0_charAt_5068e) && (mhas p.2.1 (.instanceMethod yJ0_charAt_5068e) && (mhas p.2.2.1 (.selects "java/lang/String" yJ0_charAt_5068e yJ0_charAt_5068e) && mhas p.2.2.2 (.initialized "java/lang/String")))
  | _ => false

def mcP_0 : List (Nat × Nat × Nat × Nat) := [(242, 130, 131, 0), (548, 538, 537, 107), (715, 670, 671, 97), (717, 675, 676, 97), (719, 685, 686, 97), (724, 726, 2, 101), (728, 729, 730, 97), (479, 480, 481, 101), (732, 689, 690, 97), (733, 734, 735, 100), (583, 585, 0, 101), (1029, 1030, 1031, 121), (579, 580, 581, 101), (977, 979, 13, 101), (1103, 465, 0, 112), (1036, 1026, 1027, 101), (1240, 1070, 1071, 121), (280, 130, 131, 0), (553, 538, 537, 107), (742, 670, 671, 97), (744, 675, 676, 97), (745, 685, 686, 97), (1314, 1282, 1283, 102), (1310, 1312, 24, 102), (1315, 465, 0, 112), (1316, 502, 0, 123), (1317, 1318, 0, 102), (1321, 1277, 1278, 102), (1320, 499, 0, 112), (217, 130, 131, 0), (543, 538, 537, 107), (701, 670, 671, 97), (703, 675, 676, 97), (704, 685, 686, 97), (705, 689, 690, 97), (706, 707, 708, 100), (464, 465, 0, 112), (460, 461, 462, 100), (456, 457, 458, 100), (488, 489, 0, 112)]
set_option maxRecDepth 100000 in
theorem mcK_all_0 : (List.zipWith mcK mcT_0 mcP_0).all id = true := by decide +kernel
theorem mcK_len_0 : mcT_0.length = mcP_0.length := by decide +kernel
def mcP_1 : List (Nat × Nat × Nat × Nat) := [(491, 492, 0, 100), (494, 495, 0, 112), (868, 130, 131, 0), (884, 601, 602, 97), (885, 887, 5, 118), (914, 755, 756, 97), (943, 763, 764, 97), (890, 675, 676, 97), (891, 685, 686, 97), (893, 679, 680, 97), (894, 896, 6, 118), (910, 912, 9, 118), (898, 900, 7, 118), (902, 904, 8, 118), (907, 614, 615, 97), (908, 759, 760, 97), (909, 670, 671, 97), (915, 916, 917, 97), (922, 924, 10, 118), (926, 928, 11, 118), (930, 931, 0, 118), (940, 605, 606, 97), (1108, 1109, 0, 118), (1111, 1112, 0, 118), (1114, 465, 0, 112), (1115, 580, 581, 101), (342, 130, 131, 0), (0, 163, 0, 98), (528, 529, 530, 98), (1069, 1070, 1071, 121), (372, 130, 131, 0), (1276, 1277, 1278, 102), (1280, 499, 0, 112), (1281, 1282, 1283, 102), (1285, 1287, 22, 105), (1290, 502, 0, 123), (1289, 465, 0, 112), (1295, 1297, 23, 105), (498, 499, 0, 112), (501, 502, 0, 123)]
set_option maxRecDepth 100000 in
theorem mcK_all_1 : (List.zipWith mcK mcT_1 mcP_1).all id = true := by decide +kernel
theorem mcK_len_1 : mcT_1.length = mcP_1.length := by decide +kernel
def mcP_2 : List (Nat × Nat × Nat × Nat) := [(137, 130, 131, 0), (1349, 1342, 1343, 97), (604, 605, 606, 97), (683, 670, 671, 97), (617, 618, 619, 108), (627, 628, 629, 108), (758, 759, 760, 97), (682, 614, 615, 97), (919, 755, 756, 97), (678, 679, 680, 97), (688, 689, 690, 97), (362, 130, 131, 0), (1252, 1253, 0, 104), (1256, 1258, 21, 104), (1260, 1261, 0, 104), (1255, 1237, 1238, 101), (1263, 499, 0, 112), (165, 130, 131, 0), (0, 169, 0, 99), (0, 215, 0, 100), (0, 240, 0, 101), (0, 278, 0, 102), (532, 533, 534, 99), (539, 540, 541, 100), (544, 545, 546, 101), (549, 550, 551, 102), (600, 601, 602, 97), (608, 610, 1, 98), (754, 755, 756, 97), (762, 763, 764, 97), (613, 614, 615, 97), (665, 666, 667, 99), (697, 698, 699, 100), (711, 712, 713, 101), (738, 739, 740, 102), (747, 679, 680, 97), (748, 685, 686, 97), (751, 707, 708, 100), (753, 670, 671, 97), (1076, 1078, 16, 98)]
set_option maxRecDepth 100000 in
theorem mcK_all_2 : (List.zipWith mcK mcT_2 mcP_2).all id = true := by decide +kernel
theorem mcK_len_2 : mcT_2.length = mcP_2.length := by decide +kernel
def mcP_3 : List (Nat × Nat × Nat × Nat) := [(1214, 1195, 1196, 98), (1198, 1199, 1200, 101), (1116, 1070, 1071, 121), (1202, 1030, 1031, 121), (1080, 1082, 17, 98), (1093, 974, 975, 101), (1094, 465, 0, 112), (1095, 1097, 18, 98), (1127, 1128, 1129, 99), (1131, 461, 462, 100), (1132, 1134, 19, 98), (1084, 1085, 1086, 101), (1088, 1089, 1090, 99), (1099, 1100, 1101, 101), (1104, 1105, 1106, 118), (1117, 1118, 1119, 99), (483, 457, 458, 100), (1122, 1123, 1124, 99), (475, 476, 477, 101), (171, 130, 131, 0), (536, 538, 537, 107), (669, 670, 671, 97), (674, 675, 676, 97), (684, 685, 686, 97), (695, 679, 680, 97), (1360, 465, 0, 112), (1121, 1070, 1071, 121), (1092, 1030, 1031, 121), (1126, 517, 518, 99), (129, 130, 131, 0), (0, 135, 0, 97), (0, 163, 0, 98), (339, 340, 0, 103), (0, 360, 0, 104), (0, 370, 0, 105), (428, 429, 430, 97), (432, 433, 434, 97), (558, 529, 530, 98), (596, 597, 598, 98), (766, 768, 3, 96)]
set_option maxRecDepth 100000 in
theorem mcK_all_3 : (List.zipWith mcK mcT_3 mcP_3).all id = true := by decide +kernel
theorem mcK_len_3 : mcT_3.length = mcP_3.length := by decide +kernel
def mcP_4 : List (Nat × Nat × Nat × Nat) := [(563, 564, 565, 103), (865, 866, 0, 118), (880, 881, 882, 118), (953, 955, 12, 96), (973, 974, 975, 101), (981, 457, 458, 100), (1005, 1007, 14, 96), (1010, 461, 462, 100), (1019, 1021, 15, 96), (1024, 580, 581, 101), (1025, 1026, 1027, 101), (1032, 1033, 1034, 101), (1045, 480, 481, 101), (1061, 1062, 0, 96), (1065, 1066, 1067, 103), (1072, 1073, 1074, 98), (1143, 707, 708, 100), (516, 517, 518, 99), (1151, 1070, 1071, 121), (1183, 1184, 1185, 99), (1194, 1195, 1196, 98), (1210, 1211, 1212, 98), (1222, 489, 0, 112), (1223, 1225, 20, 96), (1227, 495, 0, 112), (515, 465, 0, 112), (1236, 1237, 1238, 101), (1248, 1249, 1250, 104), (1272, 1273, 1274, 105), (1291, 1292, 1293, 105), (1306, 1307, 1308, 102), (1329, 1330, 1331, 101), (448, 449, 450, 99), (452, 453, 454, 100), (471, 472, 473, 98), (484, 485, 486, 100), (511, 512, 513, 100), (1341, 1342, 1343, 97), (1345, 1346, 1347, 97), (1350, 1352, 25, 96)]
set_option maxRecDepth 100000 in
theorem mcK_all_4 : (List.zipWith mcK mcT_4 mcP_4).all id = true := by decide +kernel
theorem mcK_len_4 : mcT_4.length = mcP_4.length := by decide +kernel
def mcP_5 : List (Nat × Nat × Nat × Nat) := [(1356, 1357, 1358, 99), (524, 525, 526, 103), (571, 572, 573, 99), (575, 576, 577, 101), (1370, 130, 131, 0), (1512, 1514, 35, 106), (1652, 1653, 0, 106), (1553, 1555, 44, 106), (1485, 1487, 29, 106), (1481, 1483, 28, 106), (1506, 618, 619, 108), (1507, 628, 629, 108), (1493, 1495, 31, 106), (1502, 1504, 33, 106), (1516, 1518, 36, 106), (1521, 1523, 37, 106), (1526, 1528, 38, 106), (1531, 1533, 39, 106), (1540, 1542, 41, 106), (1544, 1546, 42, 106), (1574, 1576, 48, 106), (1566, 1568, 46, 106), (1570, 1572, 47, 106), (1578, 1580, 49, 106), (1561, 1563, 45, 106), (1587, 1589, 51, 106), (1508, 1510, 34, 106), (1536, 1538, 40, 106), (1549, 1551, 43, 106), (1583, 1585, 50, 106), (1618, 1620, 57, 106), (1626, 1628, 59, 106), (1613, 1615, 56, 106), (1601, 1603, 53, 106), (1609, 1611, 55, 106), (1622, 1624, 58, 106), (1605, 1607, 54, 106), (1497, 1499, 32, 106), (1595, 1597, 52, 106), (1477, 1479, 27, 106)]
set_option maxRecDepth 100000 in
theorem mcK_all_5 : (List.zipWith mcK mcT_5 mcP_5).all id = true := by decide +kernel
theorem mcK_len_5 : mcT_5.length = mcP_5.length := by decide +kernel
def mcP_6 : List (Nat × Nat × Nat × Nat) := [(1489, 1491, 30, 106), (1473, 1475, 26, 106), (1636, 1638, 60, 106), (1667, 1669, 65, 106), (1691, 1693, 69, 106), (1663, 1665, 64, 106), (1655, 1657, 62, 106), (1687, 1689, 68, 106), (1748, 1750, 80, 106), (1744, 1746, 79, 106), (1699, 1030, 1031, 121), (1740, 1742, 78, 106), (1752, 1070, 1071, 121), (1753, 1755, 81, 106), (1757, 1759, 82, 106), (1659, 1661, 63, 106), (1732, 1734, 76, 106), (1736, 1738, 77, 106), (1761, 1763, 83, 106), (1728, 1730, 75, 106), (1648, 1650, 61, 106), (1671, 1673, 66, 106), (1683, 1685, 67, 106), (1695, 1697, 70, 106), (1708, 1710, 71, 106), (1712, 1714, 72, 106), (1720, 1722, 73, 106), (1724, 1726, 74, 106), (1785, 1787, 84, 106), (1789, 1791, 85, 106), (1801, 502, 0, 123), (1802, 1803, 0, 106), (1809, 1811, 86, 106), (1817, 1819, 87, 106), (1830, 1832, 89, 106), (1834, 1836, 90, 106), (1838, 1840, 91, 106), (1825, 1827, 88, 106), (1850, 1852, 92, 106), (1854, 1856, 93, 106)]
set_option maxRecDepth 100000 in
theorem mcK_all_6 : (List.zipWith mcK mcT_6 mcP_6).all id = true := by decide +kernel
theorem mcK_len_6 : mcT_6.length = mcP_6.length := by decide +kernel
def mcP_7 : List (Nat × Nat × Nat × Nat) := [(1866, 1868, 94, 106), (592, 593, 594, 96), (859, 860, 861, 96), (949, 950, 951, 96), (1001, 1002, 1003, 96), (1015, 1016, 1017, 96), (1041, 1042, 1043, 96), (1049, 1050, 1051, 96), (1057, 1058, 1059, 96), (1139, 1140, 1141, 96), (1147, 1148, 1149, 96), (1156, 1157, 1158, 96), (1179, 1180, 1181, 96), (1190, 1191, 1192, 96), (1206, 1207, 1208, 96), (1218, 1219, 1220, 96), (1231, 1232, 1233, 96), (1244, 1245, 1246, 96), (1267, 1268, 1269, 96), (1302, 1303, 1304, 96), (1325, 1326, 1327, 96), (1336, 1337, 1338, 96), (126, 127, 0, 96), (1367, 1368, 0, 106), (424, 425, 426, 96), (1457, 1458, 1459, 106), (436, 437, 438, 96), (1461, 1462, 1463, 106), (587, 588, 0, 95), (1469, 1470, 1471, 106), (1361, 1362, 1363, 106), (856, 857, 0, 95), (1640, 1641, 1642, 106), (440, 441, 442, 96), (1465, 1466, 1467, 106), (944, 945, 0, 95), (1644, 1645, 1646, 106), (998, 999, 0, 95), (1675, 1676, 1677, 106), (1012, 1013, 0, 95)]
set_option maxRecDepth 100000 in
theorem mcK_all_7 : (List.zipWith mcK mcT_7 mcP_7).all id = true := by decide +kernel
theorem mcK_len_7 : mcT_7.length = mcP_7.length := by decide +kernel
def mcP_8 : List (Nat × Nat × Nat × Nat) := [(1679, 1680, 1681, 106), (1038, 1039, 0, 95), (1700, 1701, 1702, 106), (1046, 1047, 0, 95), (1704, 1705, 1706, 106), (1054, 1055, 0, 95), (1716, 1717, 1718, 106), (1136, 1137, 0, 95), (1765, 1766, 1767, 106), (1144, 1145, 0, 95), (1769, 1770, 1771, 106), (1152, 1153, 0, 95), (1773, 1774, 1775, 106), (1176, 1177, 0, 95), (1777, 1778, 1779, 106), (1187, 1188, 0, 95), (1781, 1782, 1783, 106), (1203, 1204, 0, 95), (1793, 1794, 1795, 106), (1215, 1216, 0, 95), (1797, 1798, 1799, 106), (1228, 1229, 0, 95), (1805, 1806, 1807, 106), (1241, 1242, 0, 95), (1813, 1814, 1815, 106), (1264, 1265, 0, 95), (1821, 1822, 1823, 106), (1299, 1300, 0, 95), (1842, 1843, 1844, 106), (1322, 1323, 0, 95), (1846, 1847, 1848, 106), (444, 445, 446, 96), (1858, 1859, 1860, 106), (467, 468, 469, 96), (1862, 1863, 1864, 106), (507, 508, 509, 96), (1870, 1871, 1872, 106), (1333, 1334, 0, 95), (1874, 1875, 1876, 106), (520, 521, 522, 96)]
set_option maxRecDepth 100000 in
theorem mcK_all_8 : (List.zipWith mcK mcT_8 mcP_8).all id = true := by decide +kernel
theorem mcK_len_8 : mcT_8.length = mcP_8.length := by decide +kernel
def mcP_9 : List (Nat × Nat × Nat × Nat) := [(1453, 1454, 1455, 106), (554, 555, 556, 96), (1445, 1446, 1447, 106), (559, 560, 561, 96), (1449, 1450, 1451, 106), (567, 568, 569, 96), (1878, 1879, 1880, 106)]
set_option maxRecDepth 100000 in
theorem mcK_all_9 : (List.zipWith mcK mcT_9 mcP_9).all id = true := by decide +kernel
theorem mcK_len_9 : mcT_9.length = mcP_9.length := by decide +kernel
def mlP : List Nat := [0, 0, 0, 0, 0, 0, 0, 0, 0, 0, 0, 0, 0, 0, 0, 0, 0, 0, 0, 0, 0, 0, 497, 0, 0, 0, 0, 0, 0, 0, 0, 0, 0, 0, 0, 0, 0, 0, 0, 0, 0, 0, 0, 0, 0, 0, 0, 0, 0, 0, 0, 0, 0, 0, 0, 0, 0, 0, 0, 0, 0, 0, 0, 0, 0, 0, 0, 0, 0, 0, 0, 0, 0, 0, 0, 0, 1829, 504, 505, 506]
def mstrs : List (String × Nat × String) := [("BarrelNight$Town", 87, "yard"), ("BarrelNight$Yards", 48, "yard"), ("BarrelNight$Yards", 58, "wall"), ("BarrelNight$Yards", 59, "door"), ("BarrelNight$Yards", 60, "thatch"), ("BarrelNight$Town", 96, "lane"), ("BarrelNight$Lanes", 36, "lane"), ("BarrelNight$Town", 104, "barrel"), ("BarrelNight$Barrels", 45, "barrel"), ("BarrelNight$Barrels", 51, "at"), ("BarrelNight$Barrels", 57, "pace"), ("BarrelNight$Barrels", 58, "tar"), ("BarrelNight$Barrels", 59, "weight"), ("BarrelNight$Barrels", 60, "way"), ("BarrelNight$Town", 109, "bearer"), ("BarrelNight$Bearers", 33, "bearer"), ("BarrelNight$Town", 112, "wind"), ("BarrelNight$Town", 120, "push"), ("BarrelNight$Town", 121, "shut"), ("BarrelNight$Town", 128, "open"), ("BarrelNight", 377, "the text is wrong"), ("BarrelNight", 87, "there are 10 texts"), ("BarrelNight$Law", 40, "back"), ("BarrelNight$Law", 50, "if"), ("BarrelNight$Law", 74, "not"), ("BarrelNight$Law", 89, "thatch"), ("BarrelNight$Law", 91, "at"), ("BarrelNight$Law", 106, "people"), ("BarrelNight$Law", 108, "holds"), ("BarrelNight$Law", 110, "inside"), ("BarrelNight$Law", 112, "yard"), ("BarrelNight$Law", 114, "weight"), ("BarrelNight$Law", 116, "wind"), ("BarrelNight$Law", 118, "second"), ("BarrelNight$Law", 72, "and"), ("BarrelNight$Law", 67, "or"), ("BarrelNight", 347, "there is no such yard"), ("BarrelNight", 160, "a yard has no such thing"), ("BarrelNight", 379, "there is no such lane"), ("BarrelNight", 174, "a lane has no such thing"), ("BarrelNight", 381, "there is no such barrel"), ("BarrelNight", 208, "a barrel has no such thing"), ("BarrelNight", 224, "there is no such bearer"), ("BarrelNight", 383, "the number is out of its bounds"), ("BarrelNight", 257, "its start is not above the second"), ("BarrelNight", 287, "both are one barrel"), ("BarrelNight", 298, "there is no such place in the row"), ("BarrelNight", 333, "the last camera is not told whole"), ("BarrelNight", 349, "a yard is told twice"), ("BarrelNight", 351, "more are told than the yard holds"), ("BarrelNightModel", 171, "yard"), ("BarrelNightModel", 118, "wall"), ("BarrelNightModel", 124, "door"), ("BarrelNightModel", 130, "thatch"), ("BarrelNightModel", 177, "lane"), ("BarrelNightModel", 182, "barrel"), ("BarrelNightModel", 156, "at"), ("BarrelNightModel", 158, "pace"), ("BarrelNightModel", 160, "tar"), ("BarrelNightModel", 162, "weight"), ("BarrelNightModel", 144, "way"), ("BarrelNightModel", 187, "bearer"), ("BarrelNightModel", 192, "wind"), ("BarrelNightModel", 194, "push"), ("BarrelNightModel", 196, "open"), ("BarrelNightModel", 198, "shut"), ("BarrelNightModel", 242, "back"), ("BarrelNightModel", 244, "if"), ("BarrelNightModel", 227, "not"), ("BarrelNightModel", 207, "people"), ("BarrelNightModel", 209, "holds"), ("BarrelNightModel", 211, "inside"), ("BarrelNightModel", 213, "second"), ("BarrelNightModel", 235, "and"), ("BarrelNightModel", 240, "or")]
def mlK (r : Nat × Nat × Nat × Nat) (p : Nat) : Bool := match r.2.2.1 with
  | 0 => match mstrs[r.2.2.2]? with
    | some t => t.1 == mcn r.1 && t.2.1 == r.2.1
    | none => false
  | _ => mhas p (.constant (mcn r.1) r.2.1 (Int32.ofNat r.2.2.2))
set_option maxRecDepth 100000 in
theorem mlK_all : (List.zipWith mlK mlT mlP).all id = true := by decide +kernel
theorem mlK_len : mlT.length = mlP.length := by decide +kernel
def mnP : List (Nat × Nat × Nat) := [(343, 161, 98), (166, 167, 99), (212, 213, 100), (237, 238, 101), (275, 276, 102), (132, 133, 97), (160, 161, 98), (337, 338, 103), (357, 358, 104), (367, 368, 105), (863, 864, 118), (124, 125, 96), (1365, 1366, 106)]
def mty (ci : Nat) : Nat → FieldType := match ci with
  | 0 => tyX0
  | 1 => tyX1
  | 2 => tyX2
  | 3 => tyX3
  | 4 => tyX4
  | 5 => tyX5
  | 6 => tyX7
  | 7 => tyX8
  | 8 => tyX9
  | 9 => tyX10
  | 10 => tyX11
  | 11 => tyX12
  | _ => fun _ => .int
def mnK (r : Nat × Nat × Nat) (p : Nat × Nat × Nat) : Bool := match vwCl[r.2.2]? with
  | some (C, T, N) => mhas p.1 (.classLink (mcn r.1) r.2.1 C) && (mhas p.2.1 (.instantiable C N) && (mhas p.2.2 (.initialized C) && (decide ((mdef r.2.2).length = N) && (decide (r.2.2 < 12)))))
  | none => false
set_option maxRecDepth 100000 in
theorem mnK_all : (List.zipWith mnK mnT mnP).all id = true := by decide +kernel
theorem mnK_len : mnT.length = mnP.length := by decide +kernel
/-- fields of a new object of class ci -/
theorem mdef_ok : ∀ ci, ci < 12 → ∀ r, vwCl[ci]? = some r → ∀ j, j < r.2.2 → defaultValue (mty ci j) = vp_V (mdef ci) j := by
  intro ci hci r hr j hj
  have h : ((List.range 12).all (fun ci => match vwCl[ci]? with | some r => (List.range r.2.2).all (fun j => decide (defaultValue (mty ci j) = vp_V (mdef ci) j)) | none => true)) = true := by decide +kernel
  have h1 := List.all_eq_true.mp h ci (List.mem_range.mpr hci)
  rw [hr] at h1
  exact decide_eq_true_eq.mp (List.all_eq_true.mp h1 j (List.mem_range.mpr hj))
theorem mty_ok : ∀ ci, ci < 12 → ∀ r, vwCl[ci]? = some r → ∀ j, j < r.2.2 → parseFieldDescriptor (r.2.1 j).2.2.1 = some (mty ci j) := by
  intro ci hci r hr j hj
  have h : ((List.range 12).all (fun ci => match vwCl[ci]? with | some r => (List.range r.2.2).all (fun j => decide (parseFieldDescriptor (r.2.1 j).2.2.1 = some (mty ci j))) | none => true)) = true := by decide +kernel
  have h1 := List.all_eq_true.mp h ci (List.mem_range.mpr hci)
  rw [hr] at h1
  exact decide_eq_true_eq.mp (List.all_eq_true.mp h1 j (List.mem_range.mpr hj))
theorem mnm_ok : ∀ ci, ci < 12 → ∀ r, vwCl[ci]? = some r → ∀ a, a < r.2.2 → ∀ b, b < r.2.2 → a ≠ b → (r.2.1 a).2.1 ≠ (r.2.1 b).2.1 := by
  intro ci hci r hr a ha b hb
  have h : ((List.range 12).all (fun ci => match vwCl[ci]? with | some r => (List.range r.2.2).all (fun a => (List.range r.2.2).all (fun b => decide (a ≠ b → (r.2.1 a).2.1 ≠ (r.2.1 b).2.1))) | none => true)) = true := by decide +kernel
  have h1 := List.all_eq_true.mp h ci (List.mem_range.mpr hci)
  rw [hr] at h1
  exact decide_eq_true_eq.mp (List.all_eq_true.mp (List.all_eq_true.mp h1 a (List.mem_range.mpr ha)) b (List.mem_range.mpr hb))
def muP : List (List Nat) := [[260, 262, 264, 266, 268, 270, 272], [289, 291, 293], [228, 230, 232, 234], [873, 875, 877], [350, 352, 354], [380, 382, 384, 386, 388, 390], [146, 148, 150, 152, 154, 156], [364], [318, 320, 322, 324, 326, 328, 330, 332, 334], [195, 197, 199, 201, 203, 205, 207, 209], [403, 405, 407, 409, 411, 413, 415, 417, 419, 421], [1395, 1397, 1399, 1401, 1403, 1405, 1407, 1409, 1411, 1413, 1415, 1417, 1419, 1421, 1423, 1425, 1427, 1429, 1431, 1433, 1435, 1437, 1439, 1441]]
set_option maxRecDepth 100000 in
theorem mu_all : (List.zipWith (fun (q : vw_C) (p : List Nat) => (List.range q.2.2).all (fun k => mhas (p.getD k 99999) (u_lay q.1 q.2.1 k))) vwCl muP).all id = true := by decide +kernel
theorem mu_in {ci : Nat} {r : vw_C} (hr : vwCl[ci]? = some r) : ∀ w ∈ u_ws r.1 r.2.1 r.2.2, w ∈ bW := by
  intro w hw
  obtain ⟨k, hk, rfl⟩ := List.mem_map.mp hw
  have hp : ∃ p, muP[ci]? = some p := by
    have h1 := (List.getElem?_eq_some_iff.mp hr).1
    have h2 : vwCl.length = muP.length := rfl
    exact ⟨_, List.getElem?_eq_getElem (h2 ▸ h1)⟩
  obtain ⟨p, hp⟩ := hp
  have h3 : (List.zipWith (fun (q : vw_C) (p : List Nat) => (List.range q.2.2).all (fun k => mhas (p.getD k 99999) (u_lay q.1 q.2.1 k))) vwCl muP)[ci]? = some ((List.range r.2.2).all (fun k => mhas (p.getD k 99999) (u_lay r.1 r.2.1 k))) := by
    rw [List.getElem?_zipWith, hr, hp]
  have h4 := List.all_eq_true.mp mu_all _ (List.mem_of_getElem? h3)
  exact mhas_in (List.all_eq_true.mp h4 k hk)
/-- a row of a table, and what holds of it -/
theorem zip_at {α β : Type} {f : α → β → Bool} {as : List α} {bs : List β} (h : (List.zipWith f as bs).all id = true) (hl : as.length = bs.length) {a : α} (ha : a ∈ as) : ∃ b, f a b = true := by
  obtain ⟨i, hi⟩ := List.getElem?_of_mem ha
  have h1 := (List.getElem?_eq_some_iff.mp hi).1
  have hb := List.getElem?_eq_getElem (hl ▸ h1 : i < bs.length)
  refine ⟨bs[i]'(hl ▸ h1), ?_⟩
  have h3 : (List.zipWith f as bs)[i]? = some (f a (bs[i]'(hl ▸ h1))) := by rw [List.getElem?_zipWith, hi, hb]
  exact List.all_eq_true.mp h _ (List.mem_of_getElem? h3)
theorem mfK_at {r : Nat × Nat × Nat × Nat × Nat} (h : r ∈ mfT) : ∃ p : Nat, mfK r p = true := by
  simp only [mfT, List.mem_append] at h
  rcases h with h | h | h
  · exact zip_at mfK_all_0 mfK_len_0 h
  · exact zip_at mfK_all_1 mfK_len_1 h
  · exact zip_at mfK_all_2 mfK_len_2 h
theorem mmK_at {r : MethodName × ByteArray × Nat × Option FieldType × Nat} (h : r ∈ mT) : ∃ p : Nat, mmK r p = true := by
  simp only [mT, List.mem_append] at h
  rcases h with h | h | h | h | h | h | h
  · exact zip_at mmK_all_0 mmK_len_0 h
  · exact zip_at mmK_all_1 mmK_len_1 h
  · exact zip_at mmK_all_2 mmK_len_2 h
  · exact zip_at mmK_all_3 mmK_len_3 h
  · exact zip_at mmK_all_4 mmK_len_4 h
  · exact zip_at mmK_all_5 mmK_len_5 h
  · exact zip_at mmK_all_6 mmK_len_6 h
theorem mcK_at {r : Nat × Nat × Nat × Nat × Nat} (h : r ∈ mcT) : ∃ p : Nat × Nat × Nat × Nat, mcK r p = true := by
  simp only [mcT, List.mem_append] at h
  rcases h with h | h | h | h | h | h | h | h | h | h
  · exact zip_at mcK_all_0 mcK_len_0 h
  · exact zip_at mcK_all_1 mcK_len_1 h
  · exact zip_at mcK_all_2 mcK_len_2 h
  · exact zip_at mcK_all_3 mcK_len_3 h
  · exact zip_at mcK_all_4 mcK_len_4 h
  · exact zip_at mcK_all_5 mcK_len_5 h
  · exact zip_at mcK_all_6 mcK_len_6 h
  · exact zip_at mcK_all_7 mcK_len_7 h
  · exact zip_at mcK_all_8 mcK_len_8 h
  · exact zip_at mcK_all_9 mcK_len_9 h
