/-! WHAT THE TABLES SAY OF THE MACHINE'S TABLES: words by their places -/
def bW : List Cond := lw_tbl.filter goodWord
theorem bW_in {w : Cond} (h : w ∈ bW) : w ∈ lw_tbl := (List.mem_filter.mp h).1
theorem bW_gd {w : Cond} (h : w ∈ bW) : goodWord w = true := (List.mem_filter.mp h).2
theorem bW_good : GoodIn lw_tbl bW := fun w h => ⟨bW_in h, good_of_word (bW_gd h)⟩
theorem bW_self : GoodIn bW bW := fun w h => ⟨h, good_of_word (bW_gd h)⟩
def mhas (p : Nat) (w : Cond) : Bool := decide (lw_tbl[p]? = some w) && goodWord w
theorem mhas_in {p : Nat} {w : Cond} (h : mhas p w = true) : w ∈ bW := by
  simp only [mhas, Bool.and_eq_true, decide_eq_true_eq] at h
  exact List.mem_filter.mpr ⟨List.mem_of_getElem? h.1, h.2⟩
/-- the classes' names -/
def mcn (oc : Nat) : String := [RX0, RX1, RX2, RX3, RX4, RX5, RX6, RX7, RX8, RX9, RX10, RX11, RX12, RL, RJ6].getD oc ""
def mtyk : FieldType → Nat
  | .int => 0
  | .boolean => 1
  | .object _ => 2
  | .array _ => 2
  | _ => 9
def mfK (r : Nat × Nat × Nat × Nat × Nat) (p : Nat) : Bool := match vwCl[r.2.2.1]? with
  | some (_, T, N) => decide (r.2.2.2.1 < N) && (mhas p (.fieldLink (mcn r.1) r.2.1 (T r.2.2.2.1).1 (T r.2.2.2.1).2.1 (T r.2.2.2.1).2.2.1) && (((T r.2.2.2.1).2.2.2 == decide (4 ≤ r.2.2.2.2)) && (((parseFieldDescriptor (T r.2.2.2.1).2.2.1).map mtyk == some (r.2.2.2.2 % 4)))))
  | none => false

def mfP_0 : List (Nat) := [245, 247, 249, 251, 255, 257, 241, 282, 284, 279, 220, 223, 216, 219, 870, 869, 867, 296, 175, 301, 310, 183, 179, 190, 253, 313, 347, 344, 346, 375, 376, 377, 280, 373, 374, 371, 285, 138, 140, 136, 141, 143, 142, 361, 242, 294, 297, 299, 302, 314]
set_option maxRecDepth 100000 in
theorem mfK_all_0 : (List.zipWith mfK mfT_0 mfP_0).all id = true := by decide +kernel
theorem mfK_len_0 : mfT_0.length = mfP_0.length := by decide +kernel
def mfP_1 : List (Nat) := [304, 306, 308, 311, 171, 217, 243, 182, 222, 225, 254, 176, 177, 180, 184, 186, 188, 191, 170, 173, 391, 392, 393, 394, 395, 396, 397, 398, 400, 137, 307, 305, 868, 295, 178, 181, 185, 187, 189, 174, 192, 300, 309, 298, 221, 224, 246, 248, 250, 252]
set_option maxRecDepth 100000 in
theorem mfK_all_1 : (List.zipWith mfK mfT_1 mfP_1).all id = true := by decide +kernel
theorem mfK_len_1 : mfT_1.length = mfP_1.length := by decide +kernel
def mfP_2 : List (Nat) := [256, 312, 303, 281, 286, 283, 172, 372, 399, 218, 244, 315, 345, 139, 1361, 1362, 1363, 1364, 1365, 1366, 1369, 1375, 1376, 1378, 1379, 1380, 1381, 1382, 1383, 1384, 1367, 1368, 1370, 1371, 1372, 1373, 1377, 1374]
set_option maxRecDepth 100000 in
theorem mfK_all_2 : (List.zipWith mfK mfT_2 mfP_2).all id = true := by decide +kernel
theorem mfK_len_2 : mfT_2.length = mfP_2.length := by decide +kernel
set_option maxRecDepth 100000 in
theorem mcw_0 : (mT_0).map (fun m => Cond.code m.1 m.2.1 m.2.2.1 m.2.2.2.1) = [239, 545, 712, 725, 480, 584, 580, 1077, 1191, 576, 1322, 966, 970, 1092, 476, 1018, 1025, 1229, 277, 550, 739, 1274, 1269, 1303, 1299, 1309, 214, 540, 698, 461, 707, 734, 457, 512, 453, 485, 491, 865, 907, 881].filterMap (fun i => lw_tbl[i]?) := rfl
set_option maxRecDepth 100000 in
theorem mcw_1 : (mT_1).map (fun m => Cond.code m.1 m.2.1 m.2.2.1 m.2.2.2.1) = [1103, 891, 895, 899, 1103, 919, 922, 1097, 1103, 1100, 339, 564, 1058, 525, 369, 1265, 1278, 1284, 1288, 464, 488, 494, 498, 134, 429, 433, 1334, 1338, 601, 763, 605, 670, 729, 759, 614, 755, 679, 912, 675, 685].filterMap (fun i => lw_tbl[i]?) := rfl
set_option maxRecDepth 100000 in
theorem mcw_2 : (mT_2).map (fun m => Cond.code m.1 m.2.1 m.2.2.1 m.2.2.2.1) = [689, 359, 1241, 1244, 1249, 1252, 162, 529, 597, 609, 1065, 1203, 1187, 1069, 1073, 1088, 1125, 472, 168, 533, 666, 449, 572, 1349, 517, 1176, 1081, 1110, 1120, 1115, 126, 425, 437, 593, 860, 441, 942, 994, 1008, 1034].filterMap (fun i => lw_tbl[i]?) := rfl
set_option maxRecDepth 100000 in
theorem mcw_3 : (mT_3).map (fun m => Cond.code m.1 m.2.1 m.2.2.1 m.2.2.2.1) = [1042, 1050, 1132, 1140, 1149, 1172, 1183, 1199, 1211, 1216, 1224, 1237, 1260, 1295, 1318, 445, 468, 508, 1329, 1343, 521, 555, 560, 568, 767, 946, 998, 1012, 1053, 1354, 1629, 1644, 1794, 1359, 1438, 1442, 1713, 1446, 1505, 1533].filterMap (fun i => lw_tbl[i]?) := rfl
set_option maxRecDepth 100000 in
theorem mcw_4 : (mT_4).map (fun m => Cond.code m.1 m.2.1 m.2.2.1 m.2.2.2.1) = [1546, 1580, 1648, 1519, 1567, 1559, 1571, 1705, 1701, 1641, 1676, 1450, 1454, 1478, 1474, 1486, 1495, 1524, 1606, 1509, 1514, 1458, 1470, 1537, 1501, 1529, 1563, 1554, 1542, 1576, 1490, 1611, 1619, 1615, 1602, 1598, 1594, 1588, 1482, 1466].filterMap (fun i => lw_tbl[i]?) := rfl
set_option maxRecDepth 100000 in
theorem mcw_5 : (mT_5).map (fun m => Cond.code m.1 m.2.1 m.2.2.1 m.2.2.2.1) = [1462, 1633, 1660, 1684, 1680, 1656, 1652, 1741, 1737, 1733, 1746, 1750, 1725, 1729, 1754, 1721, 1717, 1664, 1637, 1668, 1688, 1672, 1693, 1697, 1709, 1758, 1762, 1766, 1770, 1778, 1782, 1774, 1786, 1790, 1802, 1798, 1810, 1806, 1823, 1831].filterMap (fun i => lw_tbl[i]?) := rfl
set_option maxRecDepth 100000 in
theorem mcw_6 : (mT_6.take 14).map (fun m => Cond.code m.1 m.2.1 m.2.2.1 m.2.2.2.1) = [1827, 1818, 1814, 1835, 1843, 1847, 1839, 1851, 1859, 1855, 1863, 1867, 1871, 501].filterMap (fun i => lw_tbl[i]?) := rfl
theorem mcw_at {m : MethodName × ByteArray × Nat × Option FieldType × Nat} {ms : List (MethodName × ByteArray × Nat × Option FieldType × Nat)} {ps : List Nat} (e : ms.map (fun m => Cond.code m.1 m.2.1 m.2.2.1 m.2.2.2.1) = ps.filterMap (fun i => lw_tbl[i]?)) (h : m ∈ ms) : Cond.code m.1 m.2.1 m.2.2.1 m.2.2.2.1 ∈ bW := by
  have h1 : Cond.code m.1 m.2.1 m.2.2.1 m.2.2.2.1 ∈ ms.map (fun m => Cond.code m.1 m.2.1 m.2.2.1 m.2.2.2.1) := List.mem_map.mpr ⟨m, h, rfl⟩
  rw [e] at h1
  obtain ⟨i, -, hi⟩ := List.mem_filterMap.mp h1
  exact List.mem_filter.mpr ⟨List.mem_of_getElem? hi, rfl⟩
def mmK (m : MethodName × ByteArray × Nat × Option FieldType × Nat) (p : Nat) : Bool := mhas p (.initialized m.1.cls) && (decide (m.2.2.1 ≤ 21) && (plainName m.1.cls && (decide (m.1.cls ≠ "java/lang/invoke/MethodHandle") && (decide (m.1.cls ≠ "java/lang/invoke/VarHandle") && (m.1.cls == mcn m.2.2.2.2)))))
def mmP_0 : List (Nat) := [99, 99, 99, 99, 99, 99, 99, 99, 99, 99, 99, 99, 99, 99, 99, 99, 99, 99, 100, 100, 100, 100, 100, 100, 100, 100, 98, 98, 98, 98, 98, 98, 98, 98, 98, 98, 98, 116, 116, 116]
set_option maxRecDepth 100000 in
theorem mmK_all_0 : (List.zipWith mmK mT_0 mmP_0).all id = true := by decide +kernel
theorem mmK_len_0 : mT_0.length = mmP_0.length := by decide +kernel
def mmP_1 : List (Nat) := [116, 116, 116, 116, 116, 116, 116, 116, 116, 116, 101, 101, 101, 101, 103, 103, 103, 103, 103, 110, 110, 110, 110, 95, 95, 95, 95, 95, 95, 95, 95, 95, 95, 95, 95, 95, 95, 95, 95, 95]
set_option maxRecDepth 100000 in
theorem mmK_all_1 : (List.zipWith mmK mT_1 mmP_1).all id = true := by decide +kernel
theorem mmK_len_1 : mT_1.length = mmP_1.length := by decide +kernel
def mmP_2 : List (Nat) := [95, 102, 102, 102, 102, 102, 96, 96, 96, 96, 96, 96, 96, 96, 96, 96, 96, 96, 97, 97, 97, 97, 97, 97, 97, 97, 97, 97, 97, 97, 94, 94, 94, 94, 94, 94, 94, 94, 94, 94]
set_option maxRecDepth 100000 in
theorem mmK_all_2 : (List.zipWith mmK mT_2 mmP_2).all id = true := by decide +kernel
theorem mmK_len_2 : mT_2.length = mmP_2.length := by decide +kernel
def mmP_3 : List (Nat) := [94, 94, 94, 94, 94, 94, 94, 94, 94, 94, 94, 94, 94, 94, 94, 94, 94, 94, 94, 94, 94, 94, 94, 94, 94, 94, 94, 94, 94, 104, 104, 104, 104, 104, 104, 104, 104, 104, 104, 104]
set_option maxRecDepth 100000 in
theorem mmK_all_3 : (List.zipWith mmK mT_3 mmP_3).all id = true := by decide +kernel
theorem mmK_len_3 : mT_3.length = mmP_3.length := by decide +kernel
def mmP_4 : List (Nat) := [104, 104, 104, 104, 104, 104, 104, 104, 104, 104, 104, 104, 104, 104, 104, 104, 104, 104, 104, 104, 104, 104, 104, 104, 104, 104, 104, 104, 104, 104, 104, 104, 104, 104, 104, 104, 104, 104, 104, 104]
set_option maxRecDepth 100000 in
theorem mmK_all_4 : (List.zipWith mmK mT_4 mmP_4).all id = true := by decide +kernel
theorem mmK_len_4 : mT_4.length = mmP_4.length := by decide +kernel
def mmP_5 : List (Nat) := [104, 104, 104, 104, 104, 104, 104, 104, 104, 104, 104, 104, 104, 104, 104, 104, 104, 104, 104, 104, 104, 104, 104, 104, 104, 104, 104, 104, 104, 104, 104, 104, 104, 104, 104, 104, 104, 104, 104, 104]
set_option maxRecDepth 100000 in
theorem mmK_all_5 : (List.zipWith mmK mT_5 mmP_5).all id = true := by decide +kernel
theorem mmK_len_5 : mT_5.length = mmP_5.length := by decide +kernel
def mmP_6 : List (Nat) := [104, 104, 104, 104, 104, 104, 104, 104, 104, 104, 104, 104, 104, 121, 93, 93, 93, 93, 93, 93, 93, 93, 93, 93, 93, 93, 93, 93, 93, 93, 93, 93, 93, 93, 93, 93]
set_option maxRecDepth 100000 in
theorem mmK_all_6 : (List.zipWith mmK mT_6 mmP_6).all id = true := by decide +kernel
theorem mmK_len_6 : mT_6.length = mmP_6.length := by decide +kernel
def mwH : List (List (Nat × Nat × Nat × Nat)) := [[(0, 8, 11, 13), (0, 8, 14, 15)], [(0, 8, 11, 13)], [(0, 10, 13, 24), (0, 10, 17, 26)], [(0, 10, 13, 24), (0, 10, 17, 26)], [(0, 10, 13, 24), (0, 10, 17, 26)], [(0, 10, 13, 24)], [(0, 10, 13, 24)], [(0, 9, 12, 13)], [(0, 17, 20, 24)], [(0, 10, 13, 24), (0, 10, 17, 13)], [(0, 10, 13, 24), (0, 10, 17, 13), (0, 10, 21, 55)], [(0, 10, 13, 24), (0, 10, 17, 13)], [(0, 9, 12, 13)], [(0, 9, 12, 24)], [(0, 9, 12, 13)], [(0, 10, 13, 24), (0, 10, 17, 13)], [(0, 10, 13, 24), (0, 10, 17, 13)], [(0, 10, 13, 24), (0, 10, 17, 13)], [(0, 10, 13, 24), (0, 10, 17, 13)], [(0, 10, 13, 24)], [(0, 9, 12, 13)]]
def mwM : List ((MethodName × ByteArray × Nat × Option FieldType × Nat) × List (Nat × Nat × Nat × Nat)) := ((mT.drop 254).take 21).zip mwH
set_option maxRecDepth 100000 in
theorem mww_0 : mwM.map (fun q => Cond.codeWith q.1.1 q.1.2.1 q.1.2.2.1 q.1.2.2.2.1 q.2) = [587, 856, 936, 990, 1004, 1030, 1038, 1046, 1128, 1136, 1144, 1168, 1179, 1195, 1207, 1220, 1233, 1256, 1291, 1314, 1325].filterMap (fun i => lw_tbl[i]?) := rfl
def mNs : List (String × Nat × MethodName × String) := [("BarrelNight", 9, ({ cls := "BarrelNight$Tape", name := "<init>", desc := "()V" } : Jvm.MethodName), "BarrelNight"), ("BarrelNight", 18, ({ cls := "BarrelNight$Town", name := "<init>", desc := "()V" } : Jvm.MethodName), "BarrelNight"), ("BarrelNight$Town", 11, ({ cls := "BarrelNight$Yards", name := "<init>", desc := "()V" } : Jvm.MethodName), "BarrelNight"), ("BarrelNight$Town", 20, ({ cls := "BarrelNight$Lanes", name := "<init>", desc := "()V" } : Jvm.MethodName), "BarrelNight"), ("BarrelNight$Town", 27, ({ cls := "BarrelNight$Barrels", name := "<init>", desc := "()V" } : Jvm.MethodName), "BarrelNight"), ("BarrelNight$Town", 34, ({ cls := "BarrelNight$Bearers", name := "<init>", desc := "()V" } : Jvm.MethodName), "BarrelNight"), ("BarrelNight$Memory", 15, ({ cls := "BarrelNight$Town", name := "<init>", desc := "()V" } : Jvm.MethodName), "BarrelNight"), ("BarrelNight", 38, ({ cls := "BarrelNight$Timetable", name := "<init>", desc := "()V" } : Jvm.MethodName), "BarrelNight"), ("BarrelNight", 45, ({ cls := "BarrelNight$Relay", name := "<init>", desc := "()V" } : Jvm.MethodName), "BarrelNight")]
def mnm (y : Nat) : MethodName := match mT[y]? with | some m => m.1 | none => ⟨"", "", ""⟩
def mnp (x : MethodName) : Option Nat := (parseMethodDescriptor x.desc).map (fun d => d.parameters.length)
def mcK (r : Nat × Nat × Nat × Nat × Nat) (p : Nat × Nat × Nat × Nat) : Bool := match r.2.2.1 with
  | 0 => mhas p.1 (.methodLink (mcn r.1) r.2.1 (mnm r.2.2.2.1)) && (mhas p.2.1 (.instanceMethod (mnm r.2.2.2.1)) && (mhas p.2.2.1 (.selects (mnm r.2.2.2.1).cls (mnm r.2.2.2.1) (mnm r.2.2.2.1)) && (mhas p.2.2.2 (.initialized (mnm r.2.2.2.1).cls) && (decide (mnp (mnm r.2.2.2.1) = some (r.2.2.2.2 - 1)) && (decide (0 < r.2.2.2.2) && (decide (r.2.2.2.1 < 254) && ((vwCl[mci.getD (mown r.2.2.2.1) 99]?).map (fun q => q.1) == some (mnm r.2.2.2.1).cls)))))))
  | 1 => mhas p.1 (.methodLink (mcn r.1) r.2.1 (mnm r.2.2.2.1)) && (mhas p.2.1 (.instanceMethod (mnm r.2.2.2.1)) && (mhas p.2.2.2 (.initialized (mnm r.2.2.2.1).cls) && (decide (mnp (mnm r.2.2.2.1) = some (r.2.2.2.2 - 1)) && (decide (0 < r.2.2.2.2) && (decide (r.2.2.2.1 < 254) && (((mnm r.2.2.2.1).name == "<init>") && (mret r.2.2.2.1 == none)))))))
  | 2 => mhas p.1 (.methodLink (mcn r.1) r.2.1 (mnm r.2.2.2.1)) && (mhas p.2.1 (.static (mnm r.2.2.2.1)) && (mhas p.2.2.2 (.initialized (mnm r.2.2.2.1).cls) && (decide (mnp (mnm r.2.2.2.1) = some r.2.2.2.2) && decide (r.2.2.2.1 < 275))))
  | 3 => mhas p.2.1 (.instanceMethod (mnm r.2.2.2.1)) && (mhas p.2.2.2 (.initialized (mnm r.2.2.2.1).cls) && (decide (mnp (mnm r.2.2.2.1) = some (r.2.2.2.2 - 1)) && (decide (0 < r.2.2.2.2) && (decide (r.2.2.2.1 < 254) && (((mnm r.2.2.2.1).name == "<init>") && ((mret r.2.2.2.1 == none) && decide ((mcn r.1, r.2.1, mnm r.2.2.2.1, "BarrelNight") ∈ mNs)))))))
  | 10 => mhas p.1 (.methodLink (mcn r.1) r.2.1 Lib.objectInit) && (mhas p.2.1 (.instanceMethod Lib.objectInit) && mhas p.2.2.1 (.code Lib.objectInit ⟨#[0xb1]⟩ 1 none))
  | 11 => mhas p.1 (.methodLink (mcn r.1) r.2.1 Lib.Math.min.name) && (mhas p.2.1 (.static Lib.Math.min.name) && (mhas p.2.2.1 (.code Lib.Math.min.name Lib.Math.min.code 2 (some .int)) && mhas p.2.2.2 (.initialized "java/lang/Math")))
  | 12 => mhas p.1 (.methodLink (mcn r.1) r.2.1 Lib.Math.max.name) && (mhas p.2.1 (.static Lib.Math.max.name) && (mhas p.2.2.1 (.code Lib.Math.max.name Lib.Math.max.code 2 (some .int)) && mhas p.2.2.2 (.initialized "java/lang/Math")))
  | 13 => mhas p.1 (.methodLink (mcn r.1) r.2.1 arraycopyName) && (mhas p.2.1 (.native arraycopyName) && (mhas p.2.2.1 (.static arraycopyName) && mhas p.2.2.2 (.initialized "java/lang/System")))
  | 14 => mhas p.1 (.methodLink (mcn r.1) r.2.1 yJ0_length_8abf5) && (mhas p.2.1 (.instanceMethod yJ0_length_8abf5) && (mhas p.2.2.1 (.selects "java/lang/String" yJ0_length_8abf5 yJ0_length_8abf5) && mhas p.2.2.2 (.initialized "java/lang/String")))
  | 15 => mhas p.1 (.methodLink (mcn r.1) r.2.1 yJ0_charAt_5068e) && (mhas p.2.1 (.instanceMethod yJ0_charAt_5068e) && (mhas p.2.2.1 (.selects "java/lang/String" yJ0_charAt_5068e yJ0_charAt_5068e) && mhas p.2.2.2 (.initialized "java/lang/String")))
  | _ => false

def mcP_0 : List (Nat × Nat × Nat × Nat) := [(240, 128, 129, 0), (546, 536, 535, 105), (713, 668, 669, 95), (715, 673, 674, 95), (717, 683, 684, 95), (722, 724, 2, 99), (726, 727, 728, 95), (477, 478, 479, 99), (730, 687, 688, 95), (731, 732, 733, 98), (581, 583, 0, 99), (1019, 1020, 1021, 119), (577, 578, 579, 99), (967, 969, 11, 99), (1093, 463, 0, 110), (1026, 1016, 1017, 99), (1230, 1060, 1061, 119), (278, 128, 129, 0), (551, 536, 535, 105), (740, 668, 669, 95), (742, 673, 674, 95), (743, 683, 684, 95), (1304, 1272, 1273, 100), (1300, 1302, 22, 100), (1305, 463, 0, 110), (1306, 500, 0, 121), (1307, 1308, 0, 100), (1311, 1267, 1268, 100), (1310, 497, 0, 110), (215, 128, 129, 0), (541, 536, 535, 105), (699, 668, 669, 95), (701, 673, 674, 95), (702, 683, 684, 95), (703, 687, 688, 95), (704, 705, 706, 98), (462, 463, 0, 110), (458, 459, 460, 98), (454, 455, 456, 98), (486, 487, 0, 110)]
set_option maxRecDepth 100000 in
theorem mcK_all_0 : (List.zipWith mcK mcT_0 mcP_0).all id = true := by decide +kernel
theorem mcK_len_0 : mcT_0.length = mcP_0.length := by decide +kernel
def mcP_1 : List (Nat × Nat × Nat × Nat) := [(489, 490, 0, 98), (492, 493, 0, 110), (866, 128, 129, 0), (882, 599, 600, 95), (884, 673, 674, 95), (885, 683, 684, 95), (887, 677, 678, 95), (888, 890, 5, 116), (904, 906, 8, 116), (908, 753, 754, 95), (933, 761, 762, 95), (892, 894, 6, 116), (896, 898, 7, 116), (901, 612, 613, 95), (902, 757, 758, 95), (903, 668, 669, 95), (909, 910, 911, 95), (916, 918, 9, 116), (920, 921, 0, 116), (930, 603, 604, 95), (1098, 1099, 0, 116), (1101, 1102, 0, 116), (1104, 463, 0, 110), (1105, 578, 579, 99), (340, 128, 129, 0), (0, 161, 0, 96), (526, 527, 528, 96), (1059, 1060, 1061, 119), (370, 128, 129, 0), (1266, 1267, 1268, 100), (1270, 497, 0, 110), (1271, 1272, 1273, 100), (1275, 1277, 20, 103), (1280, 500, 0, 121), (1279, 463, 0, 110), (1285, 1287, 21, 103), (496, 497, 0, 110), (499, 500, 0, 121), (135, 128, 129, 0), (1339, 1332, 1333, 95)]
set_option maxRecDepth 100000 in
theorem mcK_all_1 : (List.zipWith mcK mcT_1 mcP_1).all id = true := by decide +kernel
theorem mcK_len_1 : mcT_1.length = mcP_1.length := by decide +kernel
def mcP_2 : List (Nat × Nat × Nat × Nat) := [(602, 603, 604, 95), (681, 668, 669, 95), (615, 616, 617, 106), (625, 626, 627, 106), (756, 757, 758, 95), (680, 612, 613, 95), (913, 753, 754, 95), (676, 677, 678, 95), (686, 687, 688, 95), (360, 128, 129, 0), (1242, 1243, 0, 102), (1246, 1248, 19, 102), (1250, 1251, 0, 102), (1245, 1227, 1228, 99), (1253, 497, 0, 110), (163, 128, 129, 0), (0, 167, 0, 97), (0, 213, 0, 98), (0, 238, 0, 99), (0, 276, 0, 100), (530, 531, 532, 97), (537, 538, 539, 98), (542, 543, 544, 99), (547, 548, 549, 100), (598, 599, 600, 95), (606, 608, 1, 96), (752, 753, 754, 95), (760, 761, 762, 95), (611, 612, 613, 95), (663, 664, 665, 97), (695, 696, 697, 98), (709, 710, 711, 99), (736, 737, 738, 100), (745, 677, 678, 95), (746, 683, 684, 95), (749, 705, 706, 98), (751, 668, 669, 95), (1066, 1068, 14, 96), (1204, 1185, 1186, 96), (1188, 1189, 1190, 99)]
set_option maxRecDepth 100000 in
theorem mcK_all_2 : (List.zipWith mcK mcT_2 mcP_2).all id = true := by decide +kernel
theorem mcK_len_2 : mcT_2.length = mcP_2.length := by decide +kernel
def mcP_3 : List (Nat × Nat × Nat × Nat) := [(1106, 1060, 1061, 119), (1192, 1020, 1021, 119), (1070, 1072, 15, 96), (1083, 964, 965, 99), (1084, 463, 0, 110), (1085, 1087, 16, 96), (1117, 1118, 1119, 97), (1121, 459, 460, 98), (1122, 1124, 17, 96), (1074, 1075, 1076, 99), (1078, 1079, 1080, 97), (1089, 1090, 1091, 99), (1094, 1095, 1096, 116), (1107, 1108, 1109, 97), (481, 455, 456, 98), (1112, 1113, 1114, 97), (473, 474, 475, 99), (169, 128, 129, 0), (534, 536, 535, 105), (667, 668, 669, 95), (672, 673, 674, 95), (682, 683, 684, 95), (693, 677, 678, 95), (1350, 463, 0, 110), (1111, 1060, 1061, 119), (1082, 1020, 1021, 119), (1116, 515, 516, 97), (127, 128, 129, 0), (0, 133, 0, 95), (0, 161, 0, 96), (337, 338, 0, 101), (0, 358, 0, 102), (0, 368, 0, 103), (426, 427, 428, 95), (430, 431, 432, 95), (556, 527, 528, 96), (594, 595, 596, 96), (764, 766, 3, 94), (561, 562, 563, 101), (863, 864, 0, 116)]
set_option maxRecDepth 100000 in
theorem mcK_all_3 : (List.zipWith mcK mcT_3 mcP_3).all id = true := by decide +kernel
theorem mcK_len_3 : mcT_3.length = mcP_3.length := by decide +kernel
def mcP_4 : List (Nat × Nat × Nat × Nat) := [(878, 879, 880, 116), (943, 945, 10, 94), (963, 964, 965, 99), (971, 455, 456, 98), (995, 997, 12, 94), (1000, 459, 460, 98), (1009, 1011, 13, 94), (1014, 578, 579, 99), (1015, 1016, 1017, 99), (1022, 1023, 1024, 99), (1035, 478, 479, 99), (1051, 1052, 0, 94), (1055, 1056, 1057, 101), (1062, 1063, 1064, 96), (1133, 705, 706, 98), (514, 515, 516, 97), (1141, 1060, 1061, 119), (1173, 1174, 1175, 97), (1184, 1185, 1186, 96), (1200, 1201, 1202, 96), (1212, 487, 0, 110), (1213, 1215, 18, 94), (1217, 493, 0, 110), (513, 463, 0, 110), (1226, 1227, 1228, 99), (1238, 1239, 1240, 102), (1262, 1263, 1264, 103), (1281, 1282, 1283, 103), (1296, 1297, 1298, 100), (1319, 1320, 1321, 99), (446, 447, 448, 97), (450, 451, 452, 98), (469, 470, 471, 96), (482, 483, 484, 98), (509, 510, 511, 98), (1331, 1332, 1333, 95), (1335, 1336, 1337, 95), (1340, 1342, 23, 94), (1346, 1347, 1348, 97), (522, 523, 524, 101)]
set_option maxRecDepth 100000 in
theorem mcK_all_4 : (List.zipWith mcK mcT_4 mcP_4).all id = true := by decide +kernel
theorem mcK_len_4 : mcT_4.length = mcP_4.length := by decide +kernel
def mcP_5 : List (Nat × Nat × Nat × Nat) := [(569, 570, 571, 97), (573, 574, 575, 99), (1360, 128, 129, 0), (1502, 1504, 33, 104), (1642, 1643, 0, 104), (1543, 1545, 42, 104), (1475, 1477, 27, 104), (1471, 1473, 26, 104), (1496, 616, 617, 106), (1497, 626, 627, 106), (1483, 1485, 29, 104), (1492, 1494, 31, 104), (1506, 1508, 34, 104), (1511, 1513, 35, 104), (1516, 1518, 36, 104), (1521, 1523, 37, 104), (1530, 1532, 39, 104), (1534, 1536, 40, 104), (1564, 1566, 46, 104), (1556, 1558, 44, 104), (1560, 1562, 45, 104), (1568, 1570, 47, 104), (1551, 1553, 43, 104), (1577, 1579, 49, 104), (1498, 1500, 32, 104), (1526, 1528, 38, 104), (1539, 1541, 41, 104), (1573, 1575, 48, 104), (1608, 1610, 55, 104), (1616, 1618, 57, 104), (1603, 1605, 54, 104), (1591, 1593, 51, 104), (1599, 1601, 53, 104), (1612, 1614, 56, 104), (1595, 1597, 52, 104), (1487, 1489, 30, 104), (1585, 1587, 50, 104), (1467, 1469, 25, 104), (1479, 1481, 28, 104), (1463, 1465, 24, 104)]
set_option maxRecDepth 100000 in
theorem mcK_all_5 : (List.zipWith mcK mcT_5 mcP_5).all id = true := by decide +kernel
theorem mcK_len_5 : mcT_5.length = mcP_5.length := by decide +kernel
def mcP_6 : List (Nat × Nat × Nat × Nat) := [(1626, 1628, 58, 104), (1657, 1659, 63, 104), (1681, 1683, 67, 104), (1653, 1655, 62, 104), (1645, 1647, 60, 104), (1677, 1679, 66, 104), (1738, 1740, 78, 104), (1734, 1736, 77, 104), (1689, 1020, 1021, 119), (1730, 1732, 76, 104), (1742, 1060, 1061, 119), (1743, 1745, 79, 104), (1747, 1749, 80, 104), (1649, 1651, 61, 104), (1722, 1724, 74, 104), (1726, 1728, 75, 104), (1751, 1753, 81, 104), (1718, 1720, 73, 104), (1638, 1640, 59, 104), (1661, 1663, 64, 104), (1673, 1675, 65, 104), (1685, 1687, 68, 104), (1698, 1700, 69, 104), (1702, 1704, 70, 104), (1710, 1712, 71, 104), (1714, 1716, 72, 104), (1775, 1777, 82, 104), (1779, 1781, 83, 104), (1791, 500, 0, 121), (1792, 1793, 0, 104), (1799, 1801, 84, 104), (1807, 1809, 85, 104), (1820, 1822, 87, 104), (1824, 1826, 88, 104), (1828, 1830, 89, 104), (1815, 1817, 86, 104), (1840, 1842, 90, 104), (1844, 1846, 91, 104), (1856, 1858, 92, 104), (590, 591, 592, 94)]
set_option maxRecDepth 100000 in
theorem mcK_all_6 : (List.zipWith mcK mcT_6 mcP_6).all id = true := by decide +kernel
theorem mcK_len_6 : mcT_6.length = mcP_6.length := by decide +kernel
def mcP_7 : List (Nat × Nat × Nat × Nat) := [(857, 858, 859, 94), (939, 940, 941, 94), (991, 992, 993, 94), (1005, 1006, 1007, 94), (1031, 1032, 1033, 94), (1039, 1040, 1041, 94), (1047, 1048, 1049, 94), (1129, 1130, 1131, 94), (1137, 1138, 1139, 94), (1146, 1147, 1148, 94), (1169, 1170, 1171, 94), (1180, 1181, 1182, 94), (1196, 1197, 1198, 94), (1208, 1209, 1210, 94), (1221, 1222, 1223, 94), (1234, 1235, 1236, 94), (1257, 1258, 1259, 94), (1292, 1293, 1294, 94), (1315, 1316, 1317, 94), (1326, 1327, 1328, 94), (124, 125, 0, 94), (1357, 1358, 0, 104), (422, 423, 424, 94), (1447, 1448, 1449, 104), (434, 435, 436, 94), (1451, 1452, 1453, 104), (585, 586, 0, 93), (1459, 1460, 1461, 104), (1351, 1352, 1353, 104), (854, 855, 0, 93), (1630, 1631, 1632, 104), (438, 439, 440, 94), (1455, 1456, 1457, 104), (934, 935, 0, 93), (1634, 1635, 1636, 104), (988, 989, 0, 93), (1665, 1666, 1667, 104), (1002, 1003, 0, 93), (1669, 1670, 1671, 104), (1028, 1029, 0, 93)]
set_option maxRecDepth 100000 in
theorem mcK_all_7 : (List.zipWith mcK mcT_7 mcP_7).all id = true := by decide +kernel
theorem mcK_len_7 : mcT_7.length = mcP_7.length := by decide +kernel
def mcP_8 : List (Nat × Nat × Nat × Nat) := [(1690, 1691, 1692, 104), (1036, 1037, 0, 93), (1694, 1695, 1696, 104), (1044, 1045, 0, 93), (1706, 1707, 1708, 104), (1126, 1127, 0, 93), (1755, 1756, 1757, 104), (1134, 1135, 0, 93), (1759, 1760, 1761, 104), (1142, 1143, 0, 93), (1763, 1764, 1765, 104), (1166, 1167, 0, 93), (1767, 1768, 1769, 104), (1177, 1178, 0, 93), (1771, 1772, 1773, 104), (1193, 1194, 0, 93), (1783, 1784, 1785, 104), (1205, 1206, 0, 93), (1787, 1788, 1789, 104), (1218, 1219, 0, 93), (1795, 1796, 1797, 104), (1231, 1232, 0, 93), (1803, 1804, 1805, 104), (1254, 1255, 0, 93), (1811, 1812, 1813, 104), (1289, 1290, 0, 93), (1832, 1833, 1834, 104), (1312, 1313, 0, 93), (1836, 1837, 1838, 104), (442, 443, 444, 94), (1848, 1849, 1850, 104), (465, 466, 467, 94), (1852, 1853, 1854, 104), (505, 506, 507, 94), (1860, 1861, 1862, 104), (1323, 1324, 0, 93), (1864, 1865, 1866, 104), (518, 519, 520, 94), (1443, 1444, 1445, 104), (552, 553, 554, 94)]
set_option maxRecDepth 100000 in
theorem mcK_all_8 : (List.zipWith mcK mcT_8 mcP_8).all id = true := by decide +kernel
theorem mcK_len_8 : mcT_8.length = mcP_8.length := by decide +kernel
def mcP_9 : List (Nat × Nat × Nat × Nat) := [(1435, 1436, 1437, 104), (557, 558, 559, 94), (1439, 1440, 1441, 104), (565, 566, 567, 94), (1868, 1869, 1870, 104)]
set_option maxRecDepth 100000 in
theorem mcK_all_9 : (List.zipWith mcK mcT_9 mcP_9).all id = true := by decide +kernel
theorem mcK_len_9 : mcT_9.length = mcP_9.length := by decide +kernel
def mlP : List Nat := [0, 0, 0, 0, 0, 0, 0, 0, 0, 0, 0, 0, 0, 0, 0, 0, 0, 0, 0, 0, 0, 0, 495, 0, 0, 0, 0, 0, 0, 0, 0, 0, 0, 0, 0, 0, 0, 0, 0, 0, 0, 0, 0, 0, 0, 0, 0, 0, 0, 0, 0, 0, 0, 0, 0, 0, 0, 0, 0, 0, 0, 0, 0, 0, 0, 0, 0, 0, 0, 0, 0, 0, 0, 0, 0, 0, 1819, 502, 503, 504]
def mstrs : List (String × Nat × String) := [("BarrelNight$Town", 87, "yard"), ("BarrelNight$Yards", 48, "yard"), ("BarrelNight$Yards", 58, "wall"), ("BarrelNight$Yards", 59, "door"), ("BarrelNight$Yards", 60, "thatch"), ("BarrelNight$Town", 96, "lane"), ("BarrelNight$Lanes", 36, "lane"), ("BarrelNight$Town", 104, "barrel"), ("BarrelNight$Barrels", 45, "barrel"), ("BarrelNight$Barrels", 51, "at"), ("BarrelNight$Barrels", 57, "pace"), ("BarrelNight$Barrels", 58, "tar"), ("BarrelNight$Barrels", 59, "weight"), ("BarrelNight$Barrels", 60, "way"), ("BarrelNight$Town", 109, "bearer"), ("BarrelNight$Bearers", 33, "bearer"), ("BarrelNight$Town", 112, "wind"), ("BarrelNight$Town", 120, "push"), ("BarrelNight$Town", 121, "shut"), ("BarrelNight$Town", 128, "open"), ("BarrelNight", 377, "the text is wrong"), ("BarrelNight", 87, "there are 10 texts"), ("BarrelNight$Law", 28, "back"), ("BarrelNight$Law", 38, "if"), ("BarrelNight$Law", 70, "not"), ("BarrelNight$Law", 85, "thatch"), ("BarrelNight$Law", 87, "at"), ("BarrelNight$Law", 100, "people"), ("BarrelNight$Law", 102, "holds"), ("BarrelNight$Law", 104, "inside"), ("BarrelNight$Law", 106, "yard"), ("BarrelNight$Law", 108, "weight"), ("BarrelNight$Law", 110, "wind"), ("BarrelNight$Law", 112, "second"), ("BarrelNight$Law", 68, "and"), ("BarrelNight$Law", 63, "or"), ("BarrelNight", 347, "there is no such yard"), ("BarrelNight", 160, "a yard has no such thing"), ("BarrelNight", 379, "there is no such lane"), ("BarrelNight", 174, "a lane has no such thing"), ("BarrelNight", 381, "there is no such barrel"), ("BarrelNight", 208, "a barrel has no such thing"), ("BarrelNight", 224, "there is no such bearer"), ("BarrelNight", 383, "the number is out of its bounds"), ("BarrelNight", 257, "its start is not above the second"), ("BarrelNight", 287, "both are one barrel"), ("BarrelNight", 298, "there is no such place in the row"), ("BarrelNight", 333, "the last camera is not told whole"), ("BarrelNight", 349, "a yard is told twice"), ("BarrelNight", 351, "more are told than the yard holds"), ("BarrelNightModel", 171, "yard"), ("BarrelNightModel", 118, "wall"), ("BarrelNightModel", 124, "door"), ("BarrelNightModel", 130, "thatch"), ("BarrelNightModel", 177, "lane"), ("BarrelNightModel", 182, "barrel"), ("BarrelNightModel", 156, "at"), ("BarrelNightModel", 158, "pace"), ("BarrelNightModel", 160, "tar"), ("BarrelNightModel", 162, "weight"), ("BarrelNightModel", 144, "way"), ("BarrelNightModel", 187, "bearer"), ("BarrelNightModel", 192, "wind"), ("BarrelNightModel", 194, "push"), ("BarrelNightModel", 196, "open"), ("BarrelNightModel", 198, "shut"), ("BarrelNightModel", 242, "back"), ("BarrelNightModel", 244, "if"), ("BarrelNightModel", 227, "not"), ("BarrelNightModel", 207, "people"), ("BarrelNightModel", 209, "holds"), ("BarrelNightModel", 211, "inside"), ("BarrelNightModel", 213, "second"), ("BarrelNightModel", 235, "and"), ("BarrelNightModel", 240, "or")]
def mlK (r : Nat × Nat × Nat × Nat) (p : Nat) : Bool := match r.2.2.1 with
  | 0 => match mstrs[r.2.2.2]? with
    | some t => t.1 == mcn r.1 && t.2.1 == r.2.1
    | none => false
  | _ => mhas p (.constant (mcn r.1) r.2.1 (Int32.ofNat r.2.2.2))
set_option maxRecDepth 100000 in
theorem mlK_all : (List.zipWith mlK mlT mlP).all id = true := by decide +kernel
theorem mlK_len : mlT.length = mlP.length := by decide +kernel
def mnP : List (Nat × Nat × Nat) := [(341, 159, 96), (164, 165, 97), (210, 211, 98), (235, 236, 99), (273, 274, 100), (130, 131, 95), (158, 159, 96), (335, 336, 101), (355, 356, 102), (365, 366, 103), (861, 862, 116), (122, 123, 94), (1355, 1356, 104)]
def mty (ci : Nat) : Nat → FieldType := match ci with
  | 0 => tyX0
  | 1 => tyX1
  | 2 => tyX2
  | 3 => tyX3
  | 4 => tyX4
  | 5 => tyX5
  | 6 => tyX7
  | 7 => tyX8
  | 8 => tyX9
  | 9 => tyX10
  | 10 => tyX11
  | 11 => tyX12
  | _ => fun _ => .int
def mnK (r : Nat × Nat × Nat) (p : Nat × Nat × Nat) : Bool := match vwCl[r.2.2]? with
  | some (C, T, N) => mhas p.1 (.classLink (mcn r.1) r.2.1 C) && (mhas p.2.1 (.instantiable C N) && (mhas p.2.2 (.initialized C) && (decide ((mdef r.2.2).length = N) && (decide (r.2.2 < 12)))))
  | none => false
set_option maxRecDepth 100000 in
theorem mnK_all : (List.zipWith mnK mnT mnP).all id = true := by decide +kernel
theorem mnK_len : mnT.length = mnP.length := by decide +kernel
/-- fields of a new object of class ci -/
theorem mdef_ok : ∀ ci, ci < 12 → ∀ r, vwCl[ci]? = some r → ∀ j, j < r.2.2 → defaultValue (mty ci j) = vp_V (mdef ci) j := by
  intro ci hci r hr j hj
  have h : ((List.range 12).all (fun ci => match vwCl[ci]? with | some r => (List.range r.2.2).all (fun j => decide (defaultValue (mty ci j) = vp_V (mdef ci) j)) | none => true)) = true := by decide +kernel
  have h1 := List.all_eq_true.mp h ci (List.mem_range.mpr hci)
  rw [hr] at h1
  exact decide_eq_true_eq.mp (List.all_eq_true.mp h1 j (List.mem_range.mpr hj))
theorem mty_ok : ∀ ci, ci < 12 → ∀ r, vwCl[ci]? = some r → ∀ j, j < r.2.2 → parseFieldDescriptor (r.2.1 j).2.2.1 = some (mty ci j) := by
  intro ci hci r hr j hj
  have h : ((List.range 12).all (fun ci => match vwCl[ci]? with | some r => (List.range r.2.2).all (fun j => decide (parseFieldDescriptor (r.2.1 j).2.2.1 = some (mty ci j))) | none => true)) = true := by decide +kernel
  have h1 := List.all_eq_true.mp h ci (List.mem_range.mpr hci)
  rw [hr] at h1
  exact decide_eq_true_eq.mp (List.all_eq_true.mp h1 j (List.mem_range.mpr hj))
theorem mnm_ok : ∀ ci, ci < 12 → ∀ r, vwCl[ci]? = some r → ∀ a, a < r.2.2 → ∀ b, b < r.2.2 → a ≠ b → (r.2.1 a).2.1 ≠ (r.2.1 b).2.1 := by
  intro ci hci r hr a ha b hb
  have h : ((List.range 12).all (fun ci => match vwCl[ci]? with | some r => (List.range r.2.2).all (fun a => (List.range r.2.2).all (fun b => decide (a ≠ b → (r.2.1 a).2.1 ≠ (r.2.1 b).2.1))) | none => true)) = true := by decide +kernel
  have h1 := List.all_eq_true.mp h ci (List.mem_range.mpr hci)
  rw [hr] at h1
  exact decide_eq_true_eq.mp (List.all_eq_true.mp (List.all_eq_true.mp h1 a (List.mem_range.mpr ha)) b (List.mem_range.mpr hb))
def muP : List (List Nat) := [[258, 260, 262, 264, 266, 268, 270], [287, 289, 291], [226, 228, 230, 232], [871, 873, 875], [348, 350, 352], [378, 380, 382, 384, 386, 388], [144, 146, 148, 150, 152, 154], [362], [316, 318, 320, 322, 324, 326, 328, 330, 332], [193, 195, 197, 199, 201, 203, 205, 207], [401, 403, 405, 407, 409, 411, 413, 415, 417, 419], [1385, 1387, 1389, 1391, 1393, 1395, 1397, 1399, 1401, 1403, 1405, 1407, 1409, 1411, 1413, 1415, 1417, 1419, 1421, 1423, 1425, 1427, 1429, 1431]]
set_option maxRecDepth 100000 in
theorem mu_all : (List.zipWith (fun (q : vw_C) (p : List Nat) => (List.range q.2.2).all (fun k => mhas (p.getD k 99999) (u_lay q.1 q.2.1 k))) vwCl muP).all id = true := by decide +kernel
theorem mu_in {ci : Nat} {r : vw_C} (hr : vwCl[ci]? = some r) : ∀ w ∈ u_ws r.1 r.2.1 r.2.2, w ∈ bW := by
  intro w hw
  obtain ⟨k, hk, rfl⟩ := List.mem_map.mp hw
  have hp : ∃ p, muP[ci]? = some p := by
    have h1 := (List.getElem?_eq_some_iff.mp hr).1
    have h2 : vwCl.length = muP.length := rfl
    exact ⟨_, List.getElem?_eq_getElem (h2 ▸ h1)⟩
  obtain ⟨p, hp⟩ := hp
  have h3 : (List.zipWith (fun (q : vw_C) (p : List Nat) => (List.range q.2.2).all (fun k => mhas (p.getD k 99999) (u_lay q.1 q.2.1 k))) vwCl muP)[ci]? = some ((List.range r.2.2).all (fun k => mhas (p.getD k 99999) (u_lay r.1 r.2.1 k))) := by
    rw [List.getElem?_zipWith, hr, hp]
  have h4 := List.all_eq_true.mp mu_all _ (List.mem_of_getElem? h3)
  exact mhas_in (List.all_eq_true.mp h4 k hk)
/-- a row of a table, and what holds of it -/
theorem zip_at {α β : Type} {f : α → β → Bool} {as : List α} {bs : List β} (h : (List.zipWith f as bs).all id = true) (hl : as.length = bs.length) {a : α} (ha : a ∈ as) : ∃ b, f a b = true := by
  obtain ⟨i, hi⟩ := List.getElem?_of_mem ha
  have h1 := (List.getElem?_eq_some_iff.mp hi).1
  have hb := List.getElem?_eq_getElem (hl ▸ h1 : i < bs.length)
  refine ⟨bs[i]'(hl ▸ h1), ?_⟩
  have h3 : (List.zipWith f as bs)[i]? = some (f a (bs[i]'(hl ▸ h1))) := by rw [List.getElem?_zipWith, hi, hb]
  exact List.all_eq_true.mp h _ (List.mem_of_getElem? h3)
theorem mfK_at {r : Nat × Nat × Nat × Nat × Nat} (h : r ∈ mfT) : ∃ p : Nat, mfK r p = true := by
  simp only [mfT, List.mem_append] at h
  rcases h with h | h | h
  · exact zip_at mfK_all_0 mfK_len_0 h
  · exact zip_at mfK_all_1 mfK_len_1 h
  · exact zip_at mfK_all_2 mfK_len_2 h
theorem mmK_at {r : MethodName × ByteArray × Nat × Option FieldType × Nat} (h : r ∈ mT) : ∃ p : Nat, mmK r p = true := by
  simp only [mT, List.mem_append] at h
  rcases h with h | h | h | h | h | h | h
  · exact zip_at mmK_all_0 mmK_len_0 h
  · exact zip_at mmK_all_1 mmK_len_1 h
  · exact zip_at mmK_all_2 mmK_len_2 h
  · exact zip_at mmK_all_3 mmK_len_3 h
  · exact zip_at mmK_all_4 mmK_len_4 h
  · exact zip_at mmK_all_5 mmK_len_5 h
  · exact zip_at mmK_all_6 mmK_len_6 h
theorem mcK_at {r : Nat × Nat × Nat × Nat × Nat} (h : r ∈ mcT) : ∃ p : Nat × Nat × Nat × Nat, mcK r p = true := by
  simp only [mcT, List.mem_append] at h
  rcases h with h | h | h | h | h | h | h | h | h | h
  · exact zip_at mcK_all_0 mcK_len_0 h
  · exact zip_at mcK_all_1 mcK_len_1 h
  · exact zip_at mcK_all_2 mcK_len_2 h
  · exact zip_at mcK_all_3 mcK_len_3 h
  · exact zip_at mcK_all_4 mcK_len_4 h
  · exact zip_at mcK_all_5 mcK_len_5 h
  · exact zip_at mcK_all_6 mcK_len_6 h
  · exact zip_at mcK_all_7 mcK_len_7 h
  · exact zip_at mcK_all_8 mcK_len_8 h
  · exact zip_at mcK_all_9 mcK_len_9 h
