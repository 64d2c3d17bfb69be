/-! PART 03: what the constant pools link to, by numbers; each row is found among the words of the tables at its place. (By program: wip/whole/gen.py) -/
def mm_on (i : Nat) : String := match i with
  | 0 => RX0
  | 1 => RX1
  | 2 => RX2
  | 3 => RX3
  | 4 => RX4
  | 5 => RX5
  | 6 => RX6
  | 7 => RX7
  | 8 => RX8
  | 9 => RX9
  | 10 => RX10
  | 11 => RX11
  | 12 => RX12
  | 13 => RX13
  | 14 => RL
  | 15 => RJ6
  | 16 => RJ0
  | 17 => RJ1
  | 18 => RJ2
  | _ => ""
def mm_ty (c : Nat) : Nat → FieldType := match c with
  | 0 => tyX0
  | 1 => tyX1
  | 2 => tyX2
  | 3 => tyX3
  | 4 => tyX4
  | 5 => tyX5
  | 6 => tyX6
  | 7 => tyX7
  | 8 => tyX8
  | 9 => tyX9
  | 10 => tyX10
  | 11 => tyX11
  | 12 => tyX12
  | _ => tyX13
/-- a field by its number: class, name, descriptor, final; its type -/
def mm_fT (x : Nat) : String × String × String × Bool := match vwCl[x / 100]? with
  | some q => q.2.1 (x % 100)
  | none => ("", "", "", false)
def mm_fN (c : Nat) : Nat := match vwCl[c]? with
  | some q => q.2.2
  | none => 0
def mm_fty (x : Nat) : FieldType := mm_ty (x / 100) (x % 100)
/-- the element type of a kind of array -/
def mm_aty (k : Nat) : FieldType := match k with
  | 20 => .int
  | 21 => .byte
  | 22 => .boolean
  | 23 => .long
  | 24 => .object RX5
  | 25 => .object RX1
  | 26 => .object RX6
  | 27 => .object RX9
  | _ => .object RX10
def mm_fl : List (Nat × Nat × Nat × Nat) := [(0, 9, 0, 294), (0, 21, 1, 296), (0, 29, 101, 468), (0, 34, 100, 465), (0, 40, 106, 479), (0, 43, 102, 470), (1, 9, 100, 464), (1, 15, 101, 467), (1, 18, 104, 475), (1, 25, 105, 477), (1, 28, 110, 484), (1, 32, 109, 483), (1, 35, 1108, 608), (1, 40, 111, 485), (1, 43, 1102, 594), (1, 46, 1103, 598), (1, 49, 1106, 605), (1, 52, 1104, 601), (1, 55, 1100, 589), (2, 9, 200, 243), (2, 15, 201, 244), (2, 18, 202, 245), (2, 21, 203, 246), (2, 24, 204, 247), (3, 7, 300, 266), (3, 13, 301, 267), (3, 16, 303, 270), (3, 19, 305, 274), (3, 22, 302, 268), (3, 38, 304, 272), (4, 9, 400, 192), (4, 15, 401, 193), (4, 18, 402, 194), (4, 21, 403, 195), (4, 25, 404, 196), (4, 28, 405, 197), (4, 36, 1101, 591), (4, 59, 103, 473), (5, 9, 500, 310), (5, 15, 501, 311), (5, 18, 503, 314), (5, 22, 502, 312), (6, 9, 609, 915), (6, 15, 600, 898), (6, 18, 601, 900), (6, 22, 602, 902), (6, 25, 603, 904), (6, 28, 604, 906), (6, 31, 614, 921), (6, 39, 605, 908), (6, 43, 608, 913), (6, 46, 618, 928), (6, 49, 616, 924), (6, 52, 619, 929), (6, 55, 617, 926), (6, 58, 103, 472), (6, 63, 607, 911), (6, 67, 1103, 597), (7, 9, 700, 155), (7, 15, 702, 158), (7, 19, 704, 162), (7, 22, 701, 156), (7, 36, 705, 163), (7, 43, 707, 165), (7, 46, 706, 164), (7, 59, 703, 160), (8, 7, 800, 218), (8, 13, 802, 221), (8, 16, 804, 225), (8, 19, 801, 219), (8, 42, 803, 223), (9, 7, 900, 1072), (9, 13, 901, 1074), (9, 16, 902, 1076), (9, 19, 903, 1078), (9, 23, 904, 1080), (10, 9, 1004, 337), (10, 13, 1000, 330), (10, 17, 1001, 332), (10, 21, 1002, 334), (10, 24, 1003, 336), (11, 10, 1106, 604), (11, 16, 1100, 588), (11, 19, 1101, 590), (11, 23, 1102, 593), (11, 26, 1103, 596), (11, 29, 1104, 600), (12, 9, 1202, 353), (12, 17, 1203, 354), (12, 23, 1206, 357), (12, 27, 1208, 359), (12, 31, 1209, 360), (12, 34, 1210, 361), (12, 39, 1211, 362), (12, 46, 1213, 364), (12, 53, 1214, 365), (12, 60, 1215, 366), (12, 67, 1216, 367), (12, 74, 1217, 368), (12, 81, 1218, 369), (12, 87, 1219, 370), (12, 97, 1200, 351), (12, 101, 1201, 352), (12, 112, 502, 313), (12, 123, 503, 315), (12, 130, 100, 466), (12, 134, 102, 471), (12, 137, 103, 474), (12, 143, 101, 469), (12, 147, 105, 478), (12, 150, 106, 480), (12, 153, 107, 481), (12, 160, 104, 476), (12, 181, 1205, 356), (12, 188, 111, 486), (12, 193, 1000, 331), (12, 203, 108, 482), (12, 211, 1105, 603), (12, 219, 1101, 592), (12, 254, 605, 909), (12, 257, 606, 910), (12, 260, 608, 914), (12, 263, 607, 912), (12, 267, 1104, 602), (12, 270, 601, 901), (12, 273, 602, 903), (12, 276, 603, 905), (12, 279, 604, 907), (12, 282, 1103, 599), (12, 285, 611, 918), (12, 288, 613, 920), (12, 291, 615, 923), (12, 294, 619, 930), (12, 300, 1207, 358), (12, 307, 112, 487), (12, 310, 600, 899), (12, 311, 1106, 606), (12, 328, 701, 157), (12, 334, 1212, 363), (12, 345, 703, 161), (12, 366, 1204, 355), (12, 370, 405, 198), (12, 380, 801, 220), (12, 386, 803, 224), (12, 389, 802, 222), (12, 395, 204, 248), (12, 400, 302, 269), (12, 404, 304, 273), (12, 407, 303, 271), (12, 410, 1, 297), (12, 417, 0, 295), (12, 436, 1004, 338), (12, 446, 1002, 335), (12, 458, 1001, 333), (12, 495, 1102, 595), (12, 499, 609, 916), (12, 502, 617, 927), (12, 505, 610, 917), (12, 508, 616, 925), (12, 511, 1107, 607), (12, 529, 612, 919), (12, 532, 614, 922), (12, 541, 900, 1073), (12, 544, 901, 1075), (12, 547, 902, 1077), (12, 555, 904, 1081), (12, 556, 702, 159), (12, 559, 903, 1079), (13, 7, 1303, 1315), (13, 13, 1304, 1316), (13, 16, 1305, 1317), (13, 19, 1306, 1318), (13, 22, 1308, 1320), (13, 25, 1309, 1321), (13, 28, 1310, 1322), (13, 31, 1311, 1323), (13, 34, 1312, 1324), (13, 37, 1313, 1325), (13, 40, 1314, 1326), (13, 43, 1315, 1327), (13, 47, 1317, 1329), (13, 50, 1318, 1330), (13, 53, 1319, 1331), (13, 56, 1320, 1332), (13, 59, 1321, 1333), (13, 62, 1322, 1334), (13, 65, 1323, 1335), (13, 68, 1324, 1336), (13, 71, 1325, 1337), (13, 74, 1326, 1338), (13, 77, 1328, 1340), (13, 80, 1329, 1341), (13, 83, 1330, 1342), (13, 86, 1331, 1343), (13, 89, 1332, 1344), (13, 92, 1333, 1345), (13, 95, 1334, 1346), (13, 98, 1335, 1347), (13, 101, 1336, 1348), (13, 104, 1337, 1349), (13, 107, 1338, 1350), (13, 110, 1339, 1351), (13, 113, 1340, 1352), (13, 116, 1341, 1353), (13, 119, 1342, 1354), (13, 122, 1343, 1355), (13, 125, 1344, 1356), (13, 128, 1345, 1357), (13, 131, 1346, 1358), (13, 134, 1347, 1359), (13, 137, 1348, 1360), (13, 140, 1349, 1361), (13, 143, 1353, 1365), (13, 147, 1356, 1368), (13, 150, 1357, 1369), (13, 153, 1358, 1370), (13, 156, 1359, 1371), (13, 159, 1360, 1372), (13, 162, 1361, 1373), (13, 165, 1362, 1374), (13, 168, 1368, 1380), (13, 171, 1369, 1381), (13, 174, 1371, 1383), (13, 177, 1372, 1384), (13, 180, 1373, 1385), (13, 183, 1374, 1386), (13, 186, 1376, 1388), (13, 189, 1377, 1389), (13, 192, 1378, 1390), (13, 195, 1379, 1391), (13, 199, 1382, 1394), (13, 202, 1383, 1395), (13, 205, 1384, 1396), (13, 208, 1385, 1397), (13, 211, 1387, 1399), (13, 214, 1388, 1400), (13, 217, 1389, 1401), (13, 220, 1390, 1402), (13, 223, 1392, 1404), (13, 226, 1393, 1405), (13, 229, 1394, 1406), (13, 232, 1395, 1407), (13, 236, 1396, 1408), (13, 246, 1301, 1313), (13, 249, 1302, 1314), (13, 263, 1307, 1319), (13, 298, 1316, 1328), (13, 340, 1327, 1339), (13, 367, 1350, 1362), (13, 370, 1351, 1363), (13, 373, 1352, 1364), (13, 393, 1354, 1366), (13, 396, 1363, 1375), (13, 399, 1364, 1376), (13, 402, 1366, 1378), (13, 405, 1367, 1379), (13, 408, 1365, 1377), (13, 449, 1355, 1367), (13, 461, 1370, 1382), (13, 470, 1375, 1387), (13, 473, 1380, 1392), (13, 481, 1381, 1393), (13, 491, 1386, 1398), (13, 494, 1391, 1403)]
theorem mm_fl_ok : ∀ q ∈ mm_fl, lw_tbl[q.2.2.2]? = some (Jvm.Cond.fieldLink (mm_on q.1) q.2.1 (mm_fT q.2.2.1).1 (mm_fT q.2.2.1).2.1 (mm_fT q.2.2.1).2.2.1) := by decide +kernel
def mm_cl : List (Nat × Nat × Nat × Nat × Nat × Nat) := [(12, 43, 7, 149, 150, 112), (12, 50, 4, 185, 186, 113), (12, 57, 8, 212, 213, 114), (12, 64, 2, 237, 238, 115), (12, 71, 3, 260, 261, 116), (12, 78, 0, 288, 289, 117), (12, 7, 5, 141, 305, 118), (12, 85, 10, 303, 325, 119), (12, 37, 9, 147, 1060, 130), (12, 15, 1, 143, 459, 121), (12, 212, 11, 581, 582, 122), (12, 21, 6, 145, 893, 129), (14, 7, 12, 133, 134, 111), (14, 10, 13, 1307, 1308, 120)]
theorem mm_cl_ok : ∀ q ∈ mm_cl, lw_tbl[q.2.2.2.1]? = some (Jvm.Cond.classLink (mm_on q.1) q.2.1 (mm_on q.2.2.1)) ∧ lw_tbl[q.2.2.2.2.1]? = some (Jvm.Cond.instantiable (mm_on q.2.2.1) (mm_fN q.2.2.1)) ∧ lw_tbl[q.2.2.2.2.2]? = some (Jvm.Cond.initialized (mm_on q.2.2.1)) := by decide +kernel
def mm_ck : List (Nat × Nat × Int × Nat) := [(1, 56, 1000000, 675), (11, 9, 1000000, 587), (12, 133, 9999999, 519), (12, 146, 99999, 528), (12, 163, (-2000000000), 545), (12, 369, 999999, 1113), (12, 392, 999913, 1179), (13, 276, 9999999, 1650), (13, 277, 99999, 1655), (13, 281, (-2000000000), 1675), (13, 301, 1000000, 1720), (13, 324, 999999, 1748), (13, 480, 999913, 1956), (15, 265, 1431655765, 1130), (15, 266, 858993459, 1131), (15, 267, 252645135, 1132)]
theorem mm_ck_ok : ∀ q ∈ mm_ck, lw_tbl[q.2.2.2]? = some (Jvm.Cond.constant (mm_on q.1) q.2.1 (Int32.ofInt q.2.2.1)) := by decide +kernel
def mm_cj : List (Nat × Nat × Int × Nat) := [(12, 444, (-9223372036854775808), 1276), (12, 539, (-1), 985), (13, 318, 2, 1728), (13, 541, (-9223372036854775808), 2060), (14, 194, 4294967295, 2073)]
theorem mm_cj_ok : ∀ q ∈ mm_cj, lw_tbl[q.2.2.2]? = some (Jvm.Cond.constantLong (mm_on q.1) q.2.1 (Int64.ofInt q.2.2.1)) := by decide +kernel
def mm_oi : List (Nat × Nat × Nat) := [(0, 3, 293), (1, 3, 463), (2, 3, 242), (3, 1, 265), (4, 1, 190), (5, 3, 309), (6, 3, 897), (7, 3, 154), (8, 1, 217), (9, 1, 1071), (10, 1, 329), (11, 3, 586), (12, 1, 138), (13, 1, 1312)]
theorem mm_oi_ok : ∀ q ∈ mm_oi, lw_tbl[q.2.2]? = some (Jvm.Cond.methodLink (mm_on q.1) q.2.1 objectInit) := by decide +kernel
theorem mm_oi2 : lw_tbl[139]? = some (Jvm.Cond.instanceMethod objectInit) := by decide +kernel
theorem mm_oi3 : lw_tbl[140]? = some (Jvm.Cond.code objectInit ⟨#[0xb1]⟩ 1 none) := by decide +kernel
def mm_sta : List (String × String × String) := [("PlayerMoves", "ABOVE", "[I"), ("PlayerMoves", "LEAST_TERM", "[I"), ("PlayerMoves", "MOST_TERM", "[I"), ("PlayerMoves", "SQUAD_FIGURES", "[I"), ("PlayerMoves$Acts", "OWN_BODY", "[I")]
def mm_sl : List (Nat × Nat × Nat × Nat) := [(0, 15, 4, 1231), (12, 226, 1, 683), (12, 229, 2, 685), (12, 318, 3, 1039)]
theorem mm_sl_ok : ∀ q ∈ mm_sl, lw_tbl[q.2.2.2]? = some (Jvm.Cond.fieldLink (mm_on q.1) q.2.1 (mm_sta.getD q.2.2.1 ("", "", "")).1 (mm_sta.getD q.2.2.1 ("", "", "")).2.1 (mm_sta.getD q.2.2.1 ("", "", "")).2.2) := by decide +kernel
def mm_sn : List (Nat × Nat × Nat) := [(0, 18, 0), (1, 22, 0)]
def mm_fs : List (Nat × Nat × Nat × Nat) := [(16, 9, 9100, 2074), (16, 15, 9101, 2075)]
theorem mm_fs_ok : ∀ q ∈ mm_fs, (q.2.2.1 = 9100 → lw_tbl[q.2.2.2]? = some (Jvm.Cond.fieldLink (mm_on q.1) q.2.1 "java/lang/String" "value" "[B")) ∧ (q.2.2.1 = 9101 → lw_tbl[q.2.2.2]? = some (Jvm.Cond.fieldLink (mm_on q.1) q.2.1 "java/lang/String" "coder" "B")) := by decide +kernel
def mm_s2 : List (Nat × Nat × Nat) := [(16, 38, 720)]
theorem mm_s2_ok : ∀ q ∈ mm_s2, lw_tbl[q.2.2]? = some (Jvm.Cond.fieldLink (mm_on q.1) q.2.1 "java/lang/String" "COMPACT_STRINGS" "Z") := by decide +kernel
def mm_al : List (Nat × Nat) := [(20, 183), (21, 184), (23, 350), (22, 1604)]
theorem mm_al_ok : ∀ q ∈ mm_al, lw_tbl[q.2]? = some (Jvm.Cond.arrayClass (mm_aty q.1)) := by decide +kernel
def mm_ol : List (Nat × Nat × Nat × Nat) := [(4, 7, 25, 191), (12, 7, 24, 141), (12, 15, 25, 143), (12, 21, 26, 145), (12, 37, 27, 147), (12, 85, 28, 303)]
theorem mm_ol_ok : ∀ q ∈ mm_ol, 23 < q.2.2.1 ∧ q.2.2.1 < 29 ∧ lw_tbl[q.2.2.2]? = some (Jvm.Cond.classLink (mm_on q.1) q.2.1 (mm_on (mm_comp q.2.2.1))) := by decide +kernel
def mm_ss : List (Nat × Nat) := [(7, 92), (12, 548)]
def mm_ex : List (Nat × Nat × Nat × Nat) := [(3, 26, 9002, 1217), (7, 26, 9003, 1065), (7, 53, 9002, 762), (8, 33, 9001, 1166), (12, 420, 9002, 668), (12, 452, 9003, 1281), (12, 488, 9001, 676), (17, 92, 9001, 824), (17, 38, 9002, 825)]
/-- the code that the word at a place tells -/
def mm_cOf (j : Nat) : ByteArray := match lw_tbl[j]? with
  | some (Jvm.Cond.code _ c _ _) => c
  | _ => ByteArray.empty
def mm_isC (j : Nat) (y : MethodName) (n : Nat) (r : Option FieldType) : Bool := match lw_tbl[j]? with
  | some (Jvm.Cond.code y2 _ n2 r2) => decide (y2 = y) && (decide (n2 = n) && decide (r2 = r))
  | _ => false
theorem mm_isC_spec {j : Nat} {y : MethodName} {n : Nat} {r : Option FieldType} (h : mm_isC j y n r = true) : lw_tbl[j]? = some (Jvm.Cond.code y (mm_cOf j) n r) := by
  unfold mm_isC at h
  unfold mm_cOf
  split at h
  · rename_i y2 c n2 r2 e
    simp only [Bool.and_eq_true, decide_eq_true_eq] at h
    obtain ⟨h1, h2, h3⟩ := h
    subst h1; subst h2; subst h3
    rw [e]
  · cases h
/-- the methods: name, locals, answer, the place of their code among the words -/
def mm_md : List (MethodName × Nat × Option FieldType × Nat) := [(yX0_init, 1, none, 292),
  (yX0_perform, 8, some .int, 1230),
  (yX0_run, 7, some .int, 1238),
  (yX1_init, 3, none, 462),
  (yX1_isClub, 1, some .boolean, 540),
  (yX1_isPlayer, 1, some .boolean, 549),
  (yX1_isUnder, 3, some .boolean, 1289),
  (yX1_ageOn, 2, some .int, 565),
  (yX1_append, 2, none, 631),
  (yX1_owning, 4, some (.object "PlayerMoves$Span"), 561),
  (yX1_holding, 5, some (.object "PlayerMoves$Span"), 557),
  (yX1_nextChange, 4, some .int, 674),
  (yX2_init, 1, none, 241),
  (yX2_add, 3, some .boolean, 1183),
  (yX2_takeBest, 12, some .int, 1191),
  (yX2_sumOf, 5, some .int, 1195),
  (yX2_fillsPlaces, 7, some .boolean, 1200),
  (yX3_init, 1, none, 264),
  (yX3_add, 3, some .boolean, 1208),
  (yX3_pay, 6, some .int, 1216),
  (yX4_init, 1, none, 189),
  (yX4_add, 5, some .boolean, 1117),
  (yX4_takeGreatest, 7, some .int, 1125),
  (yX4_feesOf, 4, some .int, 1136),
  (yX4_canHappen, 3, some .boolean, 1140),
  (yX4_fits, 5, some .boolean, 1144),
  (yX5_init, 1, none, 308),
  (yX5_addWindow, 3, some .boolean, 434),
  (yX5_isOpen, 3, some .boolean, 442),
  (yX6_init, 6, none, 896),
  (yX6_shareOf, 2, some .int, 1017),
  (yX6_countMatches, 2, none, 1026),
  (yX6_spreadTo, 3, some .int, 745),
  (yX7_init, 1, none, 153),
  (yX7_take, 4, some .boolean, 1048),
  (yX7_tapeText, 2, some (.array .byte), 1064),
  (yX7_faultOfTape, 2, some .int, 1059),
  (yX7_brokenLineOf, 3, some .int, 757),
  (yX7_begin, 3, none, 761),
  (yX7_peek, 1, some .int, 778),
  (yX7_fail, 1, some .int, 782),
  (yX7_pass, 2, none, 786),
  (yX7_anyOf, 3, some .boolean, 766),
  (yX7_allOf, 3, some .boolean, 770),
  (yX7_base, 6, some .boolean, 774),
  (yX7_sum, 5, some .int, 790),
  (yX7_product, 5, some .int, 794),
  (yX7_operand, 4, some .int, 798),
  (yX7_number, 3, some .int, 803),
  (yX8_init, 1, none, 216),
  (yX8_add, 2, some .boolean, 1152),
  (yX8_takeMost, 5, some .int, 1160),
  (yX8_mostWith, 6, some .int, 1165),
  (yX8_firstOf, 4, some .int, 1170),
  (yX9_init, 6, none, 1070),
  (yX9_use, 1, some .int, 1108),
  (yX10_init, 1, none, 328),
  (yX10_hold, 2, none, 1251),
  (yX10_holdRow, 4, none, 1259),
  (yX10_isRowOf, 2, some .boolean, 643),
  (yX10_has, 3, some .boolean, 651),
  (yX10_fitted, 3, some .long, 1271),
  (yX11_init, 6, none, 585),
  (yX12_init, 2, none, 137),
  (yX12_days, 2, some .int, 415),
  (yX12_minute, 3, some .int, 422),
  (yX12_window, 5, some .int, 426),
  (yX12_open, 4, some .int, 438),
  (yX12_papers, 5, some .int, 450),
  (yX12_body, 3, some .int, 454),
  (yX12_club, 5, some .int, 518),
  (yX12_player, 8, some .int, 523),
  (yX12_income, 6, some .int, 532),
  (yX12_ofBody, 4, some .int, 544),
  (yX12_past, 7, some .int, 569),
  (yX12_spans, 8, some .int, 635),
  (yX12_sign, 7, some .int, 655),
  (yX12_at, 6, some .int, 659),
  (yX12_taught, 5, some .int, 663),
  (yX12_term, 4, some .int, 682),
  (yX12_why, 6, some .int, 690),
  (yX12_sell, 6, some .int, 881),
  (yX12_lend, 6, some .int, 993),
  (yX12_option, 5, some .int, 1001),
  (yX12_ofMove, 4, some .int, 1009),
  (yX12_share, 5, some .int, 1013),
  (yX12_play, 6, some .int, 1022),
  (yX12_undo, 4, some .int, 1030),
  (yX12_squad, 4, some .int, 1038),
  (yX12_feed, 3, some .int, 1044),
  (yX12_rule, 4, some .int, 1052),
  (yX12_inForce, 4, some .int, 1096),
  (yX12_holds, 8, some .int, 1100),
  (yX12_tryCap, 5, some .int, 1104),
  (yX12_deal, 8, some .int, 1112),
  (yX12_chain, 1, some .int, 1121),
  (yX12_wish, 2, some .int, 1148),
  (yX12_rings, 1, some .int, 1156),
  (yX12_gets, 2, some .int, 1174),
  (yX12_candidate, 4, some .int, 1178),
  (yX12_buys, 4, some .int, 1187),
  (yX12_claim, 3, some .int, 1204),
  (yX12_part, 2, some .int, 1212),
  (yX12_got, 2, some .int, 1222),
  (yX12_act, 5, some .int, 1226),
  (yX12_trace, 2, some .int, 1243),
  (yX12_keep, 5, some .int, 1247),
  (yX12_row, 5, some .int, 1255),
  (yX12_put, 6, some .int, 1263),
  (yX12_element, 3, some .long, 1275),
  (yX12_shift, 8, some .int, 1280),
  (yX12_taken, 4, some .int, 1285),
  (yX12_count, 2, some .int, 1294),
  (yX12_within, 3, some .boolean, 418),
  (yX12_bit, 1, some .int, 446),
  (yX12_leagueAt, 2, some (.object "PlayerMoves$League"), 430),
  (yX12_bodyAt, 2, some (.object "PlayerMoves$Body"), 527),
  (yX12_clubAt, 3, some (.object "PlayerMoves$Body"), 536),
  (yX12_playerAt, 3, some (.object "PlayerMoves$Body"), 573),
  (yX12_moveAt, 2, some (.object "PlayerMoves$Move"), 1005),
  (yX12_shelfAt, 2, some (.object "PlayerMoves$Shelf"), 639),
  (yX12_elementRefusal, 4, some .int, 1267),
  (yX12_ofPlayer, 5, some .int, 553),
  (yX12_countClubs, 3, some .int, 1298),
  (yX12_countPlayers, 4, some .int, 1302),
  (yX12_countStandingMoves, 3, some .int, 1306),
  (yX12_addBody, 3, some (.object "PlayerMoves$Body"), 458),
  (yX12_addSpan, 7, some (.object "PlayerMoves$Span"), 580),
  (yX12_arePastDays, 2, some .boolean, 576),
  (yX12_addSpanFrom, 9, some .boolean, 647),
  (yX12_countTeaching, 6, none, 667),
  (yX12_refusal, 1, some .int, 884),
  (yX12_movesOrSpansAreFull, 1, some .boolean, 888),
  (yX12_whyNot, 7, some .int, 694),
  (yX12_isLentElsewhere, 5, some .boolean, 698),
  (yX12_makeSale, 7, some .int, 892),
  (yX12_makeLoan, 5, some .int, 997),
  (yX12_enter, 2, some .int, 989),
  (yX12_hundredths, 2, some .int, 977),
  (yX12_payKept, 2, none, 974),
  (yX12_payShares, 4, none, 981),
  (yX12_addParts, 19, none, 984),
  (yX12_payBack, 3, none, 1034),
  (yX12_isLeagueAndUse, 1, some .boolean, 1055),
  (yX12_ruleInForce, 5, some .int, 706),
  (yX12_ruleToday, 4, some (.object "PlayerMoves$Rule"), 702),
  (yX12_brokenLine, 6, some .int, 710),
  (yX12_figure, 5, some .int, 725),
  (yX12_year, 1, some .int, 737),
  (yX12_countHeld, 8, some .int, 729),
  (yX12_wages, 5, some .int, 733),
  (yX12_spreadTo, 5, some .int, 741),
  (yX12_threeYearsCaps, 5, some .int, 749),
  (yX12_threeYearsIncome, 4, some .int, 753),
  (yX13_init, 1, none, 1311),
  (yX13_in, 3, some .boolean, 1611),
  (yX13_isDay, 1, some .boolean, 1625),
  (yX13_days, 2, some .int, 1608),
  (yX13_minute, 3, some .int, 1615),
  (yX13_isLeague, 1, some .boolean, 1622),
  (yX13_window, 4, some .int, 1619),
  (yX13_isOpen, 4, some .boolean, 1633),
  (yX13_open, 3, some .int, 1629),
  (yX13_papers, 4, some .int, 1637),
  (yX13_isBody, 2, some .boolean, 1659),
  (yX13_isUnder, 2, some .boolean, 1670),
  (yX13_isClub, 2, some .boolean, 1667),
  (yX13_isPlayer, 2, some .boolean, 1679),
  (yX13_add, 2, some .int, 1645),
  (yX13_body, 2, some .int, 1641),
  (yX13_club, 5, some .int, 1649),
  (yX13_player, 6, some .int, 1654),
  (yX13_income, 5, some .int, 1663),
  (yX13_ageOn, 3, some .int, 1691),
  (yX13_ofBody, 5, some .int, 1674),
  (yX13_addSpan, 6, some .int, 1719),
  (yX13_spansOf, 4, some .int, 1703),
  (yX13_isSome, 3, some .boolean, 1687),
  (yX13_ownSpan, 4, some .int, 1683),
  (yX13_spanOn, 5, some .int, 1699),
  (yX13_holderOn, 4, some .int, 1695),
  (yX13_ownerOn, 4, some .int, 1711),
  (yX13_at, 5, some .int, 1707),
  (yX13_past, 5, some .int, 1715),
  (yX13_spans, 13, some .int, 1724),
  (yX13_sign, 6, some .int, 1732),
  (yX13_findTaught, 9, none, 1740),
  (yX13_taught, 3, some .int, 1736),
  (yX13_isHomeGrown, 5, some .boolean, 1772),
  (yX13_mostTerm, 1, some .int, 1747),
  (yX13_term, 4, some .int, 1744),
  (yX13_whyNot, 11, some .int, 1756),
  (yX13_why, 4, some .int, 1752),
  (yX13_up, 2, some .int, 1806),
  (yX13_addMove, 6, some .int, 1803),
  (yX13_addMoveSpan, 4, none, 1817),
  (yX13_rest, 6, some .long, 1813),
  (yX13_payShares, 9, none, 1810),
  (yX13_sale, 11, some .int, 1799),
  (yX13_sell, 4, some .int, 1795),
  (yX13_lend, 5, some .int, 1821),
  (yX13_option, 4, some .int, 1825),
  (yX13_isMove, 2, some .boolean, 1833),
  (yX13_ofMove, 3, some .int, 1829),
  (yX13_share, 3, some .int, 1837),
  (yX13_play, 5, some .int, 1841),
  (yX13_undo, 3, some .int, 1845),
  (yX13_findSquad, 4, none, 1768),
  (yX13_wagesOf, 4, some .int, 1776),
  (yX13_capOf, 6, some .int, 1780),
  (yX13_threeYears, 6, some .int, 1784),
  (yX13_squad, 3, some .int, 1849),
  (yX13_feed, 4, some .int, 1853),
  (yX13_look, 1, some .int, 1877),
  (yX13_wrong, 1, none, 1885),
  (yX13_lay, 3, none, 1889),
  (yX13_opens, 1, some .boolean, 1881),
  (yX13_closes, 2, none, 1893),
  (yX13_nameOf, 1, some .int, 1908),
  (yX13_operand, 3, none, 1905),
  (yX13_product, 2, none, 1901),
  (yX13_sum, 2, none, 1897),
  (yX13_base, 2, none, 1873),
  (yX13_all, 1, none, 1869),
  (yX13_either, 1, none, 1865),
  (yX13_readLine, 1, none, 1861),
  (yX13_rule, 3, some .int, 1857),
  (yX13_forceOf, 5, some .int, 1760),
  (yX13_inForce, 4, some .int, 1912),
  (yX13_both, 3, some .int, 1791),
  (yX13_worked, 7, some .int, 1788),
  (yX13_firstBroken, 9, some .int, 1764),
  (yX13_holds, 5, some .int, 1916),
  (yX13_tryCap, 5, some .int, 1920),
  (yX13_deal, 5, some .int, 1924),
  (yX13_canAll, 6, some .boolean, 1935),
  (yX13_bitsOf, 3, some .int, 1931),
  (yX13_chain, 6, some .int, 1928),
  (yX13_wish, 2, some .int, 1939),
  (yX13_ring, 6, none, 1947),
  (yX13_rings, 1, some .int, 1943),
  (yX13_gets, 2, some .int, 1951),
  (yX13_candidate, 3, some .int, 1955),
  (yX13_digitOf, 2, some .int, 1967),
  (yX13_fits, 10, some .boolean, 1964),
  (yX13_buys, 11, some .int, 1960),
  (yX13_claim, 3, some .int, 1971),
  (yX13_part, 13, some .int, 1975),
  (yX13_got, 2, some .int, 1979),
  (yX13_ran, 2, none, 1991),
  (yX13_plainPlays, 3, some .int, 1999),
  (yX13_personPlays, 3, some .int, 1995),
  (yX13_plays, 3, some .int, 1987),
  (yX13_plainPays, 3, some .int, 2011),
  (yX13_playerPays, 3, some .int, 2007),
  (yX13_clubPays, 3, some .int, 2015),
  (yX13_pays, 4, some .int, 2003),
  (yX13_plainSigns, 3, some .int, 2023),
  (yX13_clubSigns, 3, some .int, 2019),
  (yX13_signs, 4, some .int, 2027),
  (yX13_plainTells, 4, some .int, 2035),
  (yX13_tells, 4, some .int, 2031),
  (yX13_act, 4, some .int, 1983),
  (yX13_trace, 2, some .int, 2039),
  (yX13_isShelf, 1, some .boolean, 1727),
  (yX13_keep, 3, some .int, 2043),
  (yX13_row, 5, some .int, 2047),
  (yX13_whyNoPlace, 3, some .int, 2055),
  (yX13_put, 7, some .int, 2051),
  (yX13_element, 3, some .long, 2059),
  (yX13_shift, 7, some .int, 2064),
  (yX13_taken, 3, some .int, 2068),
  (yX13_count, 4, some .int, 2072),
  (yL_law, 4, some .boolean, 0),
  (yJ6_bitCount_0f7a4, 1, some .int, 1129),
  (yJ0_length_8abf5, 1, some .int, 715),
  (yJ0_indexOf_0f7a4, 2, some .int, 808),
  (yJ0_indexOf_7cf53, 3, some .int, 812),
  (yJ0_coder_7d493, 1, some .byte, 719),
  (yJ0_isLatin1_aae02, 1, some .boolean, 816),
  (yJ1_canEncode_9a6ad, 1, some .boolean, 823),
  (yJ1_indexOf_4cfef, 4, some .int, 820),
  (yJ1_indexOfChar_4cfef, 6, some .int, 828),
  (yJ2_indexOf_4cfef, 4, some .int, 831)]
def mm_dm : MethodName × Nat × Option FieldType × Nat := (yX0_init, 0, none, 0)
def mm_mn (i : Nat) : MethodName := (mm_md.getD i mm_dm).1
def mm_mc (i : Nat) : ByteArray := bif Nat.beq i 273 then code else mm_cOf (mm_md.getD i mm_dm).2.2.2
theorem mm_md_ok0 : ∀ i ∈ (List.range 40).map (· + 0), i = 273 ∨ mm_isC (mm_md.getD i mm_dm).2.2.2 (mm_md.getD i mm_dm).1 (mm_md.getD i mm_dm).2.1 (mm_md.getD i mm_dm).2.2.1 = true := by decide +kernel
theorem mm_md_ok1 : ∀ i ∈ (List.range 40).map (· + 40), i = 273 ∨ mm_isC (mm_md.getD i mm_dm).2.2.2 (mm_md.getD i mm_dm).1 (mm_md.getD i mm_dm).2.1 (mm_md.getD i mm_dm).2.2.1 = true := by decide +kernel
theorem mm_md_ok2 : ∀ i ∈ (List.range 40).map (· + 80), i = 273 ∨ mm_isC (mm_md.getD i mm_dm).2.2.2 (mm_md.getD i mm_dm).1 (mm_md.getD i mm_dm).2.1 (mm_md.getD i mm_dm).2.2.1 = true := by decide +kernel
theorem mm_md_ok3 : ∀ i ∈ (List.range 40).map (· + 120), i = 273 ∨ mm_isC (mm_md.getD i mm_dm).2.2.2 (mm_md.getD i mm_dm).1 (mm_md.getD i mm_dm).2.1 (mm_md.getD i mm_dm).2.2.1 = true := by decide +kernel
theorem mm_md_ok4 : ∀ i ∈ (List.range 40).map (· + 160), i = 273 ∨ mm_isC (mm_md.getD i mm_dm).2.2.2 (mm_md.getD i mm_dm).1 (mm_md.getD i mm_dm).2.1 (mm_md.getD i mm_dm).2.2.1 = true := by decide +kernel
theorem mm_md_ok5 : ∀ i ∈ (List.range 40).map (· + 200), i = 273 ∨ mm_isC (mm_md.getD i mm_dm).2.2.2 (mm_md.getD i mm_dm).1 (mm_md.getD i mm_dm).2.1 (mm_md.getD i mm_dm).2.2.1 = true := by decide +kernel
theorem mm_md_ok6 : ∀ i ∈ (List.range 40).map (· + 240), i = 273 ∨ mm_isC (mm_md.getD i mm_dm).2.2.2 (mm_md.getD i mm_dm).1 (mm_md.getD i mm_dm).2.1 (mm_md.getD i mm_dm).2.2.1 = true := by decide +kernel
theorem mm_md_ok7 : ∀ i ∈ (List.range 4).map (· + 280), i = 273 ∨ mm_isC (mm_md.getD i mm_dm).2.2.2 (mm_md.getD i mm_dm).1 (mm_md.getD i mm_dm).2.1 (mm_md.getD i mm_dm).2.2.1 = true := by decide +kernel
theorem mm_md_ok (i : Nat) (hi : i < 284) (hl : ¬ i = 273) : Jvm.Cond.code (mm_mn i) (mm_mc i) (mm_md.getD i mm_dm).2.1 (mm_md.getD i mm_dm).2.2.1 ∈ mm_T := by
  have h1 : mm_isC (mm_md.getD i mm_dm).2.2.2 (mm_md.getD i mm_dm).1 (mm_md.getD i mm_dm).2.1 (mm_md.getD i mm_dm).2.2.1 = true := by
    rcases Nat.lt_or_ge i 40 with h0 | h0
    · exact (mm_md_ok0 i (List.mem_map.mpr ⟨i - 0, List.mem_range.mpr (by omega), by show i - 0 + 0 = i; omega⟩)).resolve_left hl
    rcases Nat.lt_or_ge i 80 with h1 | h1
    · exact (mm_md_ok1 i (List.mem_map.mpr ⟨i - 40, List.mem_range.mpr (by omega), by show i - 40 + 40 = i; omega⟩)).resolve_left hl
    rcases Nat.lt_or_ge i 120 with h2 | h2
    · exact (mm_md_ok2 i (List.mem_map.mpr ⟨i - 80, List.mem_range.mpr (by omega), by show i - 80 + 80 = i; omega⟩)).resolve_left hl
    rcases Nat.lt_or_ge i 160 with h3 | h3
    · exact (mm_md_ok3 i (List.mem_map.mpr ⟨i - 120, List.mem_range.mpr (by omega), by show i - 120 + 120 = i; omega⟩)).resolve_left hl
    rcases Nat.lt_or_ge i 200 with h4 | h4
    · exact (mm_md_ok4 i (List.mem_map.mpr ⟨i - 160, List.mem_range.mpr (by omega), by show i - 160 + 160 = i; omega⟩)).resolve_left hl
    rcases Nat.lt_or_ge i 240 with h5 | h5
    · exact (mm_md_ok5 i (List.mem_map.mpr ⟨i - 200, List.mem_range.mpr (by omega), by show i - 200 + 200 = i; omega⟩)).resolve_left hl
    rcases Nat.lt_or_ge i 280 with h6 | h6
    · exact (mm_md_ok6 i (List.mem_map.mpr ⟨i - 240, List.mem_range.mpr (by omega), by show i - 240 + 240 = i; omega⟩)).resolve_left hl
    exact (mm_md_ok7 i (List.mem_map.mpr ⟨i - 280, List.mem_range.mpr (by omega), by show i - 280 + 280 = i; omega⟩)).resolve_left hl
  have h2 : Nat.beq i 273 = false := by
    cases hb : Nat.beq i 273
    · rfl
    · exact absurd (Nat.eq_of_beq_eq_true hb) hl
  unfold mm_mn mm_mc
  rw [h2]
  exact mm_mem (mm_isC_spec h1) rfl
/-- calls: class, pool place, method, kind (0 static, 1 virtual, 2 special; 3 to 5 the same of a nest mate), places of link, of the method's word, of selects, of its class -/
def mm_mlP (q : Nat × Nat × Nat × Nat × Nat × Nat × Nat × Nat) : Prop := (q.2.2.2.1 < 3 → lw_tbl[q.2.2.2.2.1]? = some (Jvm.Cond.methodLink (mm_on q.1) q.2.1 (mm_mn q.2.2.1))) ∧ ((q.2.2.2.1 = 0 ∨ q.2.2.2.1 = 3) → lw_tbl[q.2.2.2.2.2.1]? = some (Jvm.Cond.static (mm_mn q.2.2.1))) ∧ (¬ (q.2.2.2.1 = 0 ∨ q.2.2.2.1 = 3) → lw_tbl[q.2.2.2.2.2.1]? = some (Jvm.Cond.instanceMethod (mm_mn q.2.2.1))) ∧ ((q.2.2.2.1 = 1 ∨ q.2.2.2.1 = 4) → lw_tbl[q.2.2.2.2.2.2.1]? = some (Jvm.Cond.selects (mm_mn q.2.2.1).cls (mm_mn q.2.2.1) (mm_mn q.2.2.1))) ∧ lw_tbl[q.2.2.2.2.2.2.2]? = some (Jvm.Cond.initialized (mm_mn q.2.2.1).cls)
def mm_ml_0 : List (Nat × Nat × Nat × Nat × Nat × Nat × Nat × Nat) := [(0, 25, 2, 1, 1235, 1237, 48, 117), (0, 37, 1, 1, 1239, 1229, 47, 117), (2, 28, 15, 1, 1192, 1194, 45, 115), (2, 32, 274, 0, 1196, 1128, 0, 132), (2, 38, 16, 1, 1197, 1199, 46, 115), (3, 32, 141, 3, 1218, 983, 0, 111), (4, 32, 9, 1, 1126, 559, 560, 121), (4, 42, 274, 0, 1127, 1128, 0, 132), (4, 48, 23, 1, 1133, 1135, 40, 113), (4, 51, 24, 1, 1137, 1139, 41, 113), (4, 55, 25, 1, 1141, 1143, 42, 113), (5, 25, 113, 3, 443, 417, 0, 111), (6, 35, 113, 3, 1018, 417, 0, 111), (7, 32, 38, 1, 758, 760, 22, 112), (7, 39, 42, 1, 763, 765, 23, 112), (7, 49, 41, 1, 783, 785, 28, 112), (7, 62, 40, 1, 779, 781, 27, 112), (7, 66, 43, 1, 767, 769, 24, 112), (7, 69, 44, 1, 771, 773, 25, 112), (7, 72, 39, 1, 775, 777, 26, 112), (7, 75, 45, 1, 787, 789, 29, 112), (7, 79, 46, 1, 791, 793, 30, 112), (7, 82, 47, 1, 795, 797, 31, 112), (7, 85, 113, 3, 799, 417, 0, 111), (7, 89, 48, 1, 800, 802, 32, 112), (7, 94, 276, 1, 805, 806, 807, 124), (8, 23, 274, 0, 1161, 1128, 0, 132), (8, 29, 52, 1, 1162, 1164, 43, 114), (8, 39, 53, 1, 1167, 1169, 44, 114), (12, 45, 33, 5, 151, 152, 0, 112), (12, 52, 20, 5, 187, 188, 0, 113), (12, 59, 49, 5, 214, 215, 0, 114), (12, 66, 12, 5, 239, 240, 0, 115), (12, 73, 17, 5, 262, 263, 0, 116), (12, 80, 0, 5, 290, 291, 0, 117), (12, 91, 26, 5, 306, 307, 0, 118), (12, 92, 56, 5, 326, 327, 0, 119), (12, 93, 113, 0, 416, 417, 0, 111), (12, 104, 115, 1, 427, 429, 0, 111), (12, 108, 27, 1, 431, 432, 433, 118), (12, 115, 28, 1, 439, 440, 441, 118), (12, 119, 114, 0, 444, 445, 0, 111), (12, 126, 126, 1, 455, 457, 1, 111), (12, 140, 116, 1, 524, 526, 2, 111), (12, 157, 117, 1, 533, 535, 3, 111), (12, 164, 5, 1, 546, 547, 548, 121), (12, 168, 122, 1, 550, 552, 4, 111), (12, 172, 4, 1, 537, 538, 539, 121), (12, 175, 118, 1, 570, 572, 5, 111), (12, 178, 128, 0, 574, 575, 0, 111), (12, 184, 127, 1, 577, 579, 6, 111), (12, 189, 120, 1, 636, 638, 7, 111), (12, 196, 59, 1, 640, 641, 642, 119), (12, 199, 129, 1, 644, 646, 8, 111), (12, 207, 9, 1, 558, 559, 560, 121), (12, 216, 10, 1, 554, 555, 556, 121), (12, 222, 130, 1, 664, 666, 9, 111), (12, 232, 133, 1, 691, 693, 10, 111), (12, 236, 131, 0, 882, 883, 0, 111), (12, 240, 132, 1, 885, 887, 33, 111)]
theorem mm_ml_ok0 : ∀ q ∈ mm_ml_0, (q.2.2.2.1 < 3 → lw_tbl[q.2.2.2.2.1]? = some (Jvm.Cond.methodLink (mm_on q.1) q.2.1 (mm_mn q.2.2.1))) ∧ ((q.2.2.2.1 = 0 ∨ q.2.2.2.1 = 3) → lw_tbl[q.2.2.2.2.2.1]? = some (Jvm.Cond.static (mm_mn q.2.2.1))) ∧ (¬ (q.2.2.2.1 = 0 ∨ q.2.2.2.1 = 3) → lw_tbl[q.2.2.2.2.2.1]? = some (Jvm.Cond.instanceMethod (mm_mn q.2.2.1))) ∧ ((q.2.2.2.1 = 1 ∨ q.2.2.2.1 = 4) → lw_tbl[q.2.2.2.2.2.2.1]? = some (Jvm.Cond.selects (mm_mn q.2.2.1).cls (mm_mn q.2.2.1) (mm_mn q.2.2.1))) ∧ lw_tbl[q.2.2.2.2.2.2.2]? = some (Jvm.Cond.initialized (mm_mn q.2.2.1).cls) := by decide +kernel
def mm_ml_1 : List (Nat × Nat × Nat × Nat × Nat × Nat × Nat × Nat) := [(12, 243, 135, 1, 889, 891, 34, 111), (12, 246, 136, 1, 994, 996, 37, 111), (12, 250, 119, 1, 1002, 1004, 38, 111), (12, 297, 30, 1, 1014, 1015, 1016, 129), (12, 303, 31, 1, 1023, 1024, 1025, 129), (12, 314, 142, 1, 1031, 1033, 39, 111), (12, 321, 147, 1, 722, 724, 15, 111), (12, 325, 34, 1, 1045, 1046, 1047, 112), (12, 331, 143, 0, 1053, 1054, 0, 111), (12, 337, 36, 1, 1056, 1057, 1058, 112), (12, 341, 35, 1, 1061, 1062, 1063, 112), (12, 348, 54, 2, 1068, 1069, 0, 130), (12, 351, 144, 1, 703, 705, 13, 111), (12, 355, 145, 1, 699, 701, 12, 111), (12, 359, 146, 1, 707, 709, 14, 111), (12, 363, 55, 1, 1105, 1106, 1107, 130), (12, 373, 21, 1, 1114, 1115, 1116, 113), (12, 377, 22, 1, 1122, 1123, 1124, 113), (12, 381, 50, 1, 1149, 1150, 1151, 114), (12, 383, 51, 1, 1157, 1158, 1159, 114), (12, 393, 13, 1, 1180, 1181, 1182, 115), (12, 396, 14, 1, 1188, 1189, 1190, 115), (12, 399, 18, 1, 1205, 1206, 1207, 116), (12, 401, 19, 1, 1213, 1214, 1215, 116), (12, 413, 1, 4, 1227, 1229, 47, 117), (12, 426, 57, 1, 1248, 1249, 1250, 119), (12, 429, 58, 1, 1256, 1257, 1258, 119), (12, 433, 121, 1, 1264, 1266, 49, 111), (12, 440, 61, 1, 1268, 1269, 1270, 119), (12, 449, 60, 1, 648, 649, 650, 119), (12, 461, 6, 1, 1286, 1287, 1288, 121), (12, 464, 123, 1, 1295, 1297, 50, 111), (12, 467, 124, 1, 1299, 1301, 51, 111), (12, 470, 125, 1, 1303, 1305, 52, 111), (12, 473, 7, 1, 562, 563, 564, 121), (12, 476, 3, 2, 460, 461, 0, 121), (12, 478, 62, 2, 583, 584, 0, 122), (12, 481, 8, 1, 628, 629, 630, 121), (12, 485, 11, 1, 671, 672, 673, 121), (12, 491, 134, 1, 695, 697, 11, 111), (12, 496, 29, 2, 894, 895, 0, 129), (12, 515, 139, 0, 972, 973, 0, 111), (12, 519, 140, 1, 978, 980, 35, 111), (12, 522, 138, 0, 975, 976, 0, 111), (12, 525, 137, 1, 986, 988, 36, 111), (12, 535, 141, 0, 982, 983, 0, 111), (12, 550, 275, 1, 712, 713, 714, 124), (12, 563, 37, 1, 754, 755, 756, 112), (12, 567, 149, 1, 726, 728, 16, 111), (12, 571, 150, 1, 730, 732, 17, 111), (12, 575, 148, 1, 734, 736, 18, 111), (12, 578, 151, 1, 738, 740, 19, 111), (12, 581, 152, 1, 746, 748, 20, 111), (12, 584, 153, 1, 750, 752, 21, 111), (12, 587, 32, 1, 742, 743, 744, 129), (13, 242, 155, 0, 1609, 1610, 0, 120), (13, 252, 159, 0, 1620, 1621, 0, 120), (13, 256, 156, 0, 1623, 1624, 0, 120), (13, 259, 161, 1, 1630, 1632, 53, 120), (13, 266, 164, 1, 1656, 1658, 55, 120)]
theorem mm_ml_ok1 : ∀ q ∈ mm_ml_1, (q.2.2.2.1 < 3 → lw_tbl[q.2.2.2.2.1]? = some (Jvm.Cond.methodLink (mm_on q.1) q.2.1 (mm_mn q.2.2.1))) ∧ ((q.2.2.2.1 = 0 ∨ q.2.2.2.1 = 3) → lw_tbl[q.2.2.2.2.2.1]? = some (Jvm.Cond.static (mm_mn q.2.2.1))) ∧ (¬ (q.2.2.2.1 = 0 ∨ q.2.2.2.1 = 3) → lw_tbl[q.2.2.2.2.2.1]? = some (Jvm.Cond.instanceMethod (mm_mn q.2.2.1))) ∧ ((q.2.2.2.1 = 1 ∨ q.2.2.2.1 = 4) → lw_tbl[q.2.2.2.2.2.2.1]? = some (Jvm.Cond.selects (mm_mn q.2.2.1).cls (mm_mn q.2.2.1) (mm_mn q.2.2.1))) ∧ lw_tbl[q.2.2.2.2.2.2.2]? = some (Jvm.Cond.initialized (mm_mn q.2.2.1).cls) := by decide +kernel
def mm_ml_2 : List (Nat × Nat × Nat × Nat × Nat × Nat × Nat × Nat) := [(13, 269, 165, 0, 1668, 1669, 0, 120), (13, 272, 168, 1, 1642, 1644, 54, 120), (13, 278, 166, 1, 1664, 1666, 56, 120), (13, 282, 167, 1, 1676, 1678, 57, 120), (13, 285, 178, 1, 1680, 1682, 58, 120), (13, 289, 173, 1, 1688, 1690, 60, 120), (13, 292, 180, 1, 1692, 1694, 61, 120), (13, 295, 176, 1, 1700, 1702, 63, 120), (13, 302, 177, 1, 1684, 1686, 59, 120), (13, 305, 179, 1, 1696, 1698, 62, 120), (13, 308, 181, 1, 1708, 1710, 64, 120), (13, 311, 175, 1, 1716, 1718, 65, 120), (13, 315, 264, 0, 1725, 1726, 0, 120), (13, 320, 186, 1, 1737, 1739, 66, 120), (13, 325, 189, 0, 1745, 1746, 0, 120), (13, 328, 227, 1, 1757, 1759, 68, 120), (13, 332, 231, 1, 1761, 1763, 69, 120), (13, 336, 191, 1, 1753, 1755, 67, 120), (13, 343, 193, 0, 1804, 1805, 0, 120), (13, 346, 196, 0, 1811, 1812, 0, 120), (13, 350, 194, 1, 1800, 1802, 77, 120), (13, 353, 197, 1, 1807, 1809, 78, 120), (13, 356, 195, 1, 1814, 1816, 79, 120), (13, 360, 198, 1, 1796, 1798, 76, 120), (13, 364, 202, 1, 1830, 1832, 80, 120), (13, 376, 188, 1, 1769, 1771, 71, 120), (13, 379, 208, 1, 1773, 1775, 72, 120), (13, 382, 209, 1, 1777, 1779, 73, 120), (13, 385, 207, 1, 1765, 1767, 70, 120), (13, 389, 210, 1, 1781, 1783, 74, 120), (13, 411, 214, 1, 1882, 1884, 87, 120), (13, 414, 213, 1, 1874, 1876, 85, 120), (13, 418, 218, 0, 1906, 1907, 0, 120), (13, 421, 215, 1, 1886, 1888, 88, 120), (13, 424, 216, 1, 1878, 1880, 86, 120), (13, 428, 221, 1, 1894, 1896, 90, 120), (13, 431, 217, 1, 1890, 1892, 89, 120), (13, 434, 219, 1, 1902, 1904, 92, 120), (13, 437, 220, 1, 1898, 1900, 91, 120), (13, 440, 222, 1, 1870, 1872, 84, 120), (13, 443, 224, 1, 1862, 1864, 82, 120), (13, 446, 223, 1, 1866, 1868, 83, 120), (13, 452, 225, 1, 1858, 1860, 81, 120), (13, 455, 229, 0, 1789, 1790, 0, 120), (13, 458, 230, 1, 1785, 1787, 75, 120), (13, 464, 236, 0, 1929, 1930, 0, 120), (13, 467, 235, 1, 1932, 1934, 93, 120), (13, 476, 239, 1, 1944, 1946, 94, 120), (13, 484, 243, 0, 1965, 1966, 0, 120), (13, 487, 244, 1, 1961, 1963, 95, 120), (13, 497, 249, 1, 1988, 1990, 97, 120), (13, 500, 250, 1, 1996, 1998, 99, 120), (13, 503, 251, 1, 1992, 1994, 98, 120), (13, 506, 252, 1, 1984, 1986, 96, 120), (13, 509, 253, 1, 2008, 2010, 102, 120), (13, 512, 254, 1, 2004, 2006, 101, 120), (13, 515, 255, 1, 2012, 2014, 103, 120), (13, 518, 258, 1, 2016, 2018, 104, 120), (13, 521, 257, 1, 2020, 2022, 105, 120), (13, 524, 256, 1, 2000, 2002, 100, 120)]
theorem mm_ml_ok2 : ∀ q ∈ mm_ml_2, (q.2.2.2.1 < 3 → lw_tbl[q.2.2.2.2.1]? = some (Jvm.Cond.methodLink (mm_on q.1) q.2.1 (mm_mn q.2.2.1))) ∧ ((q.2.2.2.1 = 0 ∨ q.2.2.2.1 = 3) → lw_tbl[q.2.2.2.2.2.1]? = some (Jvm.Cond.static (mm_mn q.2.2.1))) ∧ (¬ (q.2.2.2.1 = 0 ∨ q.2.2.2.1 = 3) → lw_tbl[q.2.2.2.2.2.1]? = some (Jvm.Cond.instanceMethod (mm_mn q.2.2.1))) ∧ ((q.2.2.2.1 = 1 ∨ q.2.2.2.1 = 4) → lw_tbl[q.2.2.2.2.2.2.1]? = some (Jvm.Cond.selects (mm_mn q.2.2.1).cls (mm_mn q.2.2.1) (mm_mn q.2.2.1))) ∧ lw_tbl[q.2.2.2.2.2.2.2]? = some (Jvm.Cond.initialized (mm_mn q.2.2.1).cls) := by decide +kernel
def mm_ml_3 : List (Nat × Nat × Nat × Nat × Nat × Nat × Nat × Nat) := [(13, 527, 259, 1, 2024, 2026, 106, 120), (13, 530, 260, 1, 2032, 2034, 108, 120), (13, 533, 261, 1, 2028, 2030, 107, 120), (13, 536, 267, 1, 2052, 2054, 109, 120), (14, 9, 63, 2, 135, 136, 0, 111), (14, 12, 154, 2, 1309, 1310, 0, 120), (14, 13, 64, 1, 412, 413, 414, 111), (14, 17, 157, 1, 1605, 1606, 1607, 120), (14, 18, 65, 1, 419, 420, 421, 111), (14, 21, 158, 1, 1612, 1613, 1614, 120), (14, 22, 66, 1, 423, 424, 425, 111), (14, 26, 160, 1, 1616, 1617, 1618, 120), (14, 27, 67, 1, 435, 436, 437, 111), (14, 31, 162, 1, 1626, 1627, 1628, 120), (14, 32, 68, 1, 447, 448, 449, 111), (14, 35, 163, 1, 1634, 1635, 1636, 120), (14, 36, 69, 1, 451, 452, 453, 111), (14, 39, 169, 1, 1638, 1639, 1640, 120), (14, 40, 70, 1, 515, 516, 517, 111), (14, 43, 170, 1, 1646, 1647, 1648, 120), (14, 44, 71, 1, 520, 521, 522, 111), (14, 48, 171, 1, 1651, 1652, 1653, 120), (14, 49, 72, 1, 529, 530, 531, 111), (14, 52, 172, 1, 1660, 1661, 1662, 120), (14, 53, 73, 1, 541, 542, 543, 111), (14, 56, 174, 1, 1671, 1672, 1673, 120), (14, 57, 74, 1, 566, 567, 568, 111), (14, 60, 183, 1, 1712, 1713, 1714, 120), (14, 61, 75, 1, 632, 633, 634, 111), (14, 64, 184, 1, 1721, 1722, 1723, 120), (14, 65, 76, 1, 652, 653, 654, 111), (14, 68, 185, 1, 1729, 1730, 1731, 120), (14, 69, 77, 1, 656, 657, 658, 111), (14, 72, 182, 1, 1704, 1705, 1706, 120), (14, 73, 78, 1, 660, 661, 662, 111), (14, 76, 187, 1, 1733, 1734, 1735, 120), (14, 77, 79, 1, 679, 680, 681, 111), (14, 80, 190, 1, 1741, 1742, 1743, 120), (14, 81, 80, 1, 687, 688, 689, 111), (14, 84, 192, 1, 1749, 1750, 1751, 120), (14, 85, 81, 1, 878, 879, 880, 111), (14, 88, 199, 1, 1792, 1793, 1794, 120), (14, 89, 82, 1, 990, 991, 992, 111), (14, 92, 200, 1, 1818, 1819, 1820, 120), (14, 93, 83, 1, 998, 999, 1000, 111), (14, 96, 201, 1, 1822, 1823, 1824, 120), (14, 97, 84, 1, 1006, 1007, 1008, 111), (14, 100, 203, 1, 1826, 1827, 1828, 120), (14, 101, 85, 1, 1010, 1011, 1012, 111), (14, 104, 204, 1, 1834, 1835, 1836, 120), (14, 105, 86, 1, 1019, 1020, 1021, 111), (14, 108, 205, 1, 1838, 1839, 1840, 120), (14, 109, 87, 1, 1027, 1028, 1029, 111), (14, 112, 206, 1, 1842, 1843, 1844, 120), (14, 113, 88, 1, 1035, 1036, 1037, 111), (14, 116, 211, 1, 1846, 1847, 1848, 120), (14, 117, 89, 1, 1041, 1042, 1043, 111), (14, 120, 212, 1, 1850, 1851, 1852, 120), (14, 121, 90, 1, 1049, 1050, 1051, 111), (14, 124, 226, 1, 1854, 1855, 1856, 120)]
theorem mm_ml_ok3 : ∀ q ∈ mm_ml_3, (q.2.2.2.1 < 3 → lw_tbl[q.2.2.2.2.1]? = some (Jvm.Cond.methodLink (mm_on q.1) q.2.1 (mm_mn q.2.2.1))) ∧ ((q.2.2.2.1 = 0 ∨ q.2.2.2.1 = 3) → lw_tbl[q.2.2.2.2.2.1]? = some (Jvm.Cond.static (mm_mn q.2.2.1))) ∧ (¬ (q.2.2.2.1 = 0 ∨ q.2.2.2.1 = 3) → lw_tbl[q.2.2.2.2.2.1]? = some (Jvm.Cond.instanceMethod (mm_mn q.2.2.1))) ∧ ((q.2.2.2.1 = 1 ∨ q.2.2.2.1 = 4) → lw_tbl[q.2.2.2.2.2.2.1]? = some (Jvm.Cond.selects (mm_mn q.2.2.1).cls (mm_mn q.2.2.1) (mm_mn q.2.2.1))) ∧ lw_tbl[q.2.2.2.2.2.2.2]? = some (Jvm.Cond.initialized (mm_mn q.2.2.1).cls) := by decide +kernel
def mm_ml_4 : List (Nat × Nat × Nat × Nat × Nat × Nat × Nat × Nat) := [(14, 125, 91, 1, 1093, 1094, 1095, 111), (14, 128, 228, 1, 1909, 1910, 1911, 120), (14, 129, 92, 1, 1097, 1098, 1099, 111), (14, 132, 232, 1, 1913, 1914, 1915, 120), (14, 133, 93, 1, 1101, 1102, 1103, 111), (14, 136, 233, 1, 1917, 1918, 1919, 120), (14, 137, 94, 1, 1109, 1110, 1111, 111), (14, 140, 234, 1, 1921, 1922, 1923, 120), (14, 141, 95, 1, 1118, 1119, 1120, 111), (14, 145, 237, 1, 1925, 1926, 1927, 120), (14, 146, 96, 1, 1145, 1146, 1147, 111), (14, 149, 238, 1, 1936, 1937, 1938, 120), (14, 150, 97, 1, 1153, 1154, 1155, 111), (14, 153, 240, 1, 1940, 1941, 1942, 120), (14, 154, 98, 1, 1171, 1172, 1173, 111), (14, 157, 241, 1, 1948, 1949, 1950, 120), (14, 158, 99, 1, 1175, 1176, 1177, 111), (14, 161, 242, 1, 1952, 1953, 1954, 120), (14, 162, 100, 1, 1184, 1185, 1186, 111), (14, 165, 245, 1, 1957, 1958, 1959, 120), (14, 166, 101, 1, 1201, 1202, 1203, 111), (14, 169, 246, 1, 1968, 1969, 1970, 120), (14, 170, 102, 1, 1209, 1210, 1211, 111), (14, 173, 247, 1, 1972, 1973, 1974, 120), (14, 174, 103, 1, 1219, 1220, 1221, 111), (14, 177, 248, 1, 1976, 1977, 1978, 120), (14, 178, 104, 1, 1223, 1224, 1225, 111), (14, 181, 262, 1, 1980, 1981, 1982, 120), (14, 182, 105, 1, 1240, 1241, 1242, 111), (14, 185, 263, 1, 2036, 2037, 2038, 120), (14, 186, 106, 1, 1244, 1245, 1246, 111), (14, 189, 265, 1, 2040, 2041, 2042, 120), (14, 190, 107, 1, 1252, 1253, 1254, 111), (14, 193, 266, 1, 2044, 2045, 2046, 120), (14, 196, 108, 1, 1260, 1261, 1262, 111), (14, 200, 268, 1, 2048, 2049, 2050, 120), (14, 201, 109, 1, 1272, 1273, 1274, 111), (14, 205, 269, 1, 2056, 2057, 2058, 120), (14, 206, 110, 1, 1277, 1278, 1279, 111), (14, 210, 270, 1, 2061, 2062, 2063, 120), (14, 211, 111, 1, 1282, 1283, 1284, 111), (14, 214, 271, 1, 2065, 2066, 2067, 120), (14, 215, 112, 1, 1291, 1292, 1293, 111), (14, 218, 272, 1, 2069, 2070, 2071, 120), (16, 335, 278, 1, 716, 717, 718, 124), (16, 633, 277, 1, 809, 810, 811, 124), (16, 492, 279, 1, 813, 814, 815, 124), (16, 505, 275, 1, 817, 713, 714, 124), (16, 637, 281, 0, 818, 819, 0, 125), (16, 640, 283, 0, 829, 830, 0, 126), (17, 88, 280, 0, 821, 822, 0, 125), (17, 95, 282, 0, 826, 827, 0, 125)]
theorem mm_ml_ok4 : ∀ q ∈ mm_ml_4, (q.2.2.2.1 < 3 → lw_tbl[q.2.2.2.2.1]? = some (Jvm.Cond.methodLink (mm_on q.1) q.2.1 (mm_mn q.2.2.1))) ∧ ((q.2.2.2.1 = 0 ∨ q.2.2.2.1 = 3) → lw_tbl[q.2.2.2.2.2.1]? = some (Jvm.Cond.static (mm_mn q.2.2.1))) ∧ (¬ (q.2.2.2.1 = 0 ∨ q.2.2.2.1 = 3) → lw_tbl[q.2.2.2.2.2.1]? = some (Jvm.Cond.instanceMethod (mm_mn q.2.2.1))) ∧ ((q.2.2.2.1 = 1 ∨ q.2.2.2.1 = 4) → lw_tbl[q.2.2.2.2.2.2.1]? = some (Jvm.Cond.selects (mm_mn q.2.2.1).cls (mm_mn q.2.2.1) (mm_mn q.2.2.1))) ∧ lw_tbl[q.2.2.2.2.2.2.2]? = some (Jvm.Cond.initialized (mm_mn q.2.2.1).cls) := by decide +kernel
def mm_ml : List (Nat × Nat × Nat × Nat × Nat × Nat × Nat × Nat) := mm_ml_0 ++ (mm_ml_1 ++ (mm_ml_2 ++ (mm_ml_3 ++ (mm_ml_4))))
theorem mm_ml_ok : ∀ q ∈ mm_ml, mm_mlP q := List.forall_mem_append.mpr ⟨mm_ml_ok0, List.forall_mem_append.mpr ⟨mm_ml_ok1, List.forall_mem_append.mpr ⟨mm_ml_ok2, List.forall_mem_append.mpr ⟨mm_ml_ok3, mm_ml_ok4⟩⟩⟩⟩
def mm_lyj : List (List Nat) := [[298, 300], [488, 490, 492, 494, 496, 498, 500, 502, 504, 506, 508, 510, 512], [249, 251, 253, 255, 257], [275, 277, 279, 281, 283, 285], [199, 201, 203, 205, 207, 209], [316, 318, 320, 322], [931, 933, 935, 937, 939, 941, 943, 945, 947, 949, 951, 953, 955, 957, 959, 961, 963, 965, 967, 969], [166, 168, 170, 172, 174, 176, 178, 180], [226, 228, 230, 232, 234], [1082, 1084, 1086, 1088, 1090], [339, 341, 343, 345, 347], [609, 611, 613, 615, 617, 619, 621, 623, 625], [371, 373, 375, 377, 379, 381, 383, 385, 387, 389, 391, 393, 395, 397, 399, 401, 403, 405, 407, 409], [1409, 1411, 1413, 1415, 1417, 1419, 1421, 1423, 1425, 1427, 1429, 1431, 1433, 1435, 1437, 1439, 1441, 1443, 1445, 1447, 1449, 1451, 1453, 1455, 1457, 1459, 1461, 1463, 1465, 1467, 1469, 1471, 1473, 1475, 1477, 1479, 1481, 1483, 1485, 1487, 1489, 1491, 1493, 1495, 1497, 1499, 1501, 1503, 1505, 1507, 1509, 1511, 1513, 1515, 1517, 1519, 1521, 1523, 1525, 1527, 1529, 1531, 1533, 1535, 1537, 1539, 1541, 1543, 1545, 1547, 1549, 1551, 1553, 1555, 1557, 1559, 1561, 1563, 1565, 1567, 1569, 1571, 1573, 1575, 1577, 1579, 1581, 1583, 1585, 1587, 1589, 1591, 1593, 1595, 1597, 1599, 1601]]
def mm_lyT (ci : Nat) : u_T := match vwCl[ci]? with
  | some q => q.2.1
  | none => TX0
theorem mm_ly_ok0 : ∀ k, k < 2 → lw_tbl[(mm_lyj.getD 0 []).getD k 0]? = some (u_lay RX0 TX0 k) ∧ goodWord (u_lay RX0 TX0 k) = true := by decide +kernel
theorem mm_lay_0 : ∀ k, k < 2 → u_lay RX0 TX0 k ∈ mm_T := fun k h => mm_mem (mm_ly_ok0 k h).1 (mm_ly_ok0 k h).2
theorem mm_ly_ok1 : ∀ k, k < 13 → lw_tbl[(mm_lyj.getD 1 []).getD k 0]? = some (u_lay RX1 TX1 k) ∧ goodWord (u_lay RX1 TX1 k) = true := by decide +kernel
theorem mm_lay_1 : ∀ k, k < 13 → u_lay RX1 TX1 k ∈ mm_T := fun k h => mm_mem (mm_ly_ok1 k h).1 (mm_ly_ok1 k h).2
theorem mm_ly_ok2 : ∀ k, k < 5 → lw_tbl[(mm_lyj.getD 2 []).getD k 0]? = some (u_lay RX2 TX2 k) ∧ goodWord (u_lay RX2 TX2 k) = true := by decide +kernel
theorem mm_lay_2 : ∀ k, k < 5 → u_lay RX2 TX2 k ∈ mm_T := fun k h => mm_mem (mm_ly_ok2 k h).1 (mm_ly_ok2 k h).2
theorem mm_ly_ok3 : ∀ k, k < 6 → lw_tbl[(mm_lyj.getD 3 []).getD k 0]? = some (u_lay RX3 TX3 k) ∧ goodWord (u_lay RX3 TX3 k) = true := by decide +kernel
theorem mm_lay_3 : ∀ k, k < 6 → u_lay RX3 TX3 k ∈ mm_T := fun k h => mm_mem (mm_ly_ok3 k h).1 (mm_ly_ok3 k h).2
theorem mm_ly_ok4 : ∀ k, k < 6 → lw_tbl[(mm_lyj.getD 4 []).getD k 0]? = some (u_lay RX4 TX4 k) ∧ goodWord (u_lay RX4 TX4 k) = true := by decide +kernel
theorem mm_lay_4 : ∀ k, k < 6 → u_lay RX4 TX4 k ∈ mm_T := fun k h => mm_mem (mm_ly_ok4 k h).1 (mm_ly_ok4 k h).2
theorem mm_ly_ok5 : ∀ k, k < 4 → lw_tbl[(mm_lyj.getD 5 []).getD k 0]? = some (u_lay RX5 TX5 k) ∧ goodWord (u_lay RX5 TX5 k) = true := by decide +kernel
theorem mm_lay_5 : ∀ k, k < 4 → u_lay RX5 TX5 k ∈ mm_T := fun k h => mm_mem (mm_ly_ok5 k h).1 (mm_ly_ok5 k h).2
theorem mm_ly_ok6 : ∀ k, k < 20 → lw_tbl[(mm_lyj.getD 6 []).getD k 0]? = some (u_lay RX6 TX6 k) ∧ goodWord (u_lay RX6 TX6 k) = true := by decide +kernel
theorem mm_lay_6 : ∀ k, k < 20 → u_lay RX6 TX6 k ∈ mm_T := fun k h => mm_mem (mm_ly_ok6 k h).1 (mm_ly_ok6 k h).2
theorem mm_ly_ok7 : ∀ k, k < 8 → lw_tbl[(mm_lyj.getD 7 []).getD k 0]? = some (u_lay RX7 TX7 k) ∧ goodWord (u_lay RX7 TX7 k) = true := by decide +kernel
theorem mm_lay_7 : ∀ k, k < 8 → u_lay RX7 TX7 k ∈ mm_T := fun k h => mm_mem (mm_ly_ok7 k h).1 (mm_ly_ok7 k h).2
theorem mm_ly_ok8 : ∀ k, k < 5 → lw_tbl[(mm_lyj.getD 8 []).getD k 0]? = some (u_lay RX8 TX8 k) ∧ goodWord (u_lay RX8 TX8 k) = true := by decide +kernel
theorem mm_lay_8 : ∀ k, k < 5 → u_lay RX8 TX8 k ∈ mm_T := fun k h => mm_mem (mm_ly_ok8 k h).1 (mm_ly_ok8 k h).2
theorem mm_ly_ok9 : ∀ k, k < 5 → lw_tbl[(mm_lyj.getD 9 []).getD k 0]? = some (u_lay RX9 TX9 k) ∧ goodWord (u_lay RX9 TX9 k) = true := by decide +kernel
theorem mm_lay_9 : ∀ k, k < 5 → u_lay RX9 TX9 k ∈ mm_T := fun k h => mm_mem (mm_ly_ok9 k h).1 (mm_ly_ok9 k h).2
theorem mm_ly_ok10 : ∀ k, k < 5 → lw_tbl[(mm_lyj.getD 10 []).getD k 0]? = some (u_lay RX10 TX10 k) ∧ goodWord (u_lay RX10 TX10 k) = true := by decide +kernel
theorem mm_lay_10 : ∀ k, k < 5 → u_lay RX10 TX10 k ∈ mm_T := fun k h => mm_mem (mm_ly_ok10 k h).1 (mm_ly_ok10 k h).2
theorem mm_ly_ok11 : ∀ k, k < 9 → lw_tbl[(mm_lyj.getD 11 []).getD k 0]? = some (u_lay RX11 TX11 k) ∧ goodWord (u_lay RX11 TX11 k) = true := by decide +kernel
theorem mm_lay_11 : ∀ k, k < 9 → u_lay RX11 TX11 k ∈ mm_T := fun k h => mm_mem (mm_ly_ok11 k h).1 (mm_ly_ok11 k h).2
theorem mm_ly_ok12 : ∀ k, k < 20 → lw_tbl[(mm_lyj.getD 12 []).getD k 0]? = some (u_lay RX12 TX12 k) ∧ goodWord (u_lay RX12 TX12 k) = true := by decide +kernel
theorem mm_lay_12 : ∀ k, k < 20 → u_lay RX12 TX12 k ∈ mm_T := fun k h => mm_mem (mm_ly_ok12 k h).1 (mm_ly_ok12 k h).2
theorem mm_ly_ok13 : ∀ k, k < 97 → lw_tbl[(mm_lyj.getD 13 []).getD k 0]? = some (u_lay RX13 TX13 k) ∧ goodWord (u_lay RX13 TX13 k) = true := by decide +kernel
theorem mm_lay_13 : ∀ k, k < 97 → u_lay RX13 TX13 k ∈ mm_T := fun k h => mm_mem (mm_ly_ok13 k h).1 (mm_ly_ok13 k h).2
theorem mm_ex_max : ∀ q ∈ mm_ex, q.2.2.1 = 9001 → lw_tbl[q.2.2.2]? = some (Jvm.Cond.methodLink (mm_on q.1) q.2.1 Lib.Math.max.name) := by decide +kernel
theorem mm_ex_min : ∀ q ∈ mm_ex, q.2.2.1 = 9002 → lw_tbl[q.2.2.2]? = some (Jvm.Cond.methodLink (mm_on q.1) q.2.1 Lib.Math.min.name) := by decide +kernel
theorem mm_ex_cp : ∀ q ∈ mm_ex, q.2.2.1 = 9003 → lw_tbl[q.2.2.2]? = some (Jvm.Cond.methodLink (mm_on q.1) q.2.1 arraycopyName) := by decide +kernel
theorem mm_cp2 : lw_tbl[1067]? = some (Jvm.Cond.native arraycopyName) ∧ lw_tbl[1066]? = some (Jvm.Cond.static arraycopyName) ∧ lw_tbl[131]? = some (Jvm.Cond.initialized "java/lang/System") := by decide +kernel
theorem mm_max2 : lw_tbl[677]? = some (Jvm.Cond.static Lib.Math.max.name) := by decide +kernel
theorem mm_min2 : lw_tbl[669]? = some (Jvm.Cond.static Lib.Math.min.name) := by decide +kernel
theorem mm_max3 : lw_tbl[123]? = some (Jvm.Cond.initialized "java/lang/Math") := by decide +kernel
theorem mm_max4 : lw_tbl[678]? = some (Jvm.Cond.code Lib.Math.max.name Lib.Math.max.code 2 (some .int)) := by decide +kernel
theorem mm_min4 : lw_tbl[670]? = some (Jvm.Cond.code Lib.Math.min.name Lib.Math.min.code 2 (some .int)) := by decide +kernel
theorem mm_dft0 : ∀ k, k < 2 → defaultValue (tyX0 k) = (bif (match tyX0 k with | .object _ => true | .array _ => true | _ => false) then Value.null else .int 0) := by decide +kernel
theorem mm_dft1 : ∀ k, k < 13 → defaultValue (tyX1 k) = (bif (match tyX1 k with | .object _ => true | .array _ => true | _ => false) then Value.null else .int 0) := by decide +kernel
theorem mm_dft2 : ∀ k, k < 5 → defaultValue (tyX2 k) = (bif (match tyX2 k with | .object _ => true | .array _ => true | _ => false) then Value.null else .int 0) := by decide +kernel
theorem mm_dft3 : ∀ k, k < 6 → defaultValue (tyX3 k) = (bif (match tyX3 k with | .object _ => true | .array _ => true | _ => false) then Value.null else .int 0) := by decide +kernel
theorem mm_dft4 : ∀ k, k < 6 → defaultValue (tyX4 k) = (bif (match tyX4 k with | .object _ => true | .array _ => true | _ => false) then Value.null else .int 0) := by decide +kernel
theorem mm_dft5 : ∀ k, k < 4 → defaultValue (tyX5 k) = (bif (match tyX5 k with | .object _ => true | .array _ => true | _ => false) then Value.null else .int 0) := by decide +kernel
theorem mm_dft6 : ∀ k, k < 20 → defaultValue (tyX6 k) = (bif (match tyX6 k with | .object _ => true | .array _ => true | _ => false) then Value.null else .int 0) := by decide +kernel
theorem mm_dft7 : ∀ k, k < 8 → defaultValue (tyX7 k) = (bif (match tyX7 k with | .object _ => true | .array _ => true | _ => false) then Value.null else .int 0) := by decide +kernel
theorem mm_dft8 : ∀ k, k < 5 → defaultValue (tyX8 k) = (bif (match tyX8 k with | .object _ => true | .array _ => true | _ => false) then Value.null else .int 0) := by decide +kernel
theorem mm_dft9 : ∀ k, k < 5 → defaultValue (tyX9 k) = (bif (match tyX9 k with | .object _ => true | .array _ => true | _ => false) then Value.null else .int 0) := by decide +kernel
theorem mm_dft10 : ∀ k, k < 5 → defaultValue (tyX10 k) = (bif (match tyX10 k with | .object _ => true | .array _ => true | _ => false) then Value.null else .int 0) := by decide +kernel
theorem mm_dft11 : ∀ k, k < 9 → defaultValue (tyX11 k) = (bif (match tyX11 k with | .object _ => true | .array _ => true | _ => false) then Value.null else .int 0) := by decide +kernel
theorem mm_dft12 : ∀ k, k < 20 → defaultValue (tyX12 k) = (bif (match tyX12 k with | .object _ => true | .array _ => true | _ => false) then Value.null else .int 0) := by decide +kernel
theorem mm_dft13 : ∀ k, k < 97 → defaultValue (tyX13 k) = (bif (match tyX13 k with | .object _ => true | .array _ => true | _ => false) then Value.null else .int 0) := by decide +kernel
/-- of the methods: how many arguments (the receiver not counted), class number, is it a constructor -/
def mm_npl : List (Nat × Nat × Bool) := [(0, 0, true), (5, 0, false), (5, 0, false), (2, 1, true), (0, 1, false), (0, 1, false), (1, 1, false), (1, 1, false), (1, 1, false), (1, 1, false), (1, 1, false), (1, 1, false), (0, 2, true), (2, 2, false), (3, 2, false), (2, 2, false), (2, 2, false), (0, 3, true), (2, 3, false), (1, 3, false), (0, 4, true), (4, 4, false), (1, 4, false), (1, 4, false), (1, 4, false), (2, 4, false), (0, 5, true), (2, 5, false), (1, 5, false), (5, 6, true), (1, 6, false), (1, 6, false), (1, 6, false), (0, 7, true), (2, 7, false), (0, 7, false), (0, 7, false), (1, 7, false), (2, 7, false), (0, 7, false), (0, 7, false), (1, 7, false), (1, 7, false), (1, 7, false), (1, 7, false), (1, 7, false), (1, 7, false), (1, 7, false), (0, 7, false), (0, 8, true), (1, 8, false), (0, 8, false), (3, 8, false), (2, 8, false), (5, 9, true), (0, 9, false), (0, 10, true), (1, 10, false), (2, 10, false), (1, 10, false), (2, 10, false), (1, 10, false), (5, 11, true), (0, 12, true), (1, 12, false), (1, 12, false), (3, 12, false), (2, 12, false), (2, 12, false), (1, 12, false), (3, 12, false), (4, 12, false), (3, 12, false), (2, 12, false), (4, 12, false), (4, 12, false), (4, 12, false), (3, 12, false), (2, 12, false), (2, 12, false), (3, 12, false), (2, 12, false), (2, 12, false), (1, 12, false), (2, 12, false), (2, 12, false), (2, 12, false), (1, 12, false), (2, 12, false), (2, 12, false), (2, 12, false), (3, 12, false), (3, 12, false), (2, 12, false), (4, 12, false), (0, 12, false), (1, 12, false), (0, 12, false), (1, 12, false), (2, 12, false), (3, 12, false), (2, 12, false), (1, 12, false), (1, 12, false), (3, 12, false), (1, 12, false), (2, 12, false), (3, 12, false), (3, 12, false), (2, 12, false), (5, 12, false), (2, 12, false), (1, 12, false), (3, 12, false), (1, 12, false), (1, 12, false), (1, 12, false), (1, 12, false), (1, 12, false), (1, 12, false), (1, 12, false), (2, 12, false), (2, 12, false), (0, 12, false), (1, 12, false), (0, 12, false), (1, 12, false), (5, 12, false), (2, 12, false), (4, 12, false), (1, 12, false), (1, 12, false), (0, 12, false), (4, 12, false), (3, 12, false), (4, 12, false), (2, 12, false), (1, 12, false), (2, 12, false), (2, 12, false), (1, 12, false), (4, 12, false), (1, 12, false), (1, 12, false), (3, 12, false), (2, 12, false), (4, 12, false), (4, 12, false), (0, 12, false), (3, 12, false), (1, 12, false), (2, 12, false), (1, 12, false), (1, 12, false), (0, 13, true), (3, 13, false), (1, 13, false), (1, 13, false), (1, 13, false), (1, 13, false), (3, 13, false), (2, 13, false), (2, 13, false), (2, 13, false), (1, 13, false), (2, 13, false), (1, 13, false), (1, 13, false), (1, 13, false), (1, 13, false), (3, 13, false), (4, 13, false), (3, 13, false), (2, 13, false), (2, 13, false), (5, 13, false), (1, 13, false), (2, 13, false), (2, 13, false), (2, 13, false), (2, 13, false), (2, 13, false), (3, 13, false), (4, 13, false), (4, 13, false), (4, 13, false), (1, 13, false), (2, 13, false), (2, 13, false), (1, 13, false), (2, 13, false), (6, 13, false), (3, 13, false), (2, 13, false), (4, 13, false), (3, 13, false), (3, 13, false), (1, 13, false), (6, 13, false), (2, 13, false), (2, 13, false), (1, 13, false), (1, 13, false), (2, 13, false), (2, 13, false), (2, 13, false), (1, 13, false), (2, 13, false), (1, 13, false), (2, 13, false), (2, 13, false), (2, 13, false), (2, 13, false), (0, 13, false), (0, 13, false), (2, 13, false), (0, 13, false), (1, 13, false), (1, 13, false), (0, 13, false), (0, 13, false), (0, 13, false), (0, 13, false), (0, 13, false), (0, 13, false), (0, 13, false), (2, 13, false), (3, 13, false), (3, 13, false), (3, 13, false), (3, 13, false), (4, 13, false), (3, 13, false), (2, 13, false), (4, 13, false), (1, 13, false), (1, 13, false), (0, 13, false), (1, 13, false), (4, 13, false), (0, 13, false), (1, 13, false), (2, 13, false), (2, 13, false), (4, 13, false), (3, 13, false), (2, 13, false), (1, 13, false), (1, 13, false), (1, 13, false), (2, 13, false), (2, 13, false), (2, 13, false), (2, 13, false), (2, 13, false), (2, 13, false), (2, 13, false), (2, 13, false), (2, 13, false), (2, 13, false), (2, 13, false), (2, 13, false), (3, 13, false), (1, 13, false), (1, 13, false), (2, 13, false), (3, 13, false), (2, 13, false), (3, 13, false), (2, 13, false), (5, 13, false), (2, 13, false), (1, 13, false), (1, 14, false), (1, 15, false), (0, 16, false), (1, 16, false), (2, 16, false), (0, 16, false), (0, 16, false), (1, 17, false), (4, 17, false), (4, 17, false), (4, 18, false)]
def mm_np (i : Nat) : Nat := (mm_npl.getD i (0, 0, false)).1
def mm_mcl (i : Nat) : Nat := (mm_npl.getD i (0, 0, false)).2.1
def mm_ini (i : Nat) : Bool := (mm_npl.getD i (0, 0, false)).2.2
theorem mm_np_ok0 : ∀ i ∈ (List.range 28).map (· + 0), (parseMethodDescriptor (mm_mn i).desc).map (fun d => d.parameters.length) = some (mm_np i) ∧ (mm_mn i).cls = mm_on (mm_mcl i) ∧ plainName (mm_mn i).cls = true ∧ ((mm_mn i).cls ≠ "java/lang/invoke/MethodHandle" ∧ (mm_mn i).cls ≠ "java/lang/invoke/VarHandle") ∧ (mm_ini i = true → (mm_mn i).name = "<init>") := by decide +kernel
theorem mm_np_ok1 : ∀ i ∈ (List.range 28).map (· + 28), (parseMethodDescriptor (mm_mn i).desc).map (fun d => d.parameters.length) = some (mm_np i) ∧ (mm_mn i).cls = mm_on (mm_mcl i) ∧ plainName (mm_mn i).cls = true ∧ ((mm_mn i).cls ≠ "java/lang/invoke/MethodHandle" ∧ (mm_mn i).cls ≠ "java/lang/invoke/VarHandle") ∧ (mm_ini i = true → (mm_mn i).name = "<init>") := by decide +kernel
theorem mm_np_ok2 : ∀ i ∈ (List.range 28).map (· + 56), (parseMethodDescriptor (mm_mn i).desc).map (fun d => d.parameters.length) = some (mm_np i) ∧ (mm_mn i).cls = mm_on (mm_mcl i) ∧ plainName (mm_mn i).cls = true ∧ ((mm_mn i).cls ≠ "java/lang/invoke/MethodHandle" ∧ (mm_mn i).cls ≠ "java/lang/invoke/VarHandle") ∧ (mm_ini i = true → (mm_mn i).name = "<init>") := by decide +kernel
theorem mm_np_ok3 : ∀ i ∈ (List.range 28).map (· + 84), (parseMethodDescriptor (mm_mn i).desc).map (fun d => d.parameters.length) = some (mm_np i) ∧ (mm_mn i).cls = mm_on (mm_mcl i) ∧ plainName (mm_mn i).cls = true ∧ ((mm_mn i).cls ≠ "java/lang/invoke/MethodHandle" ∧ (mm_mn i).cls ≠ "java/lang/invoke/VarHandle") ∧ (mm_ini i = true → (mm_mn i).name = "<init>") := by decide +kernel
theorem mm_np_ok4 : ∀ i ∈ (List.range 28).map (· + 112), (parseMethodDescriptor (mm_mn i).desc).map (fun d => d.parameters.length) = some (mm_np i) ∧ (mm_mn i).cls = mm_on (mm_mcl i) ∧ plainName (mm_mn i).cls = true ∧ ((mm_mn i).cls ≠ "java/lang/invoke/MethodHandle" ∧ (mm_mn i).cls ≠ "java/lang/invoke/VarHandle") ∧ (mm_ini i = true → (mm_mn i).name = "<init>") := by decide +kernel
theorem mm_np_ok5 : ∀ i ∈ (List.range 28).map (· + 140), (parseMethodDescriptor (mm_mn i).desc).map (fun d => d.parameters.length) = some (mm_np i) ∧ (mm_mn i).cls = mm_on (mm_mcl i) ∧ plainName (mm_mn i).cls = true ∧ ((mm_mn i).cls ≠ "java/lang/invoke/MethodHandle" ∧ (mm_mn i).cls ≠ "java/lang/invoke/VarHandle") ∧ (mm_ini i = true → (mm_mn i).name = "<init>") := by decide +kernel
theorem mm_np_ok6 : ∀ i ∈ (List.range 28).map (· + 168), (parseMethodDescriptor (mm_mn i).desc).map (fun d => d.parameters.length) = some (mm_np i) ∧ (mm_mn i).cls = mm_on (mm_mcl i) ∧ plainName (mm_mn i).cls = true ∧ ((mm_mn i).cls ≠ "java/lang/invoke/MethodHandle" ∧ (mm_mn i).cls ≠ "java/lang/invoke/VarHandle") ∧ (mm_ini i = true → (mm_mn i).name = "<init>") := by decide +kernel
theorem mm_np_ok7 : ∀ i ∈ (List.range 28).map (· + 196), (parseMethodDescriptor (mm_mn i).desc).map (fun d => d.parameters.length) = some (mm_np i) ∧ (mm_mn i).cls = mm_on (mm_mcl i) ∧ plainName (mm_mn i).cls = true ∧ ((mm_mn i).cls ≠ "java/lang/invoke/MethodHandle" ∧ (mm_mn i).cls ≠ "java/lang/invoke/VarHandle") ∧ (mm_ini i = true → (mm_mn i).name = "<init>") := by decide +kernel
theorem mm_np_ok8 : ∀ i ∈ (List.range 28).map (· + 224), (parseMethodDescriptor (mm_mn i).desc).map (fun d => d.parameters.length) = some (mm_np i) ∧ (mm_mn i).cls = mm_on (mm_mcl i) ∧ plainName (mm_mn i).cls = true ∧ ((mm_mn i).cls ≠ "java/lang/invoke/MethodHandle" ∧ (mm_mn i).cls ≠ "java/lang/invoke/VarHandle") ∧ (mm_ini i = true → (mm_mn i).name = "<init>") := by decide +kernel
theorem mm_np_ok9 : ∀ i ∈ (List.range 28).map (· + 252), (parseMethodDescriptor (mm_mn i).desc).map (fun d => d.parameters.length) = some (mm_np i) ∧ (mm_mn i).cls = mm_on (mm_mcl i) ∧ plainName (mm_mn i).cls = true ∧ ((mm_mn i).cls ≠ "java/lang/invoke/MethodHandle" ∧ (mm_mn i).cls ≠ "java/lang/invoke/VarHandle") ∧ (mm_ini i = true → (mm_mn i).name = "<init>") := by decide +kernel
theorem mm_np_ok10 : ∀ i ∈ (List.range 4).map (· + 280), (parseMethodDescriptor (mm_mn i).desc).map (fun d => d.parameters.length) = some (mm_np i) ∧ (mm_mn i).cls = mm_on (mm_mcl i) ∧ plainName (mm_mn i).cls = true ∧ ((mm_mn i).cls ≠ "java/lang/invoke/MethodHandle" ∧ (mm_mn i).cls ≠ "java/lang/invoke/VarHandle") ∧ (mm_ini i = true → (mm_mn i).name = "<init>") := by decide +kernel
theorem mm_np_ok (i : Nat) (hi : i < 284) : (parseMethodDescriptor (mm_mn i).desc).map (fun d => d.parameters.length) = some (mm_np i) ∧ (mm_mn i).cls = mm_on (mm_mcl i) ∧ plainName (mm_mn i).cls = true ∧ ((mm_mn i).cls ≠ "java/lang/invoke/MethodHandle" ∧ (mm_mn i).cls ≠ "java/lang/invoke/VarHandle") ∧ (mm_ini i = true → (mm_mn i).name = "<init>") := by
  rcases Nat.lt_or_ge i 28 with h0 | h0
  · exact mm_np_ok0 i (List.mem_map.mpr ⟨i - 0, List.mem_range.mpr (by omega), by show i - 0 + 0 = i; omega⟩)
  rcases Nat.lt_or_ge i 56 with h1 | h1
  · exact mm_np_ok1 i (List.mem_map.mpr ⟨i - 28, List.mem_range.mpr (by omega), by show i - 28 + 28 = i; omega⟩)
  rcases Nat.lt_or_ge i 84 with h2 | h2
  · exact mm_np_ok2 i (List.mem_map.mpr ⟨i - 56, List.mem_range.mpr (by omega), by show i - 56 + 56 = i; omega⟩)
  rcases Nat.lt_or_ge i 112 with h3 | h3
  · exact mm_np_ok3 i (List.mem_map.mpr ⟨i - 84, List.mem_range.mpr (by omega), by show i - 84 + 84 = i; omega⟩)
  rcases Nat.lt_or_ge i 140 with h4 | h4
  · exact mm_np_ok4 i (List.mem_map.mpr ⟨i - 112, List.mem_range.mpr (by omega), by show i - 112 + 112 = i; omega⟩)
  rcases Nat.lt_or_ge i 168 with h5 | h5
  · exact mm_np_ok5 i (List.mem_map.mpr ⟨i - 140, List.mem_range.mpr (by omega), by show i - 140 + 140 = i; omega⟩)
  rcases Nat.lt_or_ge i 196 with h6 | h6
  · exact mm_np_ok6 i (List.mem_map.mpr ⟨i - 168, List.mem_range.mpr (by omega), by show i - 168 + 168 = i; omega⟩)
  rcases Nat.lt_or_ge i 224 with h7 | h7
  · exact mm_np_ok7 i (List.mem_map.mpr ⟨i - 196, List.mem_range.mpr (by omega), by show i - 196 + 196 = i; omega⟩)
  rcases Nat.lt_or_ge i 252 with h8 | h8
  · exact mm_np_ok8 i (List.mem_map.mpr ⟨i - 224, List.mem_range.mpr (by omega), by show i - 224 + 224 = i; omega⟩)
  rcases Nat.lt_or_ge i 280 with h9 | h9
  · exact mm_np_ok9 i (List.mem_map.mpr ⟨i - 252, List.mem_range.mpr (by omega), by show i - 252 + 252 = i; omega⟩)
  exact mm_np_ok10 i (List.mem_map.mpr ⟨i - 280, List.mem_range.mpr (by omega), by show i - 280 + 280 = i; omega⟩)
