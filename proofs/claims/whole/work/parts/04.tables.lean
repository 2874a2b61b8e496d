/-! the tables, held against lw_tbl by places -/
def gtb : List Cond := lw_tbl.filter goodWord
def isNest : Cond → Bool
  | .fieldLinkNest .. => true
  | .methodLinkNest .. => true
  | _ => false
def ntb : List Cond := lw_tbl.filter isNest
theorem gtb_in {w : Cond} {i : Nat} (h : lw_tbl[i]? = some w) (g : goodWord w = true) : w ∈ gtb := List.mem_filter.mpr ⟨List.mem_of_getElem? h, g⟩
theorem ntb_in {w : Cond} {i : Nat} (h : lw_tbl[i]? = some w) (g : isNest w = true) : w ∈ ntb := List.mem_filter.mpr ⟨List.mem_of_getElem? h, g⟩
theorem gtb_good {w : Cond} (h : w ∈ gtb) : (w.onTables && w.keeps) = true ∨ ∃ ty, w = .arrayClass ty := good_of_word (List.mem_filter.mp h).2
def MP_0 : List (Nat × Nat × Nat × Nat) := [(115, 90, 114, 0), (120, 90, 118, 119), (403, 90, 401, 402), (431, 90, 429, 430), (462, 90, 460, 461), (427, 90, 425, 426), (435, 90, 433, 434), (443, 90, 441, 442), (450, 90, 448, 449), (458, 90, 456, 457), (466, 90, 464, 465), (486, 90, 484, 485), (490, 90, 488, 489), (475, 90, 473, 474), (934, 90, 932, 933), (939, 90, 937, 938), (516, 90, 514, 515), (520, 90, 519, 10), (526, 90, 525, 0), (900, 90, 898, 899), (201, 92, 200, 0), (548, 92, 546, 547), (552, 92, 551, 11), (557, 92, 556, 12), (566, 92, 564, 565), (611, 92, 609, 610), (596, 92, 595, 14), (620, 92, 618, 619), (574, 92, 572, 573), (600, 92, 599, 15), (578, 92, 576, 577), (583, 92, 582, 13), (591, 92, 589, 590), (878, 102, 877, 0), (881, 102, 880, 0), (884, 102, 883, 0), (887, 102, 886, 0), (301, 96, 300, 0), (841, 96, 839, 840), (844, 96, 843, 0)]
def MP_1 : List (Nat × Nat × Nat × Nat) := [(853, 96, 851, 852), (857, 96, 856, 36), (863, 96, 861, 862), (867, 96, 865, 866), (871, 96, 870, 37), (288, 95, 287, 0), (782, 95, 781, 0), (786, 95, 785, 0), (779, 95, 777, 778), (815, 95, 813, 814), (823, 95, 821, 822), (828, 95, 827, 35), (798, 95, 796, 797), (807, 95, 805, 806), (251, 94, 250, 0), (704, 94, 702, 703), (761, 94, 759, 760), (718, 94, 717, 26), (726, 94, 725, 28), (714, 94, 713, 25), (722, 94, 721, 27), (710, 94, 709, 24), (730, 94, 729, 29), (734, 94, 733, 30), (738, 94, 737, 31), (742, 94, 741, 32), (746, 94, 745, 33), (749, 94, 748, 0), (753, 94, 752, 34), (182, 91, 181, 0), (377, 91, 375, 376), (381, 91, 379, 380), (389, 91, 387, 388), (393, 91, 392, 1), (396, 91, 395, 0), (399, 91, 398, 0), (414, 91, 413, 3), (410, 91, 409, 2), (418, 91, 417, 4), (423, 91, 422, 5)]
def MP_2 : List (Nat × Nat × Nat × Nat) := [(439, 91, 438, 6), (454, 91, 453, 7), (470, 91, 469, 8), (482, 91, 481, 9), (317, 97, 316, 0), (909, 97, 907, 908), (913, 97, 912, 38), (223, 93, 222, 0), (632, 93, 630, 631), (668, 93, 666, 667), (692, 93, 690, 691), (695, 93, 694, 0), (636, 93, 635, 17), (640, 93, 639, 18), (647, 93, 646, 19), (651, 93, 650, 20), (655, 93, 654, 21), (660, 93, 659, 22), (675, 93, 674, 23), (671, 93, 670, 0), (107, 89, 106, 0), (369, 89, 367, 368), (385, 89, 383, 384), (494, 89, 492, 493), (499, 89, 497, 498), (505, 89, 503, 504), (511, 89, 509, 510), (530, 89, 528, 529), (536, 89, 534, 535), (540, 89, 538, 539), (544, 89, 542, 543), (562, 89, 560, 561), (570, 89, 568, 569), (587, 89, 585, 586), (607, 89, 605, 606), (616, 89, 614, 615), (624, 89, 622, 623), (664, 89, 662, 663), (687, 89, 685, 686), (699, 89, 697, 698)]
def MP_3 : List (Nat × Nat × Nat × Nat) := [(757, 89, 755, 756), (765, 89, 763, 764), (771, 89, 769, 770), (775, 89, 773, 774), (790, 89, 788, 789), (794, 89, 792, 793), (803, 89, 801, 802), (811, 89, 809, 810), (819, 89, 817, 818), (832, 89, 830, 831), (837, 89, 835, 836), (849, 89, 847, 848), (875, 89, 873, 874), (892, 89, 890, 891), (896, 89, 894, 895), (905, 89, 903, 904), (921, 89, 919, 920), (926, 89, 924, 925), (930, 89, 928, 929), (373, 89, 372, 0), (628, 89, 627, 16), (446, 89, 445, 0), (478, 89, 477, 0), (944, 98, 943, 0), (1126, 98, 1125, 0), (949, 98, 948, 39), (1105, 98, 1104, 40), (1144, 98, 1143, 47), (1152, 98, 1151, 49), (1183, 98, 1182, 0), (1485, 98, 1484, 0), (1199, 98, 1198, 0), (1196, 98, 1195, 53), (1156, 98, 1155, 50), (1101, 98, 1099, 1100), (1117, 98, 1116, 42), (1121, 98, 1120, 43), (1113, 98, 1112, 41), (1148, 98, 1147, 48), (1164, 98, 1163, 52)]
def MP_4 : List (Nat × Nat × Nat × Nat) := [(1160, 98, 1159, 51), (1138, 98, 1137, 46), (1109, 98, 1107, 1108), (1134, 98, 1133, 45), (1130, 98, 1129, 44), (1168, 98, 1166, 1167), (1172, 98, 1170, 1171), (1176, 98, 1174, 1175), (1180, 98, 1178, 1179), (1187, 98, 1185, 1186), (1192, 98, 1190, 1191), (1203, 98, 1201, 1202), (1207, 98, 1205, 1206), (1211, 98, 1209, 1210), (1223, 98, 1222, 55), (1219, 98, 1218, 54), (1235, 98, 1234, 57), (1231, 98, 1230, 56), (1215, 98, 1213, 1214), (1227, 98, 1225, 1226), (1239, 98, 1237, 1238), (1243, 98, 1241, 1242), (1255, 98, 1254, 59), (1259, 98, 1258, 60), (1263, 98, 1262, 61), (1251, 98, 1250, 58), (1267, 98, 1266, 62), (1247, 98, 1245, 1246), (1271, 98, 1269, 1270), (1298, 98, 1297, 0), (1295, 98, 1294, 66), (1313, 98, 1312, 69), (1287, 98, 1286, 65), (1283, 98, 1282, 64), (1322, 98, 1321, 71), (1317, 98, 1316, 70), (1309, 98, 1308, 68), (1302, 98, 1301, 67), (1305, 98, 1304, 0), (1279, 98, 1278, 63)]
def MP_5 : List (Nat × Nat × Nat × Nat) := [(1275, 98, 1273, 1274), (1291, 98, 1289, 1290), (1330, 98, 1329, 0), (1326, 98, 1324, 1325), (1350, 98, 1349, 75), (1346, 98, 1345, 74), (1342, 98, 1341, 73), (1354, 98, 1353, 76), (1358, 98, 1357, 77), (1366, 98, 1365, 79), (1374, 98, 1373, 81), (1370, 98, 1369, 80), (1362, 98, 1361, 78), (1338, 98, 1337, 72), (1334, 98, 1332, 1333), (1378, 98, 1376, 1377), (1382, 98, 1380, 1381), (1386, 98, 1384, 1385), (1402, 98, 1401, 84), (1398, 98, 1397, 83), (1405, 98, 1404, 0), (1394, 98, 1393, 82), (1390, 98, 1388, 1389), (1409, 98, 1407, 1408), (1413, 98, 1411, 1412), (1417, 98, 1415, 1416), (1421, 98, 1419, 1420), (1425, 98, 1423, 1424), (1433, 98, 1432, 85), (1429, 98, 1427, 1428), (1441, 98, 1440, 86), (1437, 98, 1435, 1436), (1449, 98, 1448, 87), (1445, 98, 1443, 1444), (1457, 98, 1456, 0), (1460, 98, 1459, 0), (1463, 98, 1462, 0), (1453, 98, 1451, 1452), (1467, 98, 1465, 1466), (1471, 98, 1469, 1470)]
def MP_6 : List (Nat × Nat × Nat × Nat) := [(1475, 98, 1473, 1474), (1482, 98, 1480, 1481), (680, 101, 679, 0), (0, 0, 0, 0)]
def MPL : List (Nat × Nat × Nat × Nat) := MP_0 ++ (MP_1 ++ (MP_2 ++ (MP_3 ++ (MP_4 ++ (MP_5 ++ (MP_6))))))
def lawI : Nat := 243
def isIni (e : ME) : Bool := decide (e.y.name = "<init>")
def mOK (e : ME) (q : Nat × Nat × Nat × Nat) : Bool :=
  (decide (lw_tbl[q.2.1]? = some (.initialized e.y.cls)) &&
  ((if e.st then decide (lw_tbl[q.2.2.1]? = some (.static e.y)) else decide (lw_tbl[q.2.2.1]? = some (.instanceMethod e.y)) && (e.lg || decide (lw_tbl[q.2.2.2]? = some (.selects e.y.cls e.y e.y)))) &&
  (decide (e.y.cls ≠ "java/lang/invoke/MethodHandle") && (decide (e.y.cls ≠ "java/lang/invoke/VarHandle") && (decide ((parseMethodDescriptor e.y.desc).map (fun d => d.parameters.length) = some e.na) &&
  (plainName e.y.cls && (decide (e.y.cls = clN e.c) && (decide (e.ml ≤ 40) && (e.st || (match vwCl[e.ci]? with
    | some r => decide (r.1 = e.y.cls)
    | none => false))))))))))
def mOKs : Nat → List (ME × Nat × Nat × Nat × Nat) → Bool
  | _, [] => true
  | i, p :: r => (decide (i = lawI) || mOK p.1 p.2) && mOKs (i + 1) r
set_option maxRecDepth 100000 in
theorem cw_0 : lw_tbl[115]? = some (.code yX0_init cX0_init 1 none) := rfl
set_option maxRecDepth 100000 in
theorem cw_1 : lw_tbl[120]? = some (.code yX0_begin cX0_begin 3 none) := rfl
set_option maxRecDepth 100000 in
theorem cw_2 : lw_tbl[403]? = some (.code yX0_takeFrom cX0_takeFrom 2 none) := rfl
set_option maxRecDepth 100000 in
theorem cw_3 : lw_tbl[431]? = some (.code yX0_isStone cX0_isStone 2 (some .boolean)) := rfl
set_option maxRecDepth 100000 in
theorem cw_4 : lw_tbl[462]? = some (.code yX0_areTwo cX0_areTwo 3 (some .boolean)) := rfl
set_option maxRecDepth 100000 in
theorem cw_5 : lw_tbl[427]? = some (.code yX0_refusalOfWeight cX0_refusalOfWeight 3 (some .int)) := rfl
set_option maxRecDepth 100000 in
theorem cw_6 : lw_tbl[435]? = some (.code yX0_changeWeight cX0_changeWeight 4 (some .int)) := rfl
set_option maxRecDepth 100000 in
theorem cw_7 : lw_tbl[443]? = some (.code yX0_refusalOfScale cX0_refusalOfScale 3 (some .int)) := rfl
set_option maxRecDepth 100000 in
theorem cw_8 : lw_tbl[450]? = some (.code yX0_changeScale cX0_changeScale 4 (some .int)) := rfl
set_option maxRecDepth 100000 in
theorem cw_9 : lw_tbl[458]? = some (.code yX0_refusalOfWeighing cX0_refusalOfWeighing 3 (some .int)) := rfl
set_option maxRecDepth 100000 in
theorem cw_10 : lw_tbl[466]? = some (.code yX0_write cX0_write 4 none) := rfl
set_option maxRecDepth 100000 in
theorem cw_11 : lw_tbl[486]? = some (.code yX0_refusalOfComparison cX0_refusalOfComparison 3 (some .int)) := rfl
set_option maxRecDepth 100000 in
theorem cw_12 : lw_tbl[490]? = some (.code yX0_addComparison cX0_addComparison 3 (some .int)) := rfl
set_option maxRecDepth 100000 in
theorem cw_13 : lw_tbl[475]? = some (.code yX0_turnLiking cX0_turnLiking 4 (some .int)) := rfl
set_option maxRecDepth 100000 in
theorem cw_14 : lw_tbl[934]? = some (.code yX0_allLikings cX0_allLikings 3 (some .int)) := rfl
set_option maxRecDepth 100000 in
theorem cw_15 : lw_tbl[939]? = some (.code yX0_allWeights cX0_allWeights 3 (some .int)) := rfl
set_option maxRecDepth 100000 in
theorem cw_16 : lw_tbl[516]? = some (.code yX0_answer cX0_answer 6 (some .int)) := rfl
set_option maxRecDepth 100000 in
theorem cw_17 : lw_tbl[520]? = some (.code yX0_byWeights cX0_byWeights 5 (some .int)) := rfl
set_option maxRecDepth 100000 in
theorem cw_18 : lw_tbl[526]? = some (.code yX0_otherWay cX0_otherWay 1 (some .int)) := rfl
set_option maxRecDepth 100000 in
theorem cw_19 : lw_tbl[900]? = some (.code yX0_firstWrong cX0_firstWrong 6 (some .int)) := rfl
set_option maxRecDepth 100000 in
theorem cw_20 : lw_tbl[201]? = some (.code yX1_init cX1_init 1 none) := rfl
set_option maxRecDepth 100000 in
theorem cw_21 : lw_tbl[548]? = some (.code yX1_learn cX1_learn 2 none) := rfl
set_option maxRecDepth 100000 in
theorem cw_22 : lw_tbl[552]? = some (.code yX1_learnTurned cX1_learnTurned 5 none) := rfl
set_option maxRecDepth 100000 in
theorem cw_23 : lw_tbl[557]? = some (.code yX1_follow cX1_follow 3 none) := rfl
set_option maxRecDepth 100000 in
theorem cw_24 : lw_tbl[566]? = some (.code yX1_ringedStones cX1_ringedStones 3 (some .int)) := rfl
set_option maxRecDepth 100000 in
theorem cw_25 : lw_tbl[611]? = some (.code yX1_liesOf cX1_liesOf 4 (some .int)) := rfl
set_option maxRecDepth 100000 in
theorem cw_26 : lw_tbl[596]? = some (.code yX1_isOpen cX1_isOpen 3 (some .boolean)) := rfl
set_option maxRecDepth 100000 in
theorem cw_27 : lw_tbl[620]? = some (.code yX1_openPairs cX1_openPairs 4 (some .int)) := rfl
set_option maxRecDepth 100000 in
theorem cw_28 : lw_tbl[574]? = some (.code yX1_allOrders cX1_allOrders 5 (some .int)) := rfl
set_option maxRecDepth 100000 in
theorem cw_29 : lw_tbl[600]? = some (.code yX1_ordersWithAhead cX1_ordersWithAhead 5 (some .int)) := rfl
set_option maxRecDepth 100000 in
theorem cw_30 : lw_tbl[578]? = some (.code yX1_stoneOfFirst cX1_stoneOfFirst 5 (some .int)) := rfl
set_option maxRecDepth 100000 in
theorem cw_31 : lw_tbl[583]? = some (.code yX1_leastFree cX1_leastFree 3 (some .int)) := rfl
set_option maxRecDepth 100000 in
theorem cw_32 : lw_tbl[591]? = some (.code yX1_halving cX1_halving 9 (some .int)) := rfl
set_option maxRecDepth 100000 in
theorem cw_33 : lw_tbl[878]? = some (.code yX2_bound cX2_bound 2 (some .int)) := rfl
set_option maxRecDepth 100000 in
theorem cw_34 : lw_tbl[881]? = some (.code yX2_halvings cX2_halvings 3 (some .int)) := rfl
set_option maxRecDepth 100000 in
theorem cw_35 : lw_tbl[884]? = some (.code yX2_byInsert cX2_byInsert 3 (some .int)) := rfl
set_option maxRecDepth 100000 in
theorem cw_36 : lw_tbl[887]? = some (.code yX2_byOrders cX2_byOrders 6 (some .int)) := rfl
set_option maxRecDepth 100000 in
theorem cw_37 : lw_tbl[301]? = some (.code yX3_init cX3_init 1 none) := rfl
set_option maxRecDepth 100000 in
theorem cw_38 : lw_tbl[841]? = some (.code yX3_ringsOfThree cX3_ringsOfThree 6 (some .int)) := rfl
set_option maxRecDepth 100000 in
theorem cw_39 : lw_tbl[844]? = some (.code yX3_isRing cX3_isRing 4 (some .boolean)) := rfl
set_option maxRecDepth 100000 in
theorem cw_40 : lw_tbl[853]? = some (.code yX3_reckon cX3_reckon 5 none) := rfl
set_option maxRecDepth 100000 in
theorem cw_41 : lw_tbl[857]? = some (.code yX3_turnedWith cX3_turnedWith 3 (some .int)) := rfl
set_option maxRecDepth 100000 in
theorem cw_42 : lw_tbl[863]? = some (.code yX3_fewestTurned cX3_fewestTurned 1 (some .int)) := rfl
set_option maxRecDepth 100000 in
theorem cw_43 : lw_tbl[867]? = some (.code yX3_stoneOfFirst cX3_stoneOfFirst 5 (some .int)) := rfl
set_option maxRecDepth 100000 in
theorem cw_44 : lw_tbl[871]? = some (.code yX3_leastBest cX3_leastBest 3 (some .int)) := rfl
set_option maxRecDepth 100000 in
theorem cw_45 : lw_tbl[288]? = some (.code yX4_init cX4_init 1 none) := rfl
set_option maxRecDepth 100000 in
theorem cw_46 : lw_tbl[782]? = some (.code yX4_compared cX4_compared 4 (some .int)) := rfl
set_option maxRecDepth 100000 in
theorem cw_47 : lw_tbl[786]? = some (.code yX4_isInOrder cX4_isInOrder 1 (some .boolean)) := rfl
set_option maxRecDepth 100000 in
theorem cw_48 : lw_tbl[779]? = some (.code yX4_unsortedRows cX4_unsortedRows 6 (some .int)) := rfl
set_option maxRecDepth 100000 in
theorem cw_49 : lw_tbl[815]? = some (.code yX4_idleOnes cX4_idleOnes 7 (some .int)) := rfl
set_option maxRecDepth 100000 in
theorem cw_50 : lw_tbl[823]? = some (.code yX4_mendingOne cX4_mendingOne 7 (some .int)) := rfl
set_option maxRecDepth 100000 in
theorem cw_51 : lw_tbl[828]? = some (.code yX4_unsortedWith cX4_unsortedWith 6 (some .int)) := rfl
set_option maxRecDepth 100000 in
theorem cw_52 : lw_tbl[798]? = some (.code yX4_fewestRounds cX4_fewestRounds 7 (some .int)) := rfl
set_option maxRecDepth 100000 in
theorem cw_53 : lw_tbl[807]? = some (.code yX4_stoneBehind cX4_stoneBehind 6 (some .int)) := rfl
set_option maxRecDepth 100000 in
theorem cw_54 : lw_tbl[251]? = some (.code yX5_init cX5_init 1 none) := rfl
set_option maxRecDepth 100000 in
theorem cw_55 : lw_tbl[704]? = some (.code yX5_carryOut cX5_carryOut 5 (some .int)) := rfl
set_option maxRecDepth 100000 in
theorem cw_56 : lw_tbl[761]? = some (.code yX5_stoneAt cX5_stoneAt 2 (some .int)) := rfl
set_option maxRecDepth 100000 in
theorem cw_57 : lw_tbl[718]? = some (.code yX5_isHeavier cX5_isHeavier 3 (some .boolean)) := rfl
set_option maxRecDepth 100000 in
theorem cw_58 : lw_tbl[726]? = some (.code yX5_tellTwo cX5_tellTwo 3 none) := rfl
set_option maxRecDepth 100000 in
theorem cw_59 : lw_tbl[714]? = some (.code yX5_heaviestOf cX5_heaviestOf 5 (some .int)) := rfl
set_option maxRecDepth 100000 in
theorem cw_60 : lw_tbl[722]? = some (.code yX5_lightestOf cX5_lightestOf 5 (some .int)) := rfl
set_option maxRecDepth 100000 in
theorem cw_61 : lw_tbl[710]? = some (.code yX5_bothOneBehindTheOther cX5_bothOneBehindTheOther 4 none) := rfl
set_option maxRecDepth 100000 in
theorem cw_62 : lw_tbl[730]? = some (.code yX5_bothByTwos cX5_bothByTwos 4 none) := rfl
set_option maxRecDepth 100000 in
theorem cw_63 : lw_tbl[734]? = some (.code yX5_cup cX5_cup 4 none) := rfl
set_option maxRecDepth 100000 in
theorem cw_64 : lw_tbl[738]? = some (.code yX5_playRound cX5_playRound 6 (some .int)) := rfl
set_option maxRecDepth 100000 in
theorem cw_65 : lw_tbl[742]? = some (.code yX5_insert cX5_insert 7 none) := rfl
set_option maxRecDepth 100000 in
theorem cw_66 : lw_tbl[746]? = some (.code yX5_placeFor cX5_placeFor 8 (some .int)) := rfl
set_option maxRecDepth 100000 in
theorem cw_67 : lw_tbl[749]? = some (.code yX5_merge cX5_merge 7 none) := rfl
set_option maxRecDepth 100000 in
theorem cw_68 : lw_tbl[753]? = some (.code yX5_join cX5_join 8 none) := rfl
set_option maxRecDepth 100000 in
theorem cw_69 : lw_tbl[182]? = some (.code yX6_init cX6_init 1 none) := rfl
set_option maxRecDepth 100000 in
theorem cw_70 : lw_tbl[377]? = some (.code yX6_isFull cX6_isFull 1 (some .boolean)) := rfl
set_option maxRecDepth 100000 in
theorem cw_71 : lw_tbl[381]? = some (.code yX6_take cX6_take 2 (some .int)) := rfl
set_option maxRecDepth 100000 in
theorem cw_72 : lw_tbl[389]? = some (.code yX6_read cX6_read 7 (some .int)) := rfl
set_option maxRecDepth 100000 in
theorem cw_73 : lw_tbl[393]? = some (.code yX6_faultOfForm cX6_faultOfForm 7 (some .int)) := rfl
set_option maxRecDepth 100000 in
theorem cw_74 : lw_tbl[396]? = some (.code yX6_mostDigits cX6_mostDigits 1 (some .int)) := rfl
set_option maxRecDepth 100000 in
theorem cw_75 : lw_tbl[399]? = some (.code yX6_leastDigits cX6_leastDigits 1 (some .int)) := rfl
set_option maxRecDepth 100000 in
theorem cw_76 : lw_tbl[414]? = some (.code yX6_digitAt cX6_digitAt 2 (some .int)) := rfl
set_option maxRecDepth 100000 in
theorem cw_77 : lw_tbl[410]? = some (.code yX6_carryOut cX6_carryOut 6 (some .boolean)) := rfl
set_option maxRecDepth 100000 in
theorem cw_78 : lw_tbl[418]? = some (.code yX6_beginAnew cX6_beginAnew 2 (some .boolean)) := rfl
set_option maxRecDepth 100000 in
theorem cw_79 : lw_tbl[423]? = some (.code yX6_putWeight cX6_putWeight 3 (some .boolean)) := rfl
set_option maxRecDepth 100000 in
theorem cw_80 : lw_tbl[439]? = some (.code yX6_putScale cX6_putScale 3 (some .boolean)) := rfl
set_option maxRecDepth 100000 in
theorem cw_81 : lw_tbl[454]? = some (.code yX6_putWeighing cX6_putWeighing 4 (some .boolean)) := rfl
set_option maxRecDepth 100000 in
theorem cw_82 : lw_tbl[470]? = some (.code yX6_putLiking cX6_putLiking 3 (some .boolean)) := rfl
set_option maxRecDepth 100000 in
theorem cw_83 : lw_tbl[482]? = some (.code yX6_putComparison cX6_putComparison 3 (some .boolean)) := rfl
set_option maxRecDepth 100000 in
theorem cw_84 : lw_tbl[317]? = some (.code yX7_init cX7_init 1 none) := rfl
set_option maxRecDepth 100000 in
theorem cw_85 : lw_tbl[909]? = some (.code yX7_weighingsOf cX7_weighingsOf 9 (some .int)) := rfl
set_option maxRecDepth 100000 in
theorem cw_86 : lw_tbl[913]? = some (.code yX7_drawBelow99 cX7_drawBelow99 1 (some .int)) := rfl
set_option maxRecDepth 100000 in
theorem cw_87 : lw_tbl[223]? = some (.code yX8_init cX8_init 1 none) := rfl
set_option maxRecDepth 100000 in
theorem cw_88 : lw_tbl[632]? = some (.code yX8_tellsAlready cX8_tellsAlready 3 (some .boolean)) := rfl
set_option maxRecDepth 100000 in
theorem cw_89 : lw_tbl[668]? = some (.code yX8_fewestAtWorst cX8_fewestAtWorst 3 (some .int)) := rfl
set_option maxRecDepth 100000 in
theorem cw_90 : lw_tbl[692]? = some (.code yX8_leastMean cX8_leastMean 8 (some .int)) := rfl
set_option maxRecDepth 100000 in
theorem cw_91 : lw_tbl[695]? = some (.code yX8_commonDivisor cX8_commonDivisor 4 (some .int)) := rfl
set_option maxRecDepth 100000 in
theorem cw_92 : lw_tbl[636]? = some (.code yX8_fitting cX8_fitting 5 (some .int)) := rfl
set_option maxRecDepth 100000 in
theorem cw_93 : lw_tbl[640]? = some (.code yX8_layOut cX8_layOut 3 none) := rfl
set_option maxRecDepth 100000 in
theorem cw_94 : lw_tbl[647]? = some (.code yX8_isOrder cX8_isOrder 4 (some .boolean)) := rfl
set_option maxRecDepth 100000 in
theorem cw_95 : lw_tbl[651]? = some (.code yX8_noteOrder cX8_noteOrder 4 none) := rfl
set_option maxRecDepth 100000 in
theorem cw_96 : lw_tbl[655]? = some (.code yX8_answerOf cX8_answerOf 3 (some .int)) := rfl
set_option maxRecDepth 100000 in
theorem cw_97 : lw_tbl[660]? = some (.code yX8_isTold cX8_isTold 6 (some .boolean)) := rfl
set_option maxRecDepth 100000 in
theorem cw_98 : lw_tbl[675]? = some (.code yX8_indexOf cX8_indexOf 7 (some .int)) := rfl
set_option maxRecDepth 100000 in
theorem cw_99 : lw_tbl[671]? = some (.code yX8_solve cX8_solve 14 (some .int)) := rfl
set_option maxRecDepth 100000 in
theorem cw_100 : lw_tbl[107]? = some (.code yX9_init cX9_init 1 none) := rfl
set_option maxRecDepth 100000 in
theorem cw_101 : lw_tbl[369]? = some (.code yX9_feed cX9_feed 2 (some .int)) := rfl
set_option maxRecDepth 100000 in
theorem cw_102 : lw_tbl[385]? = some (.code yX9_barn cX9_barn 1 (some .int)) := rfl
set_option maxRecDepth 100000 in
theorem cw_103 : lw_tbl[494]? = some (.code yX9_weight cX9_weight 2 (some .int)) := rfl
set_option maxRecDepth 100000 in
theorem cw_104 : lw_tbl[499]? = some (.code yX9_set cX9_set 4 (some .int)) := rfl
set_option maxRecDepth 100000 in
theorem cw_105 : lw_tbl[505]? = some (.code yX9_scale cX9_scale 4 (some .int)) := rfl
set_option maxRecDepth 100000 in
theorem cw_106 : lw_tbl[511]? = some (.code yX9_would cX9_would 3 (some .int)) := rfl
set_option maxRecDepth 100000 in
theorem cw_107 : lw_tbl[530]? = some (.code yX9_weigh cX9_weigh 5 (some .int)) := rfl
set_option maxRecDepth 100000 in
theorem cw_108 : lw_tbl[536]? = some (.code yX9_book cX9_book 2 (some .int)) := rfl
set_option maxRecDepth 100000 in
theorem cw_109 : lw_tbl[540]? = some (.code yX9_strike cX9_strike 1 (some .int)) := rfl
set_option maxRecDepth 100000 in
theorem cw_110 : lw_tbl[544]? = some (.code yX9_above cX9_above 2 (some .int)) := rfl
set_option maxRecDepth 100000 in
theorem cw_111 : lw_tbl[562]? = some (.code yX9_ringed cX9_ringed 1 (some .int)) := rfl
set_option maxRecDepth 100000 in
theorem cw_112 : lw_tbl[570]? = some (.code yX9_orders cX9_orders 2 (some .int)) := rfl
set_option maxRecDepth 100000 in
theorem cw_113 : lw_tbl[587]? = some (.code yX9_next cX9_next 2 (some .int)) := rfl
set_option maxRecDepth 100000 in
theorem cw_114 : lw_tbl[607]? = some (.code yX9_lies cX9_lies 1 (some .int)) := rfl
set_option maxRecDepth 100000 in
theorem cw_115 : lw_tbl[616]? = some (.code yX9_open cX9_open 1 (some .int)) := rfl
set_option maxRecDepth 100000 in
theorem cw_116 : lw_tbl[624]? = some (.code yX9_tells cX9_tells 3 (some .int)) := rfl
set_option maxRecDepth 100000 in
theorem cw_117 : lw_tbl[664]? = some (.code yX9_worst cX9_worst 3 (some .int)) := rfl
set_option maxRecDepth 100000 in
theorem cw_118 : lw_tbl[687]? = some (.code yX9_mean cX9_mean 4 (some .long)) := rfl
set_option maxRecDepth 100000 in
theorem cw_119 : lw_tbl[699]? = some (.code yX9_plan cX9_plan 2 (some .int)) := rfl
set_option maxRecDepth 100000 in
theorem cw_120 : lw_tbl[757]? = some (.code yX9_found cX9_found 3 (some .int)) := rfl
set_option maxRecDepth 100000 in
theorem cw_121 : lw_tbl[765]? = some (.code yX9_compare cX9_compare 4 (some .int)) := rfl
set_option maxRecDepth 100000 in
theorem cw_122 : lw_tbl[771]? = some (.code yX9_clear cX9_clear 2 (some .int)) := rfl
set_option maxRecDepth 100000 in
theorem cw_123 : lw_tbl[775]? = some (.code yX9_sorts cX9_sorts 1 (some .int)) := rfl
set_option maxRecDepth 100000 in
theorem cw_124 : lw_tbl[790]? = some (.code yX9_gap cX9_gap 1 (some .int)) := rfl
set_option maxRecDepth 100000 in
theorem cw_125 : lw_tbl[794]? = some (.code yX9_rounds cX9_rounds 1 (some .int)) := rfl
set_option maxRecDepth 100000 in
theorem cw_126 : lw_tbl[803]? = some (.code yX9_through cX9_through 2 (some .int)) := rfl
set_option maxRecDepth 100000 in
theorem cw_127 : lw_tbl[811]? = some (.code yX9_idle cX9_idle 1 (some .int)) := rfl
set_option maxRecDepth 100000 in
theorem cw_128 : lw_tbl[819]? = some (.code yX9_mends cX9_mends 1 (some .int)) := rfl
set_option maxRecDepth 100000 in
theorem cw_129 : lw_tbl[832]? = some (.code yX9_like cX9_like 3 (some .int)) := rfl
set_option maxRecDepth 100000 in
theorem cw_130 : lw_tbl[837]? = some (.code yX9_loops cX9_loops 1 (some .int)) := rfl
set_option maxRecDepth 100000 in
theorem cw_131 : lw_tbl[849]? = some (.code yX9_turns cX9_turns 2 (some .int)) := rfl
set_option maxRecDepth 100000 in
theorem cw_132 : lw_tbl[875]? = some (.code yX9_law cX9_law 3 (some .int)) := rfl
set_option maxRecDepth 100000 in
theorem cw_133 : lw_tbl[892]? = some (.code yX9_row cX9_row 2 (some .int)) := rfl
set_option maxRecDepth 100000 in
theorem cw_134 : lw_tbl[896]? = some (.code yX9_judge cX9_judge 2 (some .int)) := rfl
set_option maxRecDepth 100000 in
theorem cw_135 : lw_tbl[905]? = some (.code yX9_seeds cX9_seeds 4 (some .int)) := rfl
set_option maxRecDepth 100000 in
theorem cw_136 : lw_tbl[921]? = some (.code yX9_image cX9_image 1 (some .int)) := rfl
set_option maxRecDepth 100000 in
theorem cw_137 : lw_tbl[926]? = some (.code yX9_restore cX9_restore 1 (some .int)) := rfl
set_option maxRecDepth 100000 in
theorem cw_138 : lw_tbl[930]? = some (.code yX9_count cX9_count 2 (some .int)) := rfl
set_option maxRecDepth 100000 in
theorem cw_139 : lw_tbl[373]? = some (.code yX9_refuse cX9_refuse 2 (some .int)) := rfl
set_option maxRecDepth 100000 in
theorem cw_140 : lw_tbl[628]? = some (.code yX9_refusalOfWanted cX9_refusalOfWanted 2 (some .int)) := rfl
set_option maxRecDepth 100000 in
theorem cw_141 : lw_tbl[446]? = some (.code yX9_isKind cX9_isKind 1 (some .boolean)) := rfl
set_option maxRecDepth 100000 in
theorem cw_142 : lw_tbl[478]? = some (.code yX9_hasBit cX9_hasBit 2 (some .boolean)) := rfl
set_option maxRecDepth 100000 in
theorem cw_143 : lw_tbl[944]? = some (.code yX10_init cX10_init 1 none) := rfl
set_option maxRecDepth 100000 in
theorem cw_144 : lw_tbl[1126]? = some (.code yX10_in cX10_in 6 (some .boolean)) := rfl
set_option maxRecDepth 100000 in
theorem cw_145 : lw_tbl[949]? = some (.code yX10_begin cX10_begin 3 none) := rfl
set_option maxRecDepth 100000 in
theorem cw_146 : lw_tbl[1105]? = some (.code yX10_refuse cX10_refuse 2 (some .int)) := rfl
set_option maxRecDepth 100000 in
theorem cw_147 : lw_tbl[1144]? = some (.code yX10_isStone cX10_isStone 2 (some .boolean)) := rfl
set_option maxRecDepth 100000 in
theorem cw_148 : lw_tbl[1152]? = some (.code yX10_areTwo cX10_areTwo 3 (some .boolean)) := rfl
set_option maxRecDepth 100000 in
theorem cw_149 : lw_tbl[1183]? = some (.code yX10_wrongNumber cX10_wrongNumber 3 (some .int)) := rfl
set_option maxRecDepth 100000 in
theorem cw_150 : lw_tbl[1485]? = some (.code yX10_ones cX10_ones 3 (some .int)) := rfl
set_option maxRecDepth 100000 in
theorem cw_151 : lw_tbl[1199]? = some (.code yX10_signOf cX10_signOf 2 (some .int)) := rfl
set_option maxRecDepth 100000 in
theorem cw_152 : lw_tbl[1196]? = some (.code yX10_toldOf cX10_toldOf 8 (some .int)) := rfl
set_option maxRecDepth 100000 in
theorem cw_153 : lw_tbl[1156]? = some (.code yX10_note cX10_note 4 none) := rfl
set_option maxRecDepth 100000 in
theorem cw_154 : lw_tbl[1101]? = some (.code yX10_feed cX10_feed 2 (some .int)) := rfl
set_option maxRecDepth 100000 in
theorem cw_155 : lw_tbl[1117]? = some (.code yX10_here cX10_here 1 (some .int)) := rfl
set_option maxRecDepth 100000 in
theorem cw_156 : lw_tbl[1121]? = some (.code yX10_readDigit cX10_readDigit 1 (some .int)) := rfl
set_option maxRecDepth 100000 in
theorem cw_157 : lw_tbl[1113]? = some (.code yX10_readStatement cX10_readStatement 4 none) := rfl
set_option maxRecDepth 100000 in
theorem cw_158 : lw_tbl[1148]? = some (.code yX10_noteComes cX10_noteComes 5 (some .boolean)) := rfl
set_option maxRecDepth 100000 in
theorem cw_159 : lw_tbl[1164]? = some (.code yX10_comparisonComes cX10_comparisonComes 4 (some .boolean)) := rfl
set_option maxRecDepth 100000 in
theorem cw_160 : lw_tbl[1160]? = some (.code yX10_prefer cX10_prefer 3 none) := rfl
set_option maxRecDepth 100000 in
theorem cw_161 : lw_tbl[1138]? = some (.code yX10_comes cX10_comes 4 (some .boolean)) := rfl
set_option maxRecDepth 100000 in
theorem cw_162 : lw_tbl[1109]? = some (.code yX10_barn cX10_barn 2 (some .int)) := rfl
set_option maxRecDepth 100000 in
theorem cw_163 : lw_tbl[1134]? = some (.code yX10_carry cX10_carry 2 (some .int)) := rfl
set_option maxRecDepth 100000 in
theorem cw_164 : lw_tbl[1130]? = some (.code yX10_carryAll cX10_carryAll 4 none) := rfl
set_option maxRecDepth 100000 in
theorem cw_165 : lw_tbl[1168]? = some (.code yX10_image cX10_image 1 (some .int)) := rfl
set_option maxRecDepth 100000 in
theorem cw_166 : lw_tbl[1172]? = some (.code yX10_restore cX10_restore 1 (some .int)) := rfl
set_option maxRecDepth 100000 in
theorem cw_167 : lw_tbl[1176]? = some (.code yX10_weight cX10_weight 2 (some .int)) := rfl
set_option maxRecDepth 100000 in
theorem cw_168 : lw_tbl[1180]? = some (.code yX10_set cX10_set 5 (some .int)) := rfl
set_option maxRecDepth 100000 in
theorem cw_169 : lw_tbl[1187]? = some (.code yX10_scale cX10_scale 5 (some .int)) := rfl
set_option maxRecDepth 100000 in
theorem cw_170 : lw_tbl[1192]? = some (.code yX10_would cX10_would 3 (some .int)) := rfl
set_option maxRecDepth 100000 in
theorem cw_171 : lw_tbl[1203]? = some (.code yX10_weigh cX10_weigh 3 (some .int)) := rfl
set_option maxRecDepth 100000 in
theorem cw_172 : lw_tbl[1207]? = some (.code yX10_book cX10_book 2 (some .int)) := rfl
set_option maxRecDepth 100000 in
theorem cw_173 : lw_tbl[1211]? = some (.code yX10_strike cX10_strike 1 (some .int)) := rfl
set_option maxRecDepth 100000 in
theorem cw_174 : lw_tbl[1223]? = some (.code yX10_closeOver cX10_closeOver 3 none) := rfl
set_option maxRecDepth 100000 in
theorem cw_175 : lw_tbl[1219]? = some (.code yX10_know cX10_know 4 none) := rfl
set_option maxRecDepth 100000 in
theorem cw_176 : lw_tbl[1235]? = some (.code yX10_isOver cX10_isOver 3 (some .boolean)) := rfl
set_option maxRecDepth 100000 in
theorem cw_177 : lw_tbl[1231]? = some (.code yX10_ringBits cX10_ringBits 3 (some .int)) := rfl
set_option maxRecDepth 100000 in
theorem cw_178 : lw_tbl[1215]? = some (.code yX10_above cX10_above 2 (some .int)) := rfl
set_option maxRecDepth 100000 in
theorem cw_179 : lw_tbl[1227]? = some (.code yX10_ringed cX10_ringed 1 (some .int)) := rfl
set_option maxRecDepth 100000 in
theorem cw_180 : lw_tbl[1239]? = some (.code yX10_lies cX10_lies 4 (some .int)) := rfl
set_option maxRecDepth 100000 in
theorem cw_181 : lw_tbl[1243]? = some (.code yX10_open cX10_open 4 (some .int)) := rfl
set_option maxRecDepth 100000 in
theorem cw_182 : lw_tbl[1255]? = some (.code yX10_codes cX10_codes 3 (some .int)) := rfl
set_option maxRecDepth 100000 in
theorem cw_183 : lw_tbl[1259]? = some (.code yX10_layOrder cX10_layOrder 5 (some .boolean)) := rfl
set_option maxRecDepth 100000 in
theorem cw_184 : lw_tbl[1263]? = some (.code yX10_fits cX10_fits 4 (some .boolean)) := rfl
set_option maxRecDepth 100000 in
theorem cw_185 : lw_tbl[1251]? = some (.code yX10_findOrders cX10_findOrders 3 none) := rfl
set_option maxRecDepth 100000 in
theorem cw_186 : lw_tbl[1267]? = some (.code yX10_countAhead cX10_countAhead 3 none) := rfl
set_option maxRecDepth 100000 in
theorem cw_187 : lw_tbl[1247]? = some (.code yX10_orders cX10_orders 2 (some .int)) := rfl
set_option maxRecDepth 100000 in
theorem cw_188 : lw_tbl[1271]? = some (.code yX10_next cX10_next 11 (some .int)) := rfl
set_option maxRecDepth 100000 in
theorem cw_189 : lw_tbl[1298]? = some (.code yX10_bitOf cX10_bitOf 2 (some .int)) := rfl
set_option maxRecDepth 100000 in
theorem cw_190 : lw_tbl[1295]? = some (.code yX10_knownBits cX10_knownBits 4 (some .int)) := rfl
set_option maxRecDepth 100000 in
theorem cw_191 : lw_tbl[1313]? = some (.code yX10_layKnown cX10_layKnown 4 none) := rfl
set_option maxRecDepth 100000 in
theorem cw_192 : lw_tbl[1287]? = some (.code yX10_wantedIn cX10_wantedIn 4 (some .int)) := rfl
set_option maxRecDepth 100000 in
theorem cw_193 : lw_tbl[1283]? = some (.code yX10_areAgreed cX10_areAgreed 7 (some .boolean)) := rfl
set_option maxRecDepth 100000 in
theorem cw_194 : lw_tbl[1322]? = some (.code yX10_withAbove cX10_withAbove 4 (some .int)) := rfl
set_option maxRecDepth 100000 in
theorem cw_195 : lw_tbl[1317]? = some (.code yX10_solve cX10_solve 12 none) := rfl
set_option maxRecDepth 100000 in
theorem cw_196 : lw_tbl[1309]? = some (.code yX10_isWhole cX10_isWhole 4 (some .boolean)) := rfl
set_option maxRecDepth 100000 in
theorem cw_197 : lw_tbl[1302]? = some (.code yX10_solveAll cX10_solveAll 4 none) := rfl
set_option maxRecDepth 100000 in
theorem cw_198 : lw_tbl[1305]? = some (.code yX10_onesOf cX10_onesOf 3 (some .int)) := rfl
set_option maxRecDepth 100000 in
theorem cw_199 : lw_tbl[1279]? = some (.code yX10_wrongWanted cX10_wrongWanted 2 (some .int)) := rfl
set_option maxRecDepth 100000 in
theorem cw_200 : lw_tbl[1275]? = some (.code yX10_tells cX10_tells 3 (some .int)) := rfl
set_option maxRecDepth 100000 in
theorem cw_201 : lw_tbl[1291]? = some (.code yX10_worst cX10_worst 4 (some .int)) := rfl
set_option maxRecDepth 100000 in
theorem cw_202 : lw_tbl[1330]? = some (.code yX10_divisor cX10_divisor 5 (some .int)) := rfl
set_option maxRecDepth 100000 in
theorem cw_203 : lw_tbl[1326]? = some (.code yX10_mean cX10_mean 6 (some .long)) := rfl
set_option maxRecDepth 100000 in
theorem cw_204 : lw_tbl[1350]? = some (.code yX10_isHeavier cX10_isHeavier 3 (some .boolean)) := rfl
set_option maxRecDepth 100000 in
theorem cw_205 : lw_tbl[1346]? = some (.code yX10_endOf cX10_endOf 6 (some .int)) := rfl
set_option maxRecDepth 100000 in
theorem cw_206 : lw_tbl[1342]? = some (.code yX10_planOne cX10_planOne 3 none) := rfl
set_option maxRecDepth 100000 in
theorem cw_207 : lw_tbl[1354]? = some (.code yX10_planPairs cX10_planPairs 4 none) := rfl
set_option maxRecDepth 100000 in
theorem cw_208 : lw_tbl[1358]? = some (.code yX10_planCup cX10_planCup 7 none) := rfl
set_option maxRecDepth 100000 in
theorem cw_209 : lw_tbl[1366]? = some (.code yX10_insertAll cX10_insertAll 9 none) := rfl
set_option maxRecDepth 100000 in
theorem cw_210 : lw_tbl[1374]? = some (.code yX10_mergeRows cX10_mergeRows 8 none) := rfl
set_option maxRecDepth 100000 in
theorem cw_211 : lw_tbl[1370]? = some (.code yX10_planMerge cX10_planMerge 5 none) := rfl
set_option maxRecDepth 100000 in
theorem cw_212 : lw_tbl[1362]? = some (.code yX10_planAll cX10_planAll 3 none) := rfl
set_option maxRecDepth 100000 in
theorem cw_213 : lw_tbl[1338]? = some (.code yX10_planBy cX10_planBy 2 none) := rfl
set_option maxRecDepth 100000 in
theorem cw_214 : lw_tbl[1334]? = some (.code yX10_plan cX10_plan 2 (some .int)) := rfl
set_option maxRecDepth 100000 in
theorem cw_215 : lw_tbl[1378]? = some (.code yX10_found cX10_found 3 (some .int)) := rfl
set_option maxRecDepth 100000 in
theorem cw_216 : lw_tbl[1382]? = some (.code yX10_compare cX10_compare 3 (some .int)) := rfl
set_option maxRecDepth 100000 in
theorem cw_217 : lw_tbl[1386]? = some (.code yX10_clear cX10_clear 2 (some .int)) := rfl
set_option maxRecDepth 100000 in
theorem cw_218 : lw_tbl[1402]? = some (.code yX10_passOne cX10_passOne 5 (some .int)) := rfl
set_option maxRecDepth 100000 in
theorem cw_219 : lw_tbl[1398]? = some (.code yX10_passAll cX10_passAll 5 (some .int)) := rfl
set_option maxRecDepth 100000 in
theorem cw_220 : lw_tbl[1405]? = some (.code yX10_isInOrder cX10_isInOrder 1 (some .boolean)) := rfl
set_option maxRecDepth 100000 in
theorem cw_221 : lw_tbl[1394]? = some (.code yX10_gapWith cX10_gapWith 6 (some .int)) := rfl
set_option maxRecDepth 100000 in
theorem cw_222 : lw_tbl[1390]? = some (.code yX10_sorts cX10_sorts 1 (some .int)) := rfl
set_option maxRecDepth 100000 in
theorem cw_223 : lw_tbl[1409]? = some (.code yX10_gap cX10_gap 1 (some .int)) := rfl
set_option maxRecDepth 100000 in
theorem cw_224 : lw_tbl[1413]? = some (.code yX10_rounds cX10_rounds 6 (some .int)) := rfl
set_option maxRecDepth 100000 in
theorem cw_225 : lw_tbl[1417]? = some (.code yX10_through cX10_through 6 (some .int)) := rfl
set_option maxRecDepth 100000 in
theorem cw_226 : lw_tbl[1421]? = some (.code yX10_idle cX10_idle 1 (some .int)) := rfl
set_option maxRecDepth 100000 in
theorem cw_227 : lw_tbl[1425]? = some (.code yX10_mends cX10_mends 6 (some .int)) := rfl
set_option maxRecDepth 100000 in
theorem cw_228 : lw_tbl[1433]? = some (.code yX10_isLiked cX10_isLiked 3 (some .boolean)) := rfl
set_option maxRecDepth 100000 in
theorem cw_229 : lw_tbl[1429]? = some (.code yX10_like cX10_like 4 (some .int)) := rfl
set_option maxRecDepth 100000 in
theorem cw_230 : lw_tbl[1441]? = some (.code yX10_isLoop cX10_isLoop 4 (some .boolean)) := rfl
set_option maxRecDepth 100000 in
theorem cw_231 : lw_tbl[1437]? = some (.code yX10_loops cX10_loops 5 (some .int)) := rfl
set_option maxRecDepth 100000 in
theorem cw_232 : lw_tbl[1449]? = some (.code yX10_against cX10_against 4 (some .int)) := rfl
set_option maxRecDepth 100000 in
theorem cw_233 : lw_tbl[1445]? = some (.code yX10_turns cX10_turns 7 (some .int)) := rfl
set_option maxRecDepth 100000 in
theorem cw_234 : lw_tbl[1457]? = some (.code yX10_halvings cX10_halvings 3 (some .int)) := rfl
set_option maxRecDepth 100000 in
theorem cw_235 : lw_tbl[1460]? = some (.code yX10_byInsert cX10_byInsert 3 (some .int)) := rfl
set_option maxRecDepth 100000 in
theorem cw_236 : lw_tbl[1463]? = some (.code yX10_byOrders cX10_byOrders 4 (some .int)) := rfl
set_option maxRecDepth 100000 in
theorem cw_237 : lw_tbl[1453]? = some (.code yX10_law cX10_law 4 (some .int)) := rfl
set_option maxRecDepth 100000 in
theorem cw_238 : lw_tbl[1467]? = some (.code yX10_row cX10_row 2 (some .int)) := rfl
set_option maxRecDepth 100000 in
theorem cw_239 : lw_tbl[1471]? = some (.code yX10_judge cX10_judge 5 (some .int)) := rfl
set_option maxRecDepth 100000 in
theorem cw_240 : lw_tbl[1475]? = some (.code yX10_seeds cX10_seeds 9 (some .int)) := rfl
set_option maxRecDepth 100000 in
theorem cw_241 : lw_tbl[1482]? = some (.code yX10_count cX10_count 5 (some .int)) := rfl
set_option maxRecDepth 100000 in
theorem cw_242 : lw_tbl[680]? = some (.code yJ6_bitCount_0f7a4 cJ6_bitCount_0f7a4 1 (some .int)) := rfl
def cdOK : Nat → List (ME × Nat × Nat × Nat × Nat) → Prop
  | _, [] => True
  | i, p :: r => (i = lawI ∨ lw_tbl[p.2.1]? = some (.code p.1.y p.1.b p.1.ml p.1.ret)) ∧ cdOK (i + 1) r
theorem cdOK_spec : ∀ (l : List (ME × Nat × Nat × Nat × Nat)) (b i : Nat) (p : ME × Nat × Nat × Nat × Nat), cdOK b l → l[i]? = some p → b + i ≠ lawI → lw_tbl[p.2.1]? = some (.code p.1.y p.1.b p.1.ml p.1.ret)
  | [], b, i, p, _, h, _ => by simp at h
  | x :: r, b, 0, p, h, hp, hn => by
    simp only [List.getElem?_cons_zero, Option.some.injEq] at hp
    subst hp
    rcases h.1 with z | z
    · exact absurd z (by simpa using hn)
    · exact z
  | x :: r, b, i + 1, p, h, hp, hn => by
    simp only [List.getElem?_cons_succ] at hp
    exact cdOK_spec r (b + 1) i p h.2 hp (by omega)
theorem cdOK_app : ∀ (a c : List (ME × Nat × Nat × Nat × Nat)) (b : Nat), cdOK b a → cdOK (b + a.length) c → cdOK b (a ++ c)
  | [], c, b, _, h => by simpa using h
  | x :: r, c, b, h1, h2 => ⟨h1.1, cdOK_app r c (b + 1) h1.2 (by rw [show b + 1 + r.length = b + (x :: r).length by simp; omega]; exact h2)⟩
set_option maxRecDepth 100000 in
theorem cd_0 : cdOK 0 (PT_0.zip MP_0) := ⟨Or.inr cw_0, ⟨Or.inr cw_1, ⟨Or.inr cw_2, ⟨Or.inr cw_3, ⟨Or.inr cw_4, ⟨Or.inr cw_5, ⟨Or.inr cw_6, ⟨Or.inr cw_7, ⟨Or.inr cw_8, ⟨Or.inr cw_9, ⟨Or.inr cw_10, ⟨Or.inr cw_11, ⟨Or.inr cw_12, ⟨Or.inr cw_13, ⟨Or.inr cw_14, ⟨Or.inr cw_15, ⟨Or.inr cw_16, ⟨Or.inr cw_17, ⟨Or.inr cw_18, ⟨Or.inr cw_19, ⟨Or.inr cw_20, ⟨Or.inr cw_21, ⟨Or.inr cw_22, ⟨Or.inr cw_23, ⟨Or.inr cw_24, ⟨Or.inr cw_25, ⟨Or.inr cw_26, ⟨Or.inr cw_27, ⟨Or.inr cw_28, ⟨Or.inr cw_29, ⟨Or.inr cw_30, ⟨Or.inr cw_31, ⟨Or.inr cw_32, ⟨Or.inr cw_33, ⟨Or.inr cw_34, ⟨Or.inr cw_35, ⟨Or.inr cw_36, ⟨Or.inr cw_37, ⟨Or.inr cw_38, ⟨Or.inr cw_39, trivial⟩⟩⟩⟩⟩⟩⟩⟩⟩⟩⟩⟩⟩⟩⟩⟩⟩⟩⟩⟩⟩⟩⟩⟩⟩⟩⟩⟩⟩⟩⟩⟩⟩⟩⟩⟩⟩⟩⟩⟩
set_option maxRecDepth 100000 in
theorem cd_1 : cdOK 40 (PT_1.zip MP_1) := ⟨Or.inr cw_40, ⟨Or.inr cw_41, ⟨Or.inr cw_42, ⟨Or.inr cw_43, ⟨Or.inr cw_44, ⟨Or.inr cw_45, ⟨Or.inr cw_46, ⟨Or.inr cw_47, ⟨Or.inr cw_48, ⟨Or.inr cw_49, ⟨Or.inr cw_50, ⟨Or.inr cw_51, ⟨Or.inr cw_52, ⟨Or.inr cw_53, ⟨Or.inr cw_54, ⟨Or.inr cw_55, ⟨Or.inr cw_56, ⟨Or.inr cw_57, ⟨Or.inr cw_58, ⟨Or.inr cw_59, ⟨Or.inr cw_60, ⟨Or.inr cw_61, ⟨Or.inr cw_62, ⟨Or.inr cw_63, ⟨Or.inr cw_64, ⟨Or.inr cw_65, ⟨Or.inr cw_66, ⟨Or.inr cw_67, ⟨Or.inr cw_68, ⟨Or.inr cw_69, ⟨Or.inr cw_70, ⟨Or.inr cw_71, ⟨Or.inr cw_72, ⟨Or.inr cw_73, ⟨Or.inr cw_74, ⟨Or.inr cw_75, ⟨Or.inr cw_76, ⟨Or.inr cw_77, ⟨Or.inr cw_78, ⟨Or.inr cw_79, trivial⟩⟩⟩⟩⟩⟩⟩⟩⟩⟩⟩⟩⟩⟩⟩⟩⟩⟩⟩⟩⟩⟩⟩⟩⟩⟩⟩⟩⟩⟩⟩⟩⟩⟩⟩⟩⟩⟩⟩⟩
set_option maxRecDepth 100000 in
theorem cd_2 : cdOK 80 (PT_2.zip MP_2) := ⟨Or.inr cw_80, ⟨Or.inr cw_81, ⟨Or.inr cw_82, ⟨Or.inr cw_83, ⟨Or.inr cw_84, ⟨Or.inr cw_85, ⟨Or.inr cw_86, ⟨Or.inr cw_87, ⟨Or.inr cw_88, ⟨Or.inr cw_89, ⟨Or.inr cw_90, ⟨Or.inr cw_91, ⟨Or.inr cw_92, ⟨Or.inr cw_93, ⟨Or.inr cw_94, ⟨Or.inr cw_95, ⟨Or.inr cw_96, ⟨Or.inr cw_97, ⟨Or.inr cw_98, ⟨Or.inr cw_99, ⟨Or.inr cw_100, ⟨Or.inr cw_101, ⟨Or.inr cw_102, ⟨Or.inr cw_103, ⟨Or.inr cw_104, ⟨Or.inr cw_105, ⟨Or.inr cw_106, ⟨Or.inr cw_107, ⟨Or.inr cw_108, ⟨Or.inr cw_109, ⟨Or.inr cw_110, ⟨Or.inr cw_111, ⟨Or.inr cw_112, ⟨Or.inr cw_113, ⟨Or.inr cw_114, ⟨Or.inr cw_115, ⟨Or.inr cw_116, ⟨Or.inr cw_117, ⟨Or.inr cw_118, ⟨Or.inr cw_119, trivial⟩⟩⟩⟩⟩⟩⟩⟩⟩⟩⟩⟩⟩⟩⟩⟩⟩⟩⟩⟩⟩⟩⟩⟩⟩⟩⟩⟩⟩⟩⟩⟩⟩⟩⟩⟩⟩⟩⟩⟩
set_option maxRecDepth 100000 in
theorem cd_3 : cdOK 120 (PT_3.zip MP_3) := ⟨Or.inr cw_120, ⟨Or.inr cw_121, ⟨Or.inr cw_122, ⟨Or.inr cw_123, ⟨Or.inr cw_124, ⟨Or.inr cw_125, ⟨Or.inr cw_126, ⟨Or.inr cw_127, ⟨Or.inr cw_128, ⟨Or.inr cw_129, ⟨Or.inr cw_130, ⟨Or.inr cw_131, ⟨Or.inr cw_132, ⟨Or.inr cw_133, ⟨Or.inr cw_134, ⟨Or.inr cw_135, ⟨Or.inr cw_136, ⟨Or.inr cw_137, ⟨Or.inr cw_138, ⟨Or.inr cw_139, ⟨Or.inr cw_140, ⟨Or.inr cw_141, ⟨Or.inr cw_142, ⟨Or.inr cw_143, ⟨Or.inr cw_144, ⟨Or.inr cw_145, ⟨Or.inr cw_146, ⟨Or.inr cw_147, ⟨Or.inr cw_148, ⟨Or.inr cw_149, ⟨Or.inr cw_150, ⟨Or.inr cw_151, ⟨Or.inr cw_152, ⟨Or.inr cw_153, ⟨Or.inr cw_154, ⟨Or.inr cw_155, ⟨Or.inr cw_156, ⟨Or.inr cw_157, ⟨Or.inr cw_158, ⟨Or.inr cw_159, trivial⟩⟩⟩⟩⟩⟩⟩⟩⟩⟩⟩⟩⟩⟩⟩⟩⟩⟩⟩⟩⟩⟩⟩⟩⟩⟩⟩⟩⟩⟩⟩⟩⟩⟩⟩⟩⟩⟩⟩⟩
set_option maxRecDepth 100000 in
theorem cd_4 : cdOK 160 (PT_4.zip MP_4) := ⟨Or.inr cw_160, ⟨Or.inr cw_161, ⟨Or.inr cw_162, ⟨Or.inr cw_163, ⟨Or.inr cw_164, ⟨Or.inr cw_165, ⟨Or.inr cw_166, ⟨Or.inr cw_167, ⟨Or.inr cw_168, ⟨Or.inr cw_169, ⟨Or.inr cw_170, ⟨Or.inr cw_171, ⟨Or.inr cw_172, ⟨Or.inr cw_173, ⟨Or.inr cw_174, ⟨Or.inr cw_175, ⟨Or.inr cw_176, ⟨Or.inr cw_177, ⟨Or.inr cw_178, ⟨Or.inr cw_179, ⟨Or.inr cw_180, ⟨Or.inr cw_181, ⟨Or.inr cw_182, ⟨Or.inr cw_183, ⟨Or.inr cw_184, ⟨Or.inr cw_185, ⟨Or.inr cw_186, ⟨Or.inr cw_187, ⟨Or.inr cw_188, ⟨Or.inr cw_189, ⟨Or.inr cw_190, ⟨Or.inr cw_191, ⟨Or.inr cw_192, ⟨Or.inr cw_193, ⟨Or.inr cw_194, ⟨Or.inr cw_195, ⟨Or.inr cw_196, ⟨Or.inr cw_197, ⟨Or.inr cw_198, ⟨Or.inr cw_199, trivial⟩⟩⟩⟩⟩⟩⟩⟩⟩⟩⟩⟩⟩⟩⟩⟩⟩⟩⟩⟩⟩⟩⟩⟩⟩⟩⟩⟩⟩⟩⟩⟩⟩⟩⟩⟩⟩⟩⟩⟩
set_option maxRecDepth 100000 in
theorem cd_5 : cdOK 200 (PT_5.zip MP_5) := ⟨Or.inr cw_200, ⟨Or.inr cw_201, ⟨Or.inr cw_202, ⟨Or.inr cw_203, ⟨Or.inr cw_204, ⟨Or.inr cw_205, ⟨Or.inr cw_206, ⟨Or.inr cw_207, ⟨Or.inr cw_208, ⟨Or.inr cw_209, ⟨Or.inr cw_210, ⟨Or.inr cw_211, ⟨Or.inr cw_212, ⟨Or.inr cw_213, ⟨Or.inr cw_214, ⟨Or.inr cw_215, ⟨Or.inr cw_216, ⟨Or.inr cw_217, ⟨Or.inr cw_218, ⟨Or.inr cw_219, ⟨Or.inr cw_220, ⟨Or.inr cw_221, ⟨Or.inr cw_222, ⟨Or.inr cw_223, ⟨Or.inr cw_224, ⟨Or.inr cw_225, ⟨Or.inr cw_226, ⟨Or.inr cw_227, ⟨Or.inr cw_228, ⟨Or.inr cw_229, ⟨Or.inr cw_230, ⟨Or.inr cw_231, ⟨Or.inr cw_232, ⟨Or.inr cw_233, ⟨Or.inr cw_234, ⟨Or.inr cw_235, ⟨Or.inr cw_236, ⟨Or.inr cw_237, ⟨Or.inr cw_238, ⟨Or.inr cw_239, trivial⟩⟩⟩⟩⟩⟩⟩⟩⟩⟩⟩⟩⟩⟩⟩⟩⟩⟩⟩⟩⟩⟩⟩⟩⟩⟩⟩⟩⟩⟩⟩⟩⟩⟩⟩⟩⟩⟩⟩⟩
set_option maxRecDepth 100000 in
theorem cd_6 : cdOK 240 (PT_6.zip MP_6) := ⟨Or.inr cw_240, ⟨Or.inr cw_241, ⟨Or.inr cw_242, ⟨Or.inl rfl, trivial⟩⟩⟩⟩
theorem mOK_0 : mOKs 0 (PT_0.zip MP_0) = true := by decide +kernel
theorem mOK_1 : mOKs 40 (PT_1.zip MP_1) = true := by decide +kernel
theorem mOK_2 : mOKs 80 (PT_2.zip MP_2) = true := by decide +kernel
theorem mOK_3 : mOKs 120 (PT_3.zip MP_3) = true := by decide +kernel
theorem mOK_4 : mOKs 160 (PT_4.zip MP_4) = true := by decide +kernel
theorem mOK_5 : mOKs 200 (PT_5.zip MP_5) = true := by decide +kernel
theorem mOK_6 : mOKs 240 (PT_6.zip MP_6) = true := by decide +kernel
theorem mOKs_spec : ∀ (l : List (ME × Nat × Nat × Nat × Nat)) (b i : Nat) (p : ME × Nat × Nat × Nat × Nat), mOKs b l = true → l[i]? = some p → b + i ≠ lawI → mOK p.1 p.2 = true
  | [], b, i, p, _, h, _ => by simp at h
  | x :: r, b, 0, p, h, hp, hn => by
    simp only [List.getElem?_cons_zero, Option.some.injEq] at hp
    subst hp
    simp only [mOKs, Bool.and_eq_true, Bool.or_eq_true, decide_eq_true_eq] at h
    rcases h.1 with z | z
    · exact absurd z (by simpa using hn)
    · exact z
  | x :: r, b, i + 1, p, h, hp, hn => by
    simp only [List.getElem?_cons_succ] at hp
    simp only [mOKs, Bool.and_eq_true] at h
    exact mOKs_spec r (b + 1) i p h.2 hp (by omega)
theorem mOKs_app : ∀ (a c : List (ME × Nat × Nat × Nat × Nat)) (b : Nat), mOKs b a = true → mOKs (b + a.length) c = true → mOKs b (a ++ c) = true
  | [], c, b, _, h => by simpa using h
  | x :: r, c, b, h1, h2 => by
    simp only [mOKs, Bool.and_eq_true, List.cons_append] at h1 ⊢
    exact ⟨h1.1, mOKs_app r c (b + 1) h1.2 (by rw [show b + 1 + r.length = b + (x :: r).length by simp; omega]; exact h2)⟩
set_option maxRecDepth 100000 in
theorem PT_zip : PT.zip MPL = PT_0.zip MP_0 ++ (PT_1.zip MP_1 ++ (PT_2.zip MP_2 ++ (PT_3.zip MP_3 ++ (PT_4.zip MP_4 ++ (PT_5.zip MP_5 ++ (PT_6.zip MP_6)))))) := rfl
theorem cd_all : cdOK 0 (PT.zip MPL) := by
  rw [PT_zip]
  exact cdOK_app _ _ 0 cd_0 (cdOK_app _ _ 40 cd_1 (cdOK_app _ _ 80 cd_2 (cdOK_app _ _ 120 cd_3 (cdOK_app _ _ 160 cd_4 (cdOK_app _ _ 200 cd_5 (cd_6))))))
theorem mOK_all : mOKs 0 (PT.zip MPL) = true := by
  rw [PT_zip]
  exact mOKs_app _ _ 0 mOK_0 (mOKs_app _ _ 40 mOK_1 (mOKs_app _ _ 80 mOK_2 (mOKs_app _ _ 120 mOK_3 (mOKs_app _ _ 160 mOK_4 (mOKs_app _ _ 200 mOK_5 (mOK_6))))))
theorem MPL_len : MPL.length = PT.length := by decide +kernel
theorem mOK_at {i : Nat} {e : ME} (h : PT[i]? = some e) (hn : i ≠ lawI) : ∃ q, mOK e q = true ∧ lw_tbl[q.1]? = some (.code e.y e.b e.ml e.ret) := by
  have hl : i < PT.length := (List.getElem?_eq_some_iff.mp h).1
  have h2 : MPL[i]? = some (MPL[i]'(by rw [MPL_len]; exact hl)) := List.getElem?_eq_getElem _
  exact ⟨_, mOKs_spec _ 0 i (e, _) mOK_all (List.getElem?_zip_eq_some.mpr ⟨h, h2⟩) (by omega), cdOK_spec _ 0 i (e, _) cd_all (List.getElem?_zip_eq_some.mpr ⟨h, h2⟩) (by omega)⟩
def fOK (q : (Nat × Nat) × Nat × Nat × Bool × Nat) : Bool := match vwCl[q.2.1]? with
  | some (_, T, N) => decide (q.2.2.1 < N) && (if q.2.2.2.1 then decide (lw_tbl[q.2.2.2.2]? = some (.fieldLinkNest (clN q.1.1) q.1.2 (T q.2.2.1).1 (T q.2.2.1).2.1 (T q.2.2.1).2.2.1 "HeaviestLightest")) else decide (lw_tbl[q.2.2.2.2]? = some (.fieldLink (clN q.1.1) q.1.2 (T q.2.2.1).1 (T q.2.2.1).2.1 (T q.2.2.1).2.2.1)))
  | none => false
theorem fOK_all : FRL.all fOK = true := by decide +kernel
theorem fOK_at {c i : Nat} {v : Nat × Nat × Bool × Nat} (h : FR c i = some v) : fOK ((c, i), v) = true := by
  unfold FR at h
  have key : ∀ l : List ((Nat × Nat) × Nat × Nat × Bool × Nat), l.all fOK = true → l.lookup (c, i) = some v → fOK ((c, i), v) = true := by
    intro l
    induction l with
    | nil => intro _ h; simp at h
    | cons x r ih =>
      intro h1 h2
      simp only [List.all_cons, Bool.and_eq_true] at h1
      rw [List.lookup_cons] at h2
      split at h2
      · next hx => cases h2; have := eq_of_beq hx; rw [this]; exact h1.1
      · exact ih h1.2 h2
  exact key _ fOK_all h
def spN : Nat → MethodName := fun k => match k with
  | 1000 => Lib.Math.max.name
  | 1001 => Lib.Math.min.name
  | 1002 => Lib.Math.abs.name
  | _ => arraycopyName
def rOK (q : (Nat × Nat) × Nat × Bool × Nat) : Bool := if 1000 ≤ q.2.1 then decide (lw_tbl[q.2.2.2]? = some (.methodLink (clN q.1.1) q.1.2 (spN q.2.1))) else match PT[q.2.1]? with
  | some e => decide (q.2.1 ≠ lawI) && (if q.2.2.1 then decide (lw_tbl[q.2.2.2]? = some (.methodLinkNest (clN q.1.1) q.1.2 e.y "HeaviestLightest")) else decide (lw_tbl[q.2.2.2]? = some (.methodLink (clN q.1.1) q.1.2 e.y)))
  | none => false
theorem rOK_all : MRL.all rOK = true := by decide +kernel
theorem rOK_at {c i : Nat} {v : Nat × Bool × Nat} (h : MR c i = some v) : rOK ((c, i), v) = true := by
  unfold MR at h
  have key : ∀ l : List ((Nat × Nat) × Nat × Bool × Nat), l.all rOK = true → l.lookup (c, i) = some v → rOK ((c, i), v) = true := by
    intro l
    induction l with
    | nil => intro _ h; simp at h
    | cons x r ih =>
      intro h1 h2
      simp only [List.all_cons, Bool.and_eq_true] at h1
      rw [List.lookup_cons] at h2
      split at h2
      · next hx => cases h2; have := eq_of_beq hx; rw [this]; exact h1.1
      · exact ih h1.2 h2
  exact key _ rOK_all h
def cOK (q : (Nat × Nat) × Int × Nat) : Bool := decide (lw_tbl[q.2.2]? = some (.constant (clN q.1.1) q.1.2 (Int32.ofInt q.2.1))) && decide (-2147483648 ≤ q.2.1 ∧ q.2.1 ≤ 2147483647)
theorem cOK_all : CRL.all cOK = true := by decide +kernel
theorem cOK_at {c i : Nat} {v : Int × Nat} (h : CR c i = some v) : cOK ((c, i), v) = true := by
  unfold CR at h
  have key : ∀ l : List ((Nat × Nat) × Int × Nat), l.all cOK = true → l.lookup (c, i) = some v → cOK ((c, i), v) = true := by
    intro l
    induction l with
    | nil => intro _ h; simp at h
    | cons x r ih =>
      intro h1 h2
      simp only [List.all_cons, Bool.and_eq_true] at h1
      rw [List.lookup_cons] at h2
      split at h2
      · next hx => cases h2; have := eq_of_beq hx; rw [this]; exact h1.1
      · exact ih h1.2 h2
  exact key _ cOK_all h
def lOK (q : (Nat × Nat) × Int × Nat) : Bool := decide (lw_tbl[q.2.2]? = some (.constantLong (clN q.1.1) q.1.2 (Int64.ofInt q.2.1))) && decide (-9223372036854775808 ≤ q.2.1 ∧ q.2.1 ≤ 9223372036854775807)
theorem lOK_all : LRL.all lOK = true := by decide +kernel
theorem lOK_at {c i : Nat} {v : Int × Nat} (h : LR c i = some v) : lOK ((c, i), v) = true := by
  unfold LR at h
  have key : ∀ l : List ((Nat × Nat) × Int × Nat), l.all lOK = true → l.lookup (c, i) = some v → lOK ((c, i), v) = true := by
    intro l
    induction l with
    | nil => intro _ h; simp at h
    | cons x r ih =>
      intro h1 h2
      simp only [List.all_cons, Bool.and_eq_true] at h1
      rw [List.lookup_cons] at h2
      split at h2
      · next hx => cases h2; have := eq_of_beq hx; rw [this]; exact h1.1
      · exact ih h1.2 h2
  exact key _ lOK_all h
theorem sp_st_max : Cond.static Lib.Math.max.name ∈ gtb := gtb_in (i := 602) (by decide +kernel) rfl
theorem sp_cd_max : Cond.code Lib.Math.max.name Lib.Math.max.code 2 (some .int) ∈ gtb := gtb_in (i := 603) (by decide +kernel) rfl
theorem sp_st_min : Cond.static Lib.Math.min.name ∈ gtb := gtb_in (i := 642) (by decide +kernel) rfl
theorem sp_cd_min : Cond.code Lib.Math.min.name Lib.Math.min.code 2 (some .int) ∈ gtb := gtb_in (i := 643) (by decide +kernel) rfl
theorem sp_st_abs : Cond.static Lib.Math.abs.name ∈ gtb := gtb_in (i := 522) (by decide +kernel) rfl
theorem sp_cd_abs : Cond.code Lib.Math.abs.name Lib.Math.abs.code 1 (some .int) ∈ gtb := gtb_in (i := 523) (by decide +kernel) rfl
theorem sp_ini_math : Cond.initialized "java/lang/Math" ∈ gtb := gtb_in (i := 100) (by decide +kernel) rfl
theorem sp_ini_sys : Cond.initialized "java/lang/System" ∈ gtb := gtb_in (i := 99) (by decide +kernel) rfl
theorem sp_nat : Cond.native arraycopyName ∈ gtb := gtb_in (i := 406) (by decide +kernel) rfl
theorem sp_st_cpy : Cond.static arraycopyName ∈ gtb := gtb_in (i := 405) (by decide +kernel) rfl
theorem sp_arr : Cond.arrayClass .int ∈ gtb := gtb_in (i := 177) (by decide +kernel) rfl
theorem uw_of (a : List Cond) (b : List Nat) (hl : a.length ≤ b.length) (h : (a.zip b).all (fun q => decide (lw_tbl[q.2]? = some q.1) && goodWord q.1) = true) : ∀ w ∈ a, w ∈ gtb := by
  intro w hw
  obtain ⟨i, hi⟩ := List.getElem?_of_mem hw
  have h1 : i < a.length := (List.getElem?_eq_some_iff.mp hi).1
  have h2 : b[i]? = some (b[i]'(by omega)) := List.getElem?_eq_getElem _
  have h3 := List.all_eq_true.mp h (w, b[i]'(by omega)) (List.mem_of_getElem? (List.getElem?_zip_eq_some.mpr ⟨hi, h2⟩))
  simp only [Bool.and_eq_true, decide_eq_true_eq] at h3
  exact gtb_in h3.1 h3.2
theorem uw_0 : ∀ w ∈ u_ws RX0 TX0 12, w ∈ gtb := by
  have h : ((u_ws RX0 TX0 12).zip [152, 154, 156, 158, 160, 162, 164, 166, 168, 170, 172, 174]).all (fun q => decide (lw_tbl[q.2]? = some q.1) && goodWord q.1) = true := by decide +kernel
  exact uw_of _ _ (by decide +kernel) h
theorem uw_1 : ∀ w ∈ u_ws RX1 TX1 4, w ∈ gtb := by
  have h : ((u_ws RX1 TX1 4).zip [210, 212, 214, 216]).all (fun q => decide (lw_tbl[q.2]? = some q.1) && goodWord q.1) = true := by decide +kernel
  exact uw_of _ _ (by decide +kernel) h
theorem uw_2 : ∀ w ∈ u_ws RX3 TX3 3, w ∈ gtb := by
  have h : ((u_ws RX3 TX3 3).zip [306, 308, 310]).all (fun q => decide (lw_tbl[q.2]? = some q.1) && goodWord q.1) = true := by decide +kernel
  exact uw_of _ _ (by decide +kernel) h
theorem uw_3 : ∀ w ∈ u_ws RX4 TX4 2, w ∈ gtb := by
  have h : ((u_ws RX4 TX4 2).zip [292, 294]).all (fun q => decide (lw_tbl[q.2]? = some q.1) && goodWord q.1) = true := by decide +kernel
  exact uw_of _ _ (by decide +kernel) h
theorem uw_4 : ∀ w ∈ u_ws RX5 TX5 10, w ∈ gtb := by
  have h : ((u_ws RX5 TX5 10).zip [263, 265, 267, 269, 271, 273, 275, 277, 279, 281]).all (fun q => decide (lw_tbl[q.2]? = some q.1) && goodWord q.1) = true := by decide +kernel
  exact uw_of _ _ (by decide +kernel) h
theorem uw_5 : ∀ w ∈ u_ws RX6 TX6 3, w ∈ gtb := by
  have h : ((u_ws RX6 TX6 3).zip [190, 192, 194]).all (fun q => decide (lw_tbl[q.2]? = some q.1) && goodWord q.1) = true := by decide +kernel
  exact uw_of _ _ (by decide +kernel) h
theorem uw_6 : ∀ w ∈ u_ws RX7 TX7 2, w ∈ gtb := by
  have h : ((u_ws RX7 TX7 2).zip [321, 323]).all (fun q => decide (lw_tbl[q.2]? = some q.1) && goodWord q.1) = true := by decide +kernel
  exact uw_of _ _ (by decide +kernel) h
theorem uw_7 : ∀ w ∈ u_ws RX8 TX8 7, w ∈ gtb := by
  have h : ((u_ws RX8 TX8 7).zip [232, 234, 236, 238, 240, 242, 244]).all (fun q => decide (lw_tbl[q.2]? = some q.1) && goodWord q.1) = true := by decide +kernel
  exact uw_of _ _ (by decide +kernel) h
theorem uw_8 : ∀ w ∈ u_ws RX9 TX9 13, w ∈ gtb := by
  have h : ((u_ws RX9 TX9 13).zip [339, 341, 343, 345, 347, 349, 351, 353, 355, 357, 359, 361, 363]).all (fun q => decide (lw_tbl[q.2]? = some q.1) && goodWord q.1) = true := by decide +kernel
  exact uw_of _ _ (by decide +kernel) h
theorem uw_9 : ∀ w ∈ u_ws RX10 TX10 49, w ∈ gtb := by
  have h : ((u_ws RX10 TX10 49).zip [999, 1001, 1003, 1005, 1007, 1009, 1011, 1013, 1015, 1017, 1019, 1021, 1023, 1025, 1027, 1029, 1031, 1033, 1035, 1037, 1039, 1041, 1043, 1045, 1047, 1049, 1051, 1053, 1055, 1057, 1059, 1061, 1063, 1065, 1067, 1069, 1071, 1073, 1075, 1077, 1079, 1081, 1083, 1085, 1087, 1089, 1091, 1093, 1095]).all (fun q => decide (lw_tbl[q.2]? = some q.1) && goodWord q.1) = true := by decide +kernel
  exact uw_of _ _ (by decide +kernel) h
def clT : Nat → Nat → FieldType := fun ci => match ci with
  | 0 => tyX0
  | 1 => tyX1
  | 2 => tyX3
  | 3 => tyX4
  | 4 => tyX5
  | 5 => tyX6
  | 6 => tyX7
  | 7 => tyX8
  | 8 => tyX9
  | _ => tyX10
def clOK (ci : Nat) : Bool := match vwCl[ci]? with
  | some (_, T, N) => decide (N = (FKL ci).length) && (List.range N).all (fun k => decide ((T k).2.2.2 = FF ci k) && (decide (parseFieldDescriptor (T k).2.2.1 = some (clT ci k)) && (decide (FK ci k ≠ 0 ∨ clT ci k = .int) && (decide (FK ci k ≠ 1 ∨ clT ci k = .boolean) && decide (FK ci k ≠ 3 ∨ clT ci k = .array .int)))))
  | none => false
theorem clOK_all : (List.range 10).all clOK = true := by decide +kernel
theorem cl_words {ci : Nat} {C : String} {T : u_T} {N : Nat} (h : vwCl[ci]? = some (C, T, N)) : ∀ w ∈ u_ws C T N, w ∈ gtb := by
  match ci, h with
  | 0, h => cases h; exact uw_0
  | 1, h => cases h; exact uw_1
  | 2, h => cases h; exact uw_2
  | 3, h => cases h; exact uw_3
  | 4, h => cases h; exact uw_4
  | 5, h => cases h; exact uw_5
  | 6, h => cases h; exact uw_6
  | 7, h => cases h; exact uw_7
  | 8, h => cases h; exact uw_8
  | 9, h => cases h; exact uw_9
  | n + 10, h => simp [vwCl] at h
theorem cl_names {ci : Nat} {C : String} {T : u_T} {N : Nat} (h : vwCl[ci]? = some (C, T, N)) : ∀ a, a < N → ∀ b, b < N → a ≠ b → (T a).2.1 ≠ (T b).2.1 := by
  match ci, h with
  | 0, h => cases h; exact nmX0
  | 1, h => cases h; exact nmX1
  | 2, h => cases h; exact nmX3
  | 3, h => cases h; exact nmX4
  | 4, h => cases h; exact nmX5
  | 5, h => cases h; exact nmX6
  | 6, h => cases h; exact nmX7
  | 7, h => cases h; exact nmX8
  | 8, h => cases h; exact nmX9
  | 9, h => cases h; exact nmX10
  | n + 10, h => simp [vwCl] at h
theorem cl_at {ci : Nat} {C : String} {T : u_T} {N : Nat} (h : vwCl[ci]? = some (C, T, N)) : N = (FKL ci).length ∧ ∀ k, k < N → (T k).2.2.2 = FF ci k ∧ parseFieldDescriptor (T k).2.2.1 = some (clT ci k) ∧ (FK ci k = 0 → clT ci k = .int) ∧ (FK ci k = 1 → clT ci k = .boolean) ∧ (FK ci k = 3 → clT ci k = .array .int) := by
  have hl : ci < 10 := (List.getElem?_eq_some_iff.mp h).1
  have h1 := List.all_eq_true.mp clOK_all ci (List.mem_range.mpr hl)
  unfold clOK at h1
  rw [h] at h1
  simp only [Bool.and_eq_true, decide_eq_true_eq, List.all_eq_true, List.mem_range] at h1
  refine ⟨h1.1, fun k hk => ?_⟩
  obtain ⟨a1, a2, a3, a4, a5⟩ := h1.2 k hk
  refine ⟨a1, a2, fun z => (a3.resolve_left (fun y => y z)), fun z => (a4.resolve_left (fun y => y z)), fun z => (a5.resolve_left (fun y => y z))⟩
