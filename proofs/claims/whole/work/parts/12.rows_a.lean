/-! the rows of every instruction -/
abbrev e0 : ME := (yX0_init, cX0_init, 1, none, 0, false, 0, 0, true)
set_option maxRecDepth 10000 in
theorem pt0 : PT[0]? = some e0 := rfl
abbrev e1 : ME := (yX0_begin, cX0_begin, 3, none, 1, false, 0, 0, false)
set_option maxRecDepth 10000 in
theorem pt1 : PT[1]? = some e1 := rfl
abbrev e2 : ME := (yX0_takeFrom, cX0_takeFrom, 2, none, 1, false, 0, 0, false)
set_option maxRecDepth 10000 in
theorem pt2 : PT[2]? = some e2 := rfl
abbrev e3 : ME := (yX0_isStone, cX0_isStone, 2, (some .boolean), 1, false, 0, 0, false)
set_option maxRecDepth 10000 in
theorem pt3 : PT[3]? = some e3 := rfl
abbrev e4 : ME := (yX0_areTwo, cX0_areTwo, 3, (some .boolean), 2, false, 0, 0, false)
set_option maxRecDepth 10000 in
theorem pt4 : PT[4]? = some e4 := rfl
abbrev e5 : ME := (yX0_refusalOfWeight, cX0_refusalOfWeight, 3, (some .int), 2, false, 0, 0, false)
set_option maxRecDepth 10000 in
theorem pt5 : PT[5]? = some e5 := rfl
abbrev e6 : ME := (yX0_changeWeight, cX0_changeWeight, 4, (some .int), 2, false, 0, 0, false)
set_option maxRecDepth 10000 in
theorem pt6 : PT[6]? = some e6 := rfl
abbrev e7 : ME := (yX0_refusalOfScale, cX0_refusalOfScale, 3, (some .int), 2, false, 0, 0, false)
set_option maxRecDepth 10000 in
theorem pt7 : PT[7]? = some e7 := rfl
abbrev e8 : ME := (yX0_changeScale, cX0_changeScale, 4, (some .int), 2, false, 0, 0, false)
set_option maxRecDepth 10000 in
theorem pt8 : PT[8]? = some e8 := rfl
abbrev e9 : ME := (yX0_refusalOfWeighing, cX0_refusalOfWeighing, 3, (some .int), 2, false, 0, 0, false)
set_option maxRecDepth 10000 in
theorem pt9 : PT[9]? = some e9 := rfl
abbrev e10 : ME := (yX0_write, cX0_write, 4, none, 3, false, 0, 0, false)
set_option maxRecDepth 10000 in
theorem pt10 : PT[10]? = some e10 := rfl
abbrev e11 : ME := (yX0_refusalOfComparison, cX0_refusalOfComparison, 3, (some .int), 2, false, 0, 0, false)
set_option maxRecDepth 10000 in
theorem pt11 : PT[11]? = some e11 := rfl
abbrev e12 : ME := (yX0_addComparison, cX0_addComparison, 3, (some .int), 2, false, 0, 0, false)
set_option maxRecDepth 10000 in
theorem pt12 : PT[12]? = some e12 := rfl
abbrev e13 : ME := (yX0_turnLiking, cX0_turnLiking, 4, (some .int), 2, false, 0, 0, false)
set_option maxRecDepth 10000 in
theorem pt13 : PT[13]? = some e13 := rfl
abbrev e14 : ME := (yX0_allLikings, cX0_allLikings, 3, (some .int), 0, false, 0, 0, false)
set_option maxRecDepth 10000 in
theorem pt14 : PT[14]? = some e14 := rfl
abbrev e15 : ME := (yX0_allWeights, cX0_allWeights, 3, (some .int), 0, false, 0, 0, false)
set_option maxRecDepth 10000 in
theorem pt15 : PT[15]? = some e15 := rfl
abbrev e16 : ME := (yX0_answer, cX0_answer, 6, (some .int), 3, false, 0, 0, false)
set_option maxRecDepth 10000 in
theorem pt16 : PT[16]? = some e16 := rfl
abbrev e17 : ME := (yX0_byWeights, cX0_byWeights, 5, (some .int), 3, false, 0, 0, false)
set_option maxRecDepth 10000 in
theorem pt17 : PT[17]? = some e17 := rfl
abbrev e18 : ME := (yX0_otherWay, cX0_otherWay, 1, (some .int), 1, true, 0, 0, false)
set_option maxRecDepth 10000 in
theorem pt18 : PT[18]? = some e18 := rfl
abbrev e19 : ME := (yX0_firstWrong, cX0_firstWrong, 6, (some .int), 2, false, 0, 0, false)
set_option maxRecDepth 10000 in
theorem pt19 : PT[19]? = some e19 := rfl
abbrev e20 : ME := (yX1_init, cX1_init, 1, none, 0, false, 1, 1, true)
set_option maxRecDepth 10000 in
theorem pt20 : PT[20]? = some e20 := rfl
abbrev e21 : ME := (yX1_learn, cX1_learn, 2, none, 1, false, 1, 1, false)
set_option maxRecDepth 10000 in
theorem pt21 : PT[21]? = some e21 := rfl
abbrev e22 : ME := (yX1_learnTurned, cX1_learnTurned, 5, none, 2, false, 1, 1, false)
set_option maxRecDepth 10000 in
theorem pt22 : PT[22]? = some e22 := rfl
abbrev e23 : ME := (yX1_follow, cX1_follow, 3, none, 0, false, 1, 1, false)
set_option maxRecDepth 10000 in
theorem pt23 : PT[23]? = some e23 := rfl
abbrev e24 : ME := (yX1_ringedStones, cX1_ringedStones, 3, (some .int), 0, false, 1, 1, false)
set_option maxRecDepth 10000 in
theorem pt24 : PT[24]? = some e24 := rfl
abbrev e25 : ME := (yX1_liesOf, cX1_liesOf, 4, (some .int), 1, false, 1, 1, false)
set_option maxRecDepth 10000 in
theorem pt25 : PT[25]? = some e25 := rfl
abbrev e26 : ME := (yX1_isOpen, cX1_isOpen, 3, (some .boolean), 2, false, 1, 1, false)
set_option maxRecDepth 10000 in
theorem pt26 : PT[26]? = some e26 := rfl
abbrev e27 : ME := (yX1_openPairs, cX1_openPairs, 4, (some .int), 0, false, 1, 1, false)
set_option maxRecDepth 10000 in
theorem pt27 : PT[27]? = some e27 := rfl
abbrev e28 : ME := (yX1_allOrders, cX1_allOrders, 5, (some .int), 0, false, 1, 1, false)
set_option maxRecDepth 10000 in
theorem pt28 : PT[28]? = some e28 := rfl
abbrev e29 : ME := (yX1_ordersWithAhead, cX1_ordersWithAhead, 5, (some .int), 2, false, 1, 1, false)
set_option maxRecDepth 10000 in
theorem pt29 : PT[29]? = some e29 := rfl
abbrev e30 : ME := (yX1_stoneOfFirst, cX1_stoneOfFirst, 5, (some .int), 1, false, 1, 1, false)
set_option maxRecDepth 10000 in
theorem pt30 : PT[30]? = some e30 := rfl
abbrev e31 : ME := (yX1_leastFree, cX1_leastFree, 3, (some .int), 1, false, 1, 1, false)
set_option maxRecDepth 10000 in
theorem pt31 : PT[31]? = some e31 := rfl
abbrev e32 : ME := (yX1_halving, cX1_halving, 9, (some .int), 1, false, 1, 1, false)
set_option maxRecDepth 10000 in
theorem pt32 : PT[32]? = some e32 := rfl
abbrev e33 : ME := (yX2_bound, cX2_bound, 2, (some .int), 2, true, 2, 99, false)
set_option maxRecDepth 10000 in
theorem pt33 : PT[33]? = some e33 := rfl
abbrev e34 : ME := (yX2_halvings, cX2_halvings, 3, (some .int), 1, true, 2, 99, false)
set_option maxRecDepth 10000 in
theorem pt34 : PT[34]? = some e34 := rfl
abbrev e35 : ME := (yX2_byInsert, cX2_byInsert, 3, (some .int), 1, true, 2, 99, false)
set_option maxRecDepth 10000 in
theorem pt35 : PT[35]? = some e35 := rfl
abbrev e36 : ME := (yX2_byOrders, cX2_byOrders, 6, (some .int), 1, true, 2, 99, true)
set_option maxRecDepth 10000 in
theorem pt36 : PT[36]? = some e36 := rfl
abbrev e37 : ME := (yX3_init, cX3_init, 1, none, 0, false, 3, 2, true)
set_option maxRecDepth 10000 in
theorem pt37 : PT[37]? = some e37 := rfl
abbrev e38 : ME := (yX3_ringsOfThree, cX3_ringsOfThree, 6, (some .int), 1, false, 3, 2, false)
set_option maxRecDepth 10000 in
theorem pt38 : PT[38]? = some e38 := rfl
abbrev e39 : ME := (yX3_isRing, cX3_isRing, 4, (some .boolean), 4, true, 3, 2, false)
set_option maxRecDepth 10000 in
theorem pt39 : PT[39]? = some e39 := rfl
abbrev e40 : ME := (yX3_reckon, cX3_reckon, 5, none, 1, false, 3, 2, false)
set_option maxRecDepth 10000 in
theorem pt40 : PT[40]? = some e40 := rfl
abbrev e41 : ME := (yX3_turnedWith, cX3_turnedWith, 3, (some .int), 2, false, 3, 2, false)
set_option maxRecDepth 10000 in
theorem pt41 : PT[41]? = some e41 := rfl
abbrev e42 : ME := (yX3_fewestTurned, cX3_fewestTurned, 1, (some .int), 0, false, 3, 2, false)
set_option maxRecDepth 10000 in
theorem pt42 : PT[42]? = some e42 := rfl
abbrev e43 : ME := (yX3_stoneOfFirst, cX3_stoneOfFirst, 5, (some .int), 1, false, 3, 2, false)
set_option maxRecDepth 10000 in
theorem pt43 : PT[43]? = some e43 := rfl
abbrev e44 : ME := (yX3_leastBest, cX3_leastBest, 3, (some .int), 1, false, 3, 2, false)
set_option maxRecDepth 10000 in
theorem pt44 : PT[44]? = some e44 := rfl
abbrev e45 : ME := (yX4_init, cX4_init, 1, none, 0, false, 4, 3, true)
set_option maxRecDepth 10000 in
theorem pt45 : PT[45]? = some e45 := rfl
abbrev e46 : ME := (yX4_compared, cX4_compared, 4, (some .int), 3, true, 4, 3, false)
set_option maxRecDepth 10000 in
theorem pt46 : PT[46]? = some e46 := rfl
abbrev e47 : ME := (yX4_isInOrder, cX4_isInOrder, 1, (some .boolean), 1, true, 4, 3, false)
set_option maxRecDepth 10000 in
theorem pt47 : PT[47]? = some e47 := rfl
abbrev e48 : ME := (yX4_unsortedRows, cX4_unsortedRows, 6, (some .int), 1, false, 4, 3, false)
set_option maxRecDepth 10000 in
theorem pt48 : PT[48]? = some e48 := rfl
abbrev e49 : ME := (yX4_idleOnes, cX4_idleOnes, 7, (some .int), 1, false, 4, 3, false)
set_option maxRecDepth 10000 in
theorem pt49 : PT[49]? = some e49 := rfl
abbrev e50 : ME := (yX4_mendingOne, cX4_mendingOne, 7, (some .int), 1, false, 4, 3, false)
set_option maxRecDepth 10000 in
theorem pt50 : PT[50]? = some e50 := rfl
abbrev e51 : ME := (yX4_unsortedWith, cX4_unsortedWith, 6, (some .int), 3, false, 4, 3, false)
set_option maxRecDepth 10000 in
theorem pt51 : PT[51]? = some e51 := rfl
abbrev e52 : ME := (yX4_fewestRounds, cX4_fewestRounds, 7, (some .int), 1, false, 4, 3, false)
set_option maxRecDepth 10000 in
theorem pt52 : PT[52]? = some e52 := rfl
abbrev e53 : ME := (yX4_stoneBehind, cX4_stoneBehind, 6, (some .int), 2, false, 4, 3, false)
set_option maxRecDepth 10000 in
theorem pt53 : PT[53]? = some e53 := rfl
abbrev e54 : ME := (yX5_init, cX5_init, 1, none, 0, false, 5, 4, true)
set_option maxRecDepth 10000 in
theorem pt54 : PT[54]? = some e54 := rfl
abbrev e55 : ME := (yX5_carryOut, cX5_carryOut, 5, (some .int), 3, false, 5, 4, false)
set_option maxRecDepth 10000 in
theorem pt55 : PT[55]? = some e55 := rfl
abbrev e56 : ME := (yX5_stoneAt, cX5_stoneAt, 2, (some .int), 1, false, 5, 4, false)
set_option maxRecDepth 10000 in
theorem pt56 : PT[56]? = some e56 := rfl
abbrev e57 : ME := (yX5_isHeavier, cX5_isHeavier, 3, (some .boolean), 2, false, 5, 4, false)
set_option maxRecDepth 10000 in
theorem pt57 : PT[57]? = some e57 := rfl
abbrev e58 : ME := (yX5_tellTwo, cX5_tellTwo, 3, none, 2, false, 5, 4, false)
set_option maxRecDepth 10000 in
theorem pt58 : PT[58]? = some e58 := rfl
abbrev e59 : ME := (yX5_heaviestOf, cX5_heaviestOf, 5, (some .int), 2, false, 5, 4, false)
set_option maxRecDepth 10000 in
theorem pt59 : PT[59]? = some e59 := rfl
abbrev e60 : ME := (yX5_lightestOf, cX5_lightestOf, 5, (some .int), 2, false, 5, 4, false)
set_option maxRecDepth 10000 in
theorem pt60 : PT[60]? = some e60 := rfl
abbrev e61 : ME := (yX5_bothOneBehindTheOther, cX5_bothOneBehindTheOther, 4, none, 0, false, 5, 4, false)
set_option maxRecDepth 10000 in
theorem pt61 : PT[61]? = some e61 := rfl
abbrev e62 : ME := (yX5_bothByTwos, cX5_bothByTwos, 4, none, 0, false, 5, 4, false)
set_option maxRecDepth 10000 in
theorem pt62 : PT[62]? = some e62 := rfl
abbrev e63 : ME := (yX5_cup, cX5_cup, 4, none, 0, false, 5, 4, false)
set_option maxRecDepth 10000 in
theorem pt63 : PT[63]? = some e63 := rfl
abbrev e64 : ME := (yX5_playRound, cX5_playRound, 6, (some .int), 1, false, 5, 4, false)
set_option maxRecDepth 10000 in
theorem pt64 : PT[64]? = some e64 := rfl
abbrev e65 : ME := (yX5_insert, cX5_insert, 7, none, 2, false, 5, 4, false)
set_option maxRecDepth 10000 in
theorem pt65 : PT[65]? = some e65 := rfl
abbrev e66 : ME := (yX5_placeFor, cX5_placeFor, 8, (some .int), 3, false, 5, 4, false)
set_option maxRecDepth 10000 in
theorem pt66 : PT[66]? = some e66 := rfl
abbrev e67 : ME := (yX5_merge, cX5_merge, 7, none, 5, true, 5, 4, false)
set_option maxRecDepth 10000 in
theorem pt67 : PT[67]? = some e67 := rfl
abbrev e68 : ME := (yX5_join, cX5_join, 8, none, 3, false, 5, 4, false)
set_option maxRecDepth 10000 in
theorem pt68 : PT[68]? = some e68 := rfl
abbrev e69 : ME := (yX6_init, cX6_init, 1, none, 0, false, 6, 5, true)
set_option maxRecDepth 10000 in
theorem pt69 : PT[69]? = some e69 := rfl
abbrev e70 : ME := (yX6_isFull, cX6_isFull, 1, (some .boolean), 0, false, 6, 5, false)
set_option maxRecDepth 10000 in
theorem pt70 : PT[70]? = some e70 := rfl
abbrev e71 : ME := (yX6_take, cX6_take, 2, (some .int), 1, false, 6, 5, false)
set_option maxRecDepth 10000 in
theorem pt71 : PT[71]? = some e71 := rfl
abbrev e72 : ME := (yX6_read, cX6_read, 7, (some .int), 1, false, 6, 5, false)
set_option maxRecDepth 10000 in
theorem pt72 : PT[72]? = some e72 := rfl
abbrev e73 : ME := (yX6_faultOfForm, cX6_faultOfForm, 7, (some .int), 1, false, 6, 5, false)
set_option maxRecDepth 10000 in
theorem pt73 : PT[73]? = some e73 := rfl
abbrev e74 : ME := (yX6_mostDigits, cX6_mostDigits, 1, (some .int), 1, true, 6, 5, false)
set_option maxRecDepth 10000 in
theorem pt74 : PT[74]? = some e74 := rfl
abbrev e75 : ME := (yX6_leastDigits, cX6_leastDigits, 1, (some .int), 1, true, 6, 5, false)
set_option maxRecDepth 10000 in
theorem pt75 : PT[75]? = some e75 := rfl
abbrev e76 : ME := (yX6_digitAt, cX6_digitAt, 2, (some .int), 1, false, 6, 5, false)
set_option maxRecDepth 10000 in
theorem pt76 : PT[76]? = some e76 := rfl
abbrev e77 : ME := (yX6_carryOut, cX6_carryOut, 6, (some .boolean), 2, false, 6, 5, false)
set_option maxRecDepth 10000 in
theorem pt77 : PT[77]? = some e77 := rfl
abbrev e78 : ME := (yX6_beginAnew, cX6_beginAnew, 2, (some .boolean), 1, false, 6, 5, false)
set_option maxRecDepth 10000 in
theorem pt78 : PT[78]? = some e78 := rfl
abbrev e79 : ME := (yX6_putWeight, cX6_putWeight, 3, (some .boolean), 2, false, 6, 5, false)
set_option maxRecDepth 10000 in
theorem pt79 : PT[79]? = some e79 := rfl
abbrev e80 : ME := (yX6_putScale, cX6_putScale, 3, (some .boolean), 2, false, 6, 5, false)
set_option maxRecDepth 10000 in
theorem pt80 : PT[80]? = some e80 := rfl
abbrev e81 : ME := (yX6_putWeighing, cX6_putWeighing, 4, (some .boolean), 3, false, 6, 5, false)
set_option maxRecDepth 10000 in
theorem pt81 : PT[81]? = some e81 := rfl
abbrev e82 : ME := (yX6_putLiking, cX6_putLiking, 3, (some .boolean), 2, false, 6, 5, false)
set_option maxRecDepth 10000 in
theorem pt82 : PT[82]? = some e82 := rfl
abbrev e83 : ME := (yX6_putComparison, cX6_putComparison, 3, (some .boolean), 2, false, 6, 5, false)
set_option maxRecDepth 10000 in
theorem pt83 : PT[83]? = some e83 := rfl
abbrev e84 : ME := (yX7_init, cX7_init, 1, none, 0, false, 7, 6, true)
set_option maxRecDepth 10000 in
theorem pt84 : PT[84]? = some e84 := rfl
abbrev e85 : ME := (yX7_weighingsOf, cX7_weighingsOf, 9, (some .int), 5, false, 7, 6, false)
set_option maxRecDepth 10000 in
theorem pt85 : PT[85]? = some e85 := rfl
abbrev e86 : ME := (yX7_drawBelow99, cX7_drawBelow99, 1, (some .int), 0, false, 7, 6, false)
set_option maxRecDepth 10000 in
theorem pt86 : PT[86]? = some e86 := rfl
abbrev e87 : ME := (yX8_init, cX8_init, 1, none, 0, false, 8, 7, true)
set_option maxRecDepth 10000 in
theorem pt87 : PT[87]? = some e87 := rfl
abbrev e88 : ME := (yX8_tellsAlready, cX8_tellsAlready, 3, (some .boolean), 2, false, 8, 7, false)
set_option maxRecDepth 10000 in
theorem pt88 : PT[88]? = some e88 := rfl
abbrev e89 : ME := (yX8_fewestAtWorst, cX8_fewestAtWorst, 3, (some .int), 2, false, 8, 7, false)
set_option maxRecDepth 10000 in
theorem pt89 : PT[89]? = some e89 := rfl
abbrev e90 : ME := (yX8_leastMean, cX8_leastMean, 8, (some .int), 3, false, 8, 7, false)
set_option maxRecDepth 10000 in
theorem pt90 : PT[90]? = some e90 := rfl
abbrev e91 : ME := (yX8_commonDivisor, cX8_commonDivisor, 4, (some .int), 2, true, 8, 7, false)
set_option maxRecDepth 10000 in
theorem pt91 : PT[91]? = some e91 := rfl
abbrev e92 : ME := (yX8_fitting, cX8_fitting, 5, (some .int), 1, false, 8, 7, false)
set_option maxRecDepth 10000 in
theorem pt92 : PT[92]? = some e92 := rfl
abbrev e93 : ME := (yX8_layOut, cX8_layOut, 3, none, 1, false, 8, 7, false)
set_option maxRecDepth 10000 in
theorem pt93 : PT[93]? = some e93 := rfl
abbrev e94 : ME := (yX8_isOrder, cX8_isOrder, 4, (some .boolean), 1, false, 8, 7, false)
set_option maxRecDepth 10000 in
theorem pt94 : PT[94]? = some e94 := rfl
abbrev e95 : ME := (yX8_noteOrder, cX8_noteOrder, 4, none, 1, false, 8, 7, false)
set_option maxRecDepth 10000 in
theorem pt95 : PT[95]? = some e95 := rfl
abbrev e96 : ME := (yX8_answerOf, cX8_answerOf, 3, (some .int), 2, false, 8, 7, false)
set_option maxRecDepth 10000 in
theorem pt96 : PT[96]? = some e96 := rfl
abbrev e97 : ME := (yX8_isTold, cX8_isTold, 6, (some .boolean), 2, false, 8, 7, false)
set_option maxRecDepth 10000 in
theorem pt97 : PT[97]? = some e97 := rfl
abbrev e98 : ME := (yX8_indexOf, cX8_indexOf, 7, (some .int), 2, false, 8, 7, false)
set_option maxRecDepth 10000 in
theorem pt98 : PT[98]? = some e98 := rfl
abbrev e99 : ME := (yX8_solve, cX8_solve, 14, (some .int), 4, true, 8, 7, false)
set_option maxRecDepth 10000 in
theorem pt99 : PT[99]? = some e99 := rfl
abbrev e100 : ME := (yX9_init, cX9_init, 1, none, 0, false, 9, 8, true)
set_option maxRecDepth 10000 in
theorem pt100 : PT[100]? = some e100 := rfl
abbrev e101 : ME := (yX9_feed, cX9_feed, 2, (some .int), 1, false, 9, 8, false)
set_option maxRecDepth 10000 in
theorem pt101 : PT[101]? = some e101 := rfl
abbrev e102 : ME := (yX9_barn, cX9_barn, 1, (some .int), 0, false, 9, 8, false)
set_option maxRecDepth 10000 in
theorem pt102 : PT[102]? = some e102 := rfl
abbrev e103 : ME := (yX9_weight, cX9_weight, 2, (some .int), 1, false, 9, 8, false)
set_option maxRecDepth 10000 in
theorem pt103 : PT[103]? = some e103 := rfl
abbrev e104 : ME := (yX9_set, cX9_set, 4, (some .int), 2, false, 9, 8, false)
set_option maxRecDepth 10000 in
theorem pt104 : PT[104]? = some e104 := rfl
abbrev e105 : ME := (yX9_scale, cX9_scale, 4, (some .int), 2, false, 9, 8, false)
set_option maxRecDepth 10000 in
theorem pt105 : PT[105]? = some e105 := rfl
abbrev e106 : ME := (yX9_would, cX9_would, 3, (some .int), 2, false, 9, 8, false)
set_option maxRecDepth 10000 in
theorem pt106 : PT[106]? = some e106 := rfl
abbrev e107 : ME := (yX9_weigh, cX9_weigh, 5, (some .int), 2, false, 9, 8, false)
set_option maxRecDepth 10000 in
theorem pt107 : PT[107]? = some e107 := rfl
abbrev e108 : ME := (yX9_book, cX9_book, 2, (some .int), 1, false, 9, 8, false)
set_option maxRecDepth 10000 in
theorem pt108 : PT[108]? = some e108 := rfl
abbrev e109 : ME := (yX9_strike, cX9_strike, 1, (some .int), 0, false, 9, 8, false)
set_option maxRecDepth 10000 in
theorem pt109 : PT[109]? = some e109 := rfl
abbrev e110 : ME := (yX9_above, cX9_above, 2, (some .int), 1, false, 9, 8, false)
set_option maxRecDepth 10000 in
theorem pt110 : PT[110]? = some e110 := rfl
abbrev e111 : ME := (yX9_ringed, cX9_ringed, 1, (some .int), 0, false, 9, 8, false)
set_option maxRecDepth 10000 in
theorem pt111 : PT[111]? = some e111 := rfl
abbrev e112 : ME := (yX9_orders, cX9_orders, 2, (some .int), 1, false, 9, 8, false)
set_option maxRecDepth 10000 in
theorem pt112 : PT[112]? = some e112 := rfl
abbrev e113 : ME := (yX9_next, cX9_next, 2, (some .int), 1, false, 9, 8, false)
set_option maxRecDepth 10000 in
theorem pt113 : PT[113]? = some e113 := rfl
abbrev e114 : ME := (yX9_lies, cX9_lies, 1, (some .int), 0, false, 9, 8, false)
set_option maxRecDepth 10000 in
theorem pt114 : PT[114]? = some e114 := rfl
abbrev e115 : ME := (yX9_open, cX9_open, 1, (some .int), 0, false, 9, 8, false)
set_option maxRecDepth 10000 in
theorem pt115 : PT[115]? = some e115 := rfl
abbrev e116 : ME := (yX9_tells, cX9_tells, 3, (some .int), 1, false, 9, 8, false)
set_option maxRecDepth 10000 in
theorem pt116 : PT[116]? = some e116 := rfl
abbrev e117 : ME := (yX9_worst, cX9_worst, 3, (some .int), 1, false, 9, 8, false)
set_option maxRecDepth 10000 in
theorem pt117 : PT[117]? = some e117 := rfl
abbrev e118 : ME := (yX9_mean, cX9_mean, 4, (some .long), 2, false, 9, 8, false)
set_option maxRecDepth 10000 in
theorem pt118 : PT[118]? = some e118 := rfl
abbrev e119 : ME := (yX9_plan, cX9_plan, 2, (some .int), 1, false, 9, 8, false)
set_option maxRecDepth 10000 in
theorem pt119 : PT[119]? = some e119 := rfl
abbrev e120 : ME := (yX9_found, cX9_found, 3, (some .int), 2, false, 9, 8, false)
set_option maxRecDepth 10000 in
theorem pt120 : PT[120]? = some e120 := rfl
abbrev e121 : ME := (yX9_compare, cX9_compare, 4, (some .int), 2, false, 9, 8, false)
set_option maxRecDepth 10000 in
theorem pt121 : PT[121]? = some e121 := rfl
abbrev e122 : ME := (yX9_clear, cX9_clear, 2, (some .int), 0, false, 9, 8, false)
set_option maxRecDepth 10000 in
theorem pt122 : PT[122]? = some e122 := rfl
abbrev e123 : ME := (yX9_sorts, cX9_sorts, 1, (some .int), 0, false, 9, 8, false)
set_option maxRecDepth 10000 in
theorem pt123 : PT[123]? = some e123 := rfl
abbrev e124 : ME := (yX9_gap, cX9_gap, 1, (some .int), 0, false, 9, 8, false)
set_option maxRecDepth 10000 in
theorem pt124 : PT[124]? = some e124 := rfl
abbrev e125 : ME := (yX9_rounds, cX9_rounds, 1, (some .int), 0, false, 9, 8, false)
set_option maxRecDepth 10000 in
theorem pt125 : PT[125]? = some e125 := rfl
abbrev e126 : ME := (yX9_through, cX9_through, 2, (some .int), 1, false, 9, 8, false)
set_option maxRecDepth 10000 in
theorem pt126 : PT[126]? = some e126 := rfl
abbrev e127 : ME := (yX9_idle, cX9_idle, 1, (some .int), 0, false, 9, 8, false)
set_option maxRecDepth 10000 in
theorem pt127 : PT[127]? = some e127 := rfl
abbrev e128 : ME := (yX9_mends, cX9_mends, 1, (some .int), 0, false, 9, 8, false)
set_option maxRecDepth 10000 in
theorem pt128 : PT[128]? = some e128 := rfl
abbrev e129 : ME := (yX9_like, cX9_like, 3, (some .int), 2, false, 9, 8, false)
set_option maxRecDepth 10000 in
theorem pt129 : PT[129]? = some e129 := rfl
abbrev e130 : ME := (yX9_loops, cX9_loops, 1, (some .int), 0, false, 9, 8, false)
set_option maxRecDepth 10000 in
theorem pt130 : PT[130]? = some e130 := rfl
abbrev e131 : ME := (yX9_turns, cX9_turns, 2, (some .int), 1, false, 9, 8, false)
set_option maxRecDepth 10000 in
theorem pt131 : PT[131]? = some e131 := rfl
abbrev e132 : ME := (yX9_law, cX9_law, 3, (some .int), 2, false, 9, 8, false)
set_option maxRecDepth 10000 in
theorem pt132 : PT[132]? = some e132 := rfl
abbrev e133 : ME := (yX9_row, cX9_row, 2, (some .int), 1, false, 9, 8, false)
set_option maxRecDepth 10000 in
theorem pt133 : PT[133]? = some e133 := rfl
abbrev e134 : ME := (yX9_judge, cX9_judge, 2, (some .int), 0, false, 9, 8, false)
set_option maxRecDepth 10000 in
theorem pt134 : PT[134]? = some e134 := rfl
abbrev e135 : ME := (yX9_seeds, cX9_seeds, 4, (some .int), 3, false, 9, 8, false)
set_option maxRecDepth 10000 in
theorem pt135 : PT[135]? = some e135 := rfl
abbrev e136 : ME := (yX9_image, cX9_image, 1, (some .int), 0, false, 9, 8, false)
set_option maxRecDepth 10000 in
theorem pt136 : PT[136]? = some e136 := rfl
abbrev e137 : ME := (yX9_restore, cX9_restore, 1, (some .int), 0, false, 9, 8, false)
set_option maxRecDepth 10000 in
theorem pt137 : PT[137]? = some e137 := rfl
abbrev e138 : ME := (yX9_count, cX9_count, 2, (some .int), 1, false, 9, 8, false)
set_option maxRecDepth 10000 in
theorem pt138 : PT[138]? = some e138 := rfl
abbrev e139 : ME := (yX9_refuse, cX9_refuse, 2, (some .int), 1, false, 9, 8, false)
set_option maxRecDepth 10000 in
theorem pt139 : PT[139]? = some e139 := rfl
abbrev e140 : ME := (yX9_refusalOfWanted, cX9_refusalOfWanted, 2, (some .int), 1, false, 9, 8, false)
set_option maxRecDepth 10000 in
theorem pt140 : PT[140]? = some e140 := rfl
abbrev e141 : ME := (yX9_isKind, cX9_isKind, 1, (some .boolean), 1, true, 9, 8, false)
set_option maxRecDepth 10000 in
theorem pt141 : PT[141]? = some e141 := rfl
abbrev e142 : ME := (yX9_hasBit, cX9_hasBit, 2, (some .boolean), 2, true, 9, 8, false)
set_option maxRecDepth 10000 in
theorem pt142 : PT[142]? = some e142 := rfl
abbrev e143 : ME := (yX10_init, cX10_init, 1, none, 0, false, 10, 9, true)
set_option maxRecDepth 10000 in
theorem pt143 : PT[143]? = some e143 := rfl
abbrev e144 : ME := (yX10_in, cX10_in, 6, (some .boolean), 3, true, 10, 9, true)
set_option maxRecDepth 10000 in
theorem pt144 : PT[144]? = some e144 := rfl
abbrev e145 : ME := (yX10_begin, cX10_begin, 3, none, 1, false, 10, 9, false)
set_option maxRecDepth 10000 in
theorem pt145 : PT[145]? = some e145 := rfl
abbrev e146 : ME := (yX10_refuse, cX10_refuse, 2, (some .int), 1, false, 10, 9, false)
set_option maxRecDepth 10000 in
theorem pt146 : PT[146]? = some e146 := rfl
abbrev e147 : ME := (yX10_isStone, cX10_isStone, 2, (some .boolean), 1, false, 10, 9, false)
set_option maxRecDepth 10000 in
theorem pt147 : PT[147]? = some e147 := rfl
abbrev e148 : ME := (yX10_areTwo, cX10_areTwo, 3, (some .boolean), 2, false, 10, 9, false)
set_option maxRecDepth 10000 in
theorem pt148 : PT[148]? = some e148 := rfl
abbrev e149 : ME := (yX10_wrongNumber, cX10_wrongNumber, 3, (some .int), 3, true, 10, 9, false)
set_option maxRecDepth 10000 in
theorem pt149 : PT[149]? = some e149 := rfl
abbrev e150 : ME := (yX10_ones, cX10_ones, 3, (some .int), 1, true, 10, 9, false)
set_option maxRecDepth 10000 in
theorem pt150 : PT[150]? = some e150 := rfl
abbrev e151 : ME := (yX10_signOf, cX10_signOf, 2, (some .int), 2, true, 10, 9, false)
set_option maxRecDepth 10000 in
theorem pt151 : PT[151]? = some e151 := rfl
abbrev e152 : ME := (yX10_toldOf, cX10_toldOf, 8, (some .int), 3, false, 10, 9, false)
set_option maxRecDepth 10000 in
theorem pt152 : PT[152]? = some e152 := rfl
abbrev e153 : ME := (yX10_note, cX10_note, 4, none, 3, false, 10, 9, false)
set_option maxRecDepth 10000 in
theorem pt153 : PT[153]? = some e153 := rfl
abbrev e154 : ME := (yX10_feed, cX10_feed, 2, (some .int), 1, false, 10, 9, false)
set_option maxRecDepth 10000 in
theorem pt154 : PT[154]? = some e154 := rfl
abbrev e155 : ME := (yX10_here, cX10_here, 1, (some .int), 0, false, 10, 9, false)
set_option maxRecDepth 10000 in
theorem pt155 : PT[155]? = some e155 := rfl
abbrev e156 : ME := (yX10_readDigit, cX10_readDigit, 1, (some .int), 0, false, 10, 9, false)
set_option maxRecDepth 10000 in
theorem pt156 : PT[156]? = some e156 := rfl
abbrev e157 : ME := (yX10_readStatement, cX10_readStatement, 4, none, 0, false, 10, 9, false)
set_option maxRecDepth 10000 in
theorem pt157 : PT[157]? = some e157 := rfl
abbrev e158 : ME := (yX10_noteComes, cX10_noteComes, 5, (some .boolean), 3, false, 10, 9, false)
set_option maxRecDepth 10000 in
theorem pt158 : PT[158]? = some e158 := rfl
abbrev e159 : ME := (yX10_comparisonComes, cX10_comparisonComes, 4, (some .boolean), 2, false, 10, 9, false)
set_option maxRecDepth 10000 in
theorem pt159 : PT[159]? = some e159 := rfl
abbrev e160 : ME := (yX10_prefer, cX10_prefer, 3, none, 2, false, 10, 9, false)
set_option maxRecDepth 10000 in
theorem pt160 : PT[160]? = some e160 := rfl
abbrev e161 : ME := (yX10_comes, cX10_comes, 4, (some .boolean), 1, false, 10, 9, false)
set_option maxRecDepth 10000 in
theorem pt161 : PT[161]? = some e161 := rfl
abbrev e162 : ME := (yX10_barn, cX10_barn, 2, (some .int), 0, false, 10, 9, false)
set_option maxRecDepth 10000 in
theorem pt162 : PT[162]? = some e162 := rfl
abbrev e163 : ME := (yX10_carry, cX10_carry, 2, (some .int), 1, false, 10, 9, false)
set_option maxRecDepth 10000 in
theorem pt163 : PT[163]? = some e163 := rfl
abbrev e164 : ME := (yX10_carryAll, cX10_carryAll, 4, none, 2, false, 10, 9, false)
set_option maxRecDepth 10000 in
theorem pt164 : PT[164]? = some e164 := rfl
abbrev e165 : ME := (yX10_image, cX10_image, 1, (some .int), 0, false, 10, 9, false)
set_option maxRecDepth 10000 in
theorem pt165 : PT[165]? = some e165 := rfl
abbrev e166 : ME := (yX10_restore, cX10_restore, 1, (some .int), 0, false, 10, 9, false)
set_option maxRecDepth 10000 in
theorem pt166 : PT[166]? = some e166 := rfl
abbrev e167 : ME := (yX10_weight, cX10_weight, 2, (some .int), 1, false, 10, 9, false)
set_option maxRecDepth 10000 in
theorem pt167 : PT[167]? = some e167 := rfl
abbrev e168 : ME := (yX10_set, cX10_set, 5, (some .int), 2, false, 10, 9, false)
set_option maxRecDepth 10000 in
theorem pt168 : PT[168]? = some e168 := rfl
abbrev e169 : ME := (yX10_scale, cX10_scale, 5, (some .int), 2, false, 10, 9, false)
set_option maxRecDepth 10000 in
theorem pt169 : PT[169]? = some e169 := rfl
abbrev e170 : ME := (yX10_would, cX10_would, 3, (some .int), 2, false, 10, 9, false)
set_option maxRecDepth 10000 in
theorem pt170 : PT[170]? = some e170 := rfl
abbrev e171 : ME := (yX10_weigh, cX10_weigh, 3, (some .int), 2, false, 10, 9, false)
set_option maxRecDepth 10000 in
theorem pt171 : PT[171]? = some e171 := rfl
abbrev e172 : ME := (yX10_book, cX10_book, 2, (some .int), 1, false, 10, 9, false)
set_option maxRecDepth 10000 in
theorem pt172 : PT[172]? = some e172 := rfl
abbrev e173 : ME := (yX10_strike, cX10_strike, 1, (some .int), 0, false, 10, 9, false)
set_option maxRecDepth 10000 in
theorem pt173 : PT[173]? = some e173 := rfl
abbrev e174 : ME := (yX10_closeOver, cX10_closeOver, 3, none, 0, false, 10, 9, false)
set_option maxRecDepth 10000 in
theorem pt174 : PT[174]? = some e174 := rfl
abbrev e175 : ME := (yX10_know, cX10_know, 4, none, 1, false, 10, 9, false)
set_option maxRecDepth 10000 in
theorem pt175 : PT[175]? = some e175 := rfl
abbrev e176 : ME := (yX10_isOver, cX10_isOver, 3, (some .boolean), 2, false, 10, 9, false)
set_option maxRecDepth 10000 in
theorem pt176 : PT[176]? = some e176 := rfl
abbrev e177 : ME := (yX10_ringBits, cX10_ringBits, 3, (some .int), 0, false, 10, 9, false)
set_option maxRecDepth 10000 in
theorem pt177 : PT[177]? = some e177 := rfl
abbrev e178 : ME := (yX10_above, cX10_above, 2, (some .int), 1, false, 10, 9, false)
set_option maxRecDepth 10000 in
theorem pt178 : PT[178]? = some e178 := rfl
abbrev e179 : ME := (yX10_ringed, cX10_ringed, 1, (some .int), 0, false, 10, 9, false)
set_option maxRecDepth 10000 in
theorem pt179 : PT[179]? = some e179 := rfl
abbrev e180 : ME := (yX10_lies, cX10_lies, 4, (some .int), 0, false, 10, 9, false)
set_option maxRecDepth 10000 in
theorem pt180 : PT[180]? = some e180 := rfl
abbrev e181 : ME := (yX10_open, cX10_open, 4, (some .int), 0, false, 10, 9, false)
set_option maxRecDepth 10000 in
theorem pt181 : PT[181]? = some e181 := rfl
abbrev e182 : ME := (yX10_codes, cX10_codes, 3, (some .int), 0, false, 10, 9, false)
set_option maxRecDepth 10000 in
theorem pt182 : PT[182]? = some e182 := rfl
abbrev e183 : ME := (yX10_layOrder, cX10_layOrder, 5, (some .boolean), 1, false, 10, 9, false)
set_option maxRecDepth 10000 in
theorem pt183 : PT[183]? = some e183 := rfl
abbrev e184 : ME := (yX10_fits, cX10_fits, 4, (some .boolean), 0, false, 10, 9, false)
set_option maxRecDepth 10000 in
theorem pt184 : PT[184]? = some e184 := rfl
abbrev e185 : ME := (yX10_findOrders, cX10_findOrders, 3, none, 0, false, 10, 9, false)
set_option maxRecDepth 10000 in
theorem pt185 : PT[185]? = some e185 := rfl
abbrev e186 : ME := (yX10_countAhead, cX10_countAhead, 3, none, 0, false, 10, 9, false)
set_option maxRecDepth 10000 in
theorem pt186 : PT[186]? = some e186 := rfl
abbrev e187 : ME := (yX10_orders, cX10_orders, 2, (some .int), 1, false, 10, 9, false)
set_option maxRecDepth 10000 in
theorem pt187 : PT[187]? = some e187 := rfl
abbrev e188 : ME := (yX10_next, cX10_next, 11, (some .int), 1, false, 10, 9, false)
set_option maxRecDepth 10000 in
theorem pt188 : PT[188]? = some e188 := rfl
abbrev e189 : ME := (yX10_bitOf, cX10_bitOf, 2, (some .int), 2, true, 10, 9, false)
set_option maxRecDepth 10000 in
theorem pt189 : PT[189]? = some e189 := rfl
abbrev e190 : ME := (yX10_knownBits, cX10_knownBits, 4, (some .int), 0, false, 10, 9, false)
set_option maxRecDepth 10000 in
theorem pt190 : PT[190]? = some e190 := rfl
abbrev e191 : ME := (yX10_layKnown, cX10_layKnown, 4, none, 1, false, 10, 9, false)
set_option maxRecDepth 10000 in
theorem pt191 : PT[191]? = some e191 := rfl
abbrev e192 : ME := (yX10_wantedIn, cX10_wantedIn, 4, (some .int), 1, false, 10, 9, false)
set_option maxRecDepth 10000 in
theorem pt192 : PT[192]? = some e192 := rfl
abbrev e193 : ME := (yX10_areAgreed, cX10_areAgreed, 7, (some .boolean), 1, false, 10, 9, false)
set_option maxRecDepth 10000 in
theorem pt193 : PT[193]? = some e193 := rfl
abbrev e194 : ME := (yX10_withAbove, cX10_withAbove, 4, (some .int), 3, false, 10, 9, false)
set_option maxRecDepth 10000 in
theorem pt194 : PT[194]? = some e194 := rfl
abbrev e195 : ME := (yX10_solve, cX10_solve, 12, none, 2, false, 10, 9, false)
set_option maxRecDepth 10000 in
theorem pt195 : PT[195]? = some e195 := rfl
abbrev e196 : ME := (yX10_isWhole, cX10_isWhole, 4, (some .boolean), 1, false, 10, 9, false)
set_option maxRecDepth 10000 in
theorem pt196 : PT[196]? = some e196 := rfl
abbrev e197 : ME := (yX10_solveAll, cX10_solveAll, 4, none, 1, false, 10, 9, false)
set_option maxRecDepth 10000 in
theorem pt197 : PT[197]? = some e197 := rfl
abbrev e198 : ME := (yX10_onesOf, cX10_onesOf, 3, (some .int), 1, true, 10, 9, false)
set_option maxRecDepth 10000 in
theorem pt198 : PT[198]? = some e198 := rfl
abbrev e199 : ME := (yX10_wrongWanted, cX10_wrongWanted, 2, (some .int), 1, false, 10, 9, false)
set_option maxRecDepth 10000 in
theorem pt199 : PT[199]? = some e199 := rfl
abbrev e200 : ME := (yX10_tells, cX10_tells, 3, (some .int), 1, false, 10, 9, false)
set_option maxRecDepth 10000 in
theorem pt200 : PT[200]? = some e200 := rfl
abbrev e201 : ME := (yX10_worst, cX10_worst, 4, (some .int), 1, false, 10, 9, false)
set_option maxRecDepth 10000 in
theorem pt201 : PT[201]? = some e201 := rfl
abbrev e202 : ME := (yX10_divisor, cX10_divisor, 5, (some .int), 2, true, 10, 9, false)
set_option maxRecDepth 10000 in
theorem pt202 : PT[202]? = some e202 := rfl
abbrev e203 : ME := (yX10_mean, cX10_mean, 6, (some .long), 2, false, 10, 9, false)
set_option maxRecDepth 10000 in
theorem pt203 : PT[203]? = some e203 := rfl
abbrev e204 : ME := (yX10_isHeavier, cX10_isHeavier, 3, (some .boolean), 2, false, 10, 9, false)
set_option maxRecDepth 10000 in
theorem pt204 : PT[204]? = some e204 := rfl
abbrev e205 : ME := (yX10_endOf, cX10_endOf, 6, (some .int), 2, false, 10, 9, false)
set_option maxRecDepth 10000 in
theorem pt205 : PT[205]? = some e205 := rfl
abbrev e206 : ME := (yX10_planOne, cX10_planOne, 3, none, 0, false, 10, 9, false)
set_option maxRecDepth 10000 in
theorem pt206 : PT[206]? = some e206 := rfl
abbrev e207 : ME := (yX10_planPairs, cX10_planPairs, 4, none, 0, false, 10, 9, false)
set_option maxRecDepth 10000 in
theorem pt207 : PT[207]? = some e207 := rfl
abbrev e208 : ME := (yX10_planCup, cX10_planCup, 7, none, 0, false, 10, 9, false)
set_option maxRecDepth 10000 in
theorem pt208 : PT[208]? = some e208 := rfl
abbrev e209 : ME := (yX10_insertAll, cX10_insertAll, 9, none, 2, false, 10, 9, false)
set_option maxRecDepth 10000 in
theorem pt209 : PT[209]? = some e209 := rfl
abbrev e210 : ME := (yX10_mergeRows, cX10_mergeRows, 8, none, 2, false, 10, 9, false)
set_option maxRecDepth 10000 in
theorem pt210 : PT[210]? = some e210 := rfl
abbrev e211 : ME := (yX10_planMerge, cX10_planMerge, 5, none, 1, false, 10, 9, false)
set_option maxRecDepth 10000 in
theorem pt211 : PT[211]? = some e211 := rfl
abbrev e212 : ME := (yX10_planAll, cX10_planAll, 3, none, 1, false, 10, 9, false)
set_option maxRecDepth 10000 in
theorem pt212 : PT[212]? = some e212 := rfl
abbrev e213 : ME := (yX10_planBy, cX10_planBy, 2, none, 1, false, 10, 9, false)
set_option maxRecDepth 10000 in
theorem pt213 : PT[213]? = some e213 := rfl
abbrev e214 : ME := (yX10_plan, cX10_plan, 2, (some .int), 1, false, 10, 9, false)
set_option maxRecDepth 10000 in
theorem pt214 : PT[214]? = some e214 := rfl
abbrev e215 : ME := (yX10_found, cX10_found, 3, (some .int), 2, false, 10, 9, false)
set_option maxRecDepth 10000 in
theorem pt215 : PT[215]? = some e215 := rfl
abbrev e216 : ME := (yX10_compare, cX10_compare, 3, (some .int), 2, false, 10, 9, false)
set_option maxRecDepth 10000 in
theorem pt216 : PT[216]? = some e216 := rfl
abbrev e217 : ME := (yX10_clear, cX10_clear, 2, (some .int), 0, false, 10, 9, false)
set_option maxRecDepth 10000 in
theorem pt217 : PT[217]? = some e217 := rfl
abbrev e218 : ME := (yX10_passOne, cX10_passOne, 5, (some .int), 3, false, 10, 9, false)
set_option maxRecDepth 10000 in
theorem pt218 : PT[218]? = some e218 := rfl
abbrev e219 : ME := (yX10_passAll, cX10_passAll, 5, (some .int), 1, false, 10, 9, false)
set_option maxRecDepth 10000 in
theorem pt219 : PT[219]? = some e219 := rfl
abbrev e220 : ME := (yX10_isInOrder, cX10_isInOrder, 1, (some .boolean), 1, true, 10, 9, false)
set_option maxRecDepth 10000 in
theorem pt220 : PT[220]? = some e220 := rfl
abbrev e221 : ME := (yX10_gapWith, cX10_gapWith, 6, (some .int), 2, false, 10, 9, false)
set_option maxRecDepth 10000 in
theorem pt221 : PT[221]? = some e221 := rfl
abbrev e222 : ME := (yX10_sorts, cX10_sorts, 1, (some .int), 0, false, 10, 9, false)
set_option maxRecDepth 10000 in
theorem pt222 : PT[222]? = some e222 := rfl
abbrev e223 : ME := (yX10_gap, cX10_gap, 1, (some .int), 0, false, 10, 9, false)
set_option maxRecDepth 10000 in
theorem pt223 : PT[223]? = some e223 := rfl
abbrev e224 : ME := (yX10_rounds, cX10_rounds, 6, (some .int), 0, false, 10, 9, false)
set_option maxRecDepth 10000 in
theorem pt224 : PT[224]? = some e224 := rfl
abbrev e225 : ME := (yX10_through, cX10_through, 6, (some .int), 1, false, 10, 9, false)
set_option maxRecDepth 10000 in
theorem pt225 : PT[225]? = some e225 := rfl
abbrev e226 : ME := (yX10_idle, cX10_idle, 1, (some .int), 0, false, 10, 9, false)
set_option maxRecDepth 10000 in
theorem pt226 : PT[226]? = some e226 := rfl
abbrev e227 : ME := (yX10_mends, cX10_mends, 6, (some .int), 0, false, 10, 9, false)
set_option maxRecDepth 10000 in
theorem pt227 : PT[227]? = some e227 := rfl
abbrev e228 : ME := (yX10_isLiked, cX10_isLiked, 3, (some .boolean), 2, false, 10, 9, false)
set_option maxRecDepth 10000 in
theorem pt228 : PT[228]? = some e228 := rfl
abbrev e229 : ME := (yX10_like, cX10_like, 4, (some .int), 2, false, 10, 9, false)
set_option maxRecDepth 10000 in
theorem pt229 : PT[229]? = some e229 := rfl
abbrev e230 : ME := (yX10_isLoop, cX10_isLoop, 4, (some .boolean), 3, false, 10, 9, false)
set_option maxRecDepth 10000 in
theorem pt230 : PT[230]? = some e230 := rfl
abbrev e231 : ME := (yX10_loops, cX10_loops, 5, (some .int), 0, false, 10, 9, false)
set_option maxRecDepth 10000 in
theorem pt231 : PT[231]? = some e231 := rfl
abbrev e232 : ME := (yX10_against, cX10_against, 4, (some .int), 0, false, 10, 9, false)
set_option maxRecDepth 10000 in
theorem pt232 : PT[232]? = some e232 := rfl
abbrev e233 : ME := (yX10_turns, cX10_turns, 7, (some .int), 1, false, 10, 9, false)
set_option maxRecDepth 10000 in
theorem pt233 : PT[233]? = some e233 := rfl
abbrev e234 : ME := (yX10_halvings, cX10_halvings, 3, (some .int), 1, true, 10, 9, false)
set_option maxRecDepth 10000 in
theorem pt234 : PT[234]? = some e234 := rfl
abbrev e235 : ME := (yX10_byInsert, cX10_byInsert, 3, (some .int), 1, true, 10, 9, false)
set_option maxRecDepth 10000 in
theorem pt235 : PT[235]? = some e235 := rfl
abbrev e236 : ME := (yX10_byOrders, cX10_byOrders, 4, (some .int), 1, true, 10, 9, true)
set_option maxRecDepth 10000 in
theorem pt236 : PT[236]? = some e236 := rfl
abbrev e237 : ME := (yX10_law, cX10_law, 4, (some .int), 2, false, 10, 9, false)
set_option maxRecDepth 10000 in
theorem pt237 : PT[237]? = some e237 := rfl
abbrev e238 : ME := (yX10_row, cX10_row, 2, (some .int), 1, false, 10, 9, false)
set_option maxRecDepth 10000 in
theorem pt238 : PT[238]? = some e238 := rfl
abbrev e239 : ME := (yX10_judge, cX10_judge, 5, (some .int), 0, false, 10, 9, false)
set_option maxRecDepth 10000 in
theorem pt239 : PT[239]? = some e239 := rfl
abbrev e240 : ME := (yX10_seeds, cX10_seeds, 9, (some .int), 3, false, 10, 9, false)
set_option maxRecDepth 10000 in
theorem pt240 : PT[240]? = some e240 := rfl
abbrev e241 : ME := (yX10_count, cX10_count, 5, (some .int), 1, false, 10, 9, false)
set_option maxRecDepth 10000 in
theorem pt241 : PT[241]? = some e241 := rfl
abbrev e242 : ME := (yJ6_bitCount_0f7a4, cJ6_bitCount_0f7a4, 1, (some .int), 1, true, 11, 99, false)
set_option maxRecDepth 10000 in
theorem pt242 : PT[242]? = some e242 := rfl
abbrev e243 : ME := (yL_law, cL_law, 4, (some .boolean), 1, true, 12, 99, false)
set_option maxRecDepth 10000 in
theorem pt243 : PT[243]? = some e243 := rfl
theorem fr_0_9 : FR 0 9 = some (0, 1, false, 126) := by decide +kernel
theorem fr_0_15 : FR 0 15 = some (0, 5, false, 134) := by decide +kernel
theorem fr_0_18 : FR 0 18 = some (0, 6, false, 137) := by decide +kernel
theorem fr_0_21 : FR 0 21 = some (0, 7, false, 140) := by decide +kernel
theorem fr_0_24 : FR 0 24 = some (0, 9, false, 146) := by decide +kernel
theorem fr_0_27 : FR 0 27 = some (0, 10, false, 148) := by decide +kernel
theorem fr_0_30 : FR 0 30 = some (0, 11, false, 150) := by decide +kernel
theorem fr_0_33 : FR 0 33 = some (0, 2, false, 129) := by decide +kernel
theorem fr_0_37 : FR 0 37 = some (0, 3, false, 130) := by decide +kernel
theorem fr_0_44 : FR 0 44 = some (0, 0, false, 121) := by decide +kernel
theorem fr_0_47 : FR 0 47 = some (0, 4, false, 131) := by decide +kernel
theorem fr_0_50 : FR 0 50 = some (0, 8, false, 143) := by decide +kernel
theorem fr_1_9 : FR 1 9 = some (1, 0, false, 203) := by decide +kernel
theorem fr_1_15 : FR 1 15 = some (1, 1, false, 205) := by decide +kernel
theorem fr_1_19 : FR 1 19 = some (1, 2, false, 208) := by decide +kernel
theorem fr_1_22 : FR 1 22 = some (1, 3, false, 209) := by decide +kernel
theorem fr_1_29 : FR 1 29 = some (0, 0, true, 123) := by decide +kernel
theorem fr_1_32 : FR 1 32 = some (0, 4, true, 132) := by decide +kernel
theorem fr_1_35 : FR 1 35 = some (0, 7, true, 141) := by decide +kernel
theorem fr_1_42 : FR 1 42 = some (0, 5, true, 135) := by decide +kernel
theorem fr_1_45 : FR 1 45 = some (0, 6, true, 138) := by decide +kernel
theorem fr_3_9 : FR 3 9 = some (2, 0, false, 303) := by decide +kernel
theorem fr_3_15 : FR 3 15 = some (2, 1, false, 304) := by decide +kernel
theorem fr_3_19 : FR 3 19 = some (2, 2, false, 305) := by decide +kernel
theorem fr_3_22 : FR 3 22 = some (0, 0, true, 122) := by decide +kernel
theorem fr_3_25 : FR 3 25 = some (0, 11, true, 151) := by decide +kernel
theorem fr_4_9 : FR 4 9 = some (3, 0, false, 290) := by decide +kernel
theorem fr_4_15 : FR 4 15 = some (3, 1, false, 291) := by decide +kernel
theorem fr_4_22 : FR 4 22 = some (0, 0, true, 124) := by decide +kernel
theorem fr_4_28 : FR 4 28 = some (0, 8, true, 144) := by decide +kernel
theorem fr_4_31 : FR 4 31 = some (0, 9, true, 147) := by decide +kernel
theorem fr_4_34 : FR 4 34 = some (0, 10, true, 149) := by decide +kernel
theorem fr_4_58 : FR 4 58 = some (0, 1, true, 128) := by decide +kernel
theorem fr_5_9 : FR 5 9 = some (4, 0, false, 253) := by decide +kernel
theorem fr_5_15 : FR 5 15 = some (4, 1, false, 254) := by decide +kernel
theorem fr_5_19 : FR 5 19 = some (4, 2, false, 255) := by decide +kernel
theorem fr_5_22 : FR 5 22 = some (4, 3, false, 256) := by decide +kernel
theorem fr_5_25 : FR 5 25 = some (4, 4, false, 257) := by decide +kernel
theorem fr_5_28 : FR 5 28 = some (4, 5, false, 258) := by decide +kernel
theorem fr_5_31 : FR 5 31 = some (4, 6, false, 259) := by decide +kernel
theorem fr_5_34 : FR 5 34 = some (4, 7, false, 260) := by decide +kernel
theorem fr_5_37 : FR 5 37 = some (4, 8, false, 261) := by decide +kernel
theorem fr_5_40 : FR 5 40 = some (4, 9, false, 262) := by decide +kernel
theorem fr_6_9 : FR 6 9 = some (5, 0, false, 186) := by decide +kernel
theorem fr_6_15 : FR 6 15 = some (5, 1, false, 187) := by decide +kernel
theorem fr_6_22 : FR 6 22 = some (5, 2, false, 189) := by decide +kernel
theorem fr_7_9 : FR 7 9 = some (6, 0, false, 319) := by decide +kernel
theorem fr_7_15 : FR 7 15 = some (6, 1, false, 320) := by decide +kernel
theorem fr_8_9 : FR 8 9 = some (7, 0, false, 225) := by decide +kernel
theorem fr_8_15 : FR 8 15 = some (7, 1, false, 226) := by decide +kernel
theorem fr_8_18 : FR 8 18 = some (7, 2, false, 227) := by decide +kernel
theorem fr_8_22 : FR 8 22 = some (7, 3, false, 228) := by decide +kernel
theorem fr_8_25 : FR 8 25 = some (7, 4, false, 229) := by decide +kernel
theorem fr_8_28 : FR 8 28 = some (7, 5, false, 230) := by decide +kernel
theorem fr_8_31 : FR 8 31 = some (7, 6, false, 231) := by decide +kernel
theorem fr_8_56 : FR 8 56 = some (1, 0, true, 204) := by decide +kernel
theorem fr_8_63 : FR 8 63 = some (1, 1, true, 206) := by decide +kernel
theorem fr_9_10 : FR 9 10 = some (8, 0, false, 326) := by decide +kernel
theorem fr_9_16 : FR 9 16 = some (8, 1, false, 327) := by decide +kernel
theorem fr_9_19 : FR 9 19 = some (8, 2, false, 328) := by decide +kernel
theorem fr_9_26 : FR 9 26 = some (8, 3, false, 329) := by decide +kernel
theorem fr_9_33 : FR 9 33 = some (8, 4, false, 330) := by decide +kernel
theorem fr_9_40 : FR 9 40 = some (8, 5, false, 331) := by decide +kernel
theorem fr_9_47 : FR 9 47 = some (8, 6, false, 332) := by decide +kernel
theorem fr_9_54 : FR 9 54 = some (8, 7, false, 333) := by decide +kernel
theorem fr_9_61 : FR 9 61 = some (8, 8, false, 334) := by decide +kernel
theorem fr_9_68 : FR 9 68 = some (8, 9, false, 335) := by decide +kernel
theorem fr_9_72 : FR 9 72 = some (8, 10, false, 336) := by decide +kernel
theorem fr_9_76 : FR 9 76 = some (8, 11, false, 337) := by decide +kernel
theorem fr_9_80 : FR 9 80 = some (8, 12, false, 338) := by decide +kernel
theorem fr_9_102 : FR 9 102 = some (0, 1, true, 127) := by decide +kernel
theorem fr_9_122 : FR 9 122 = some (0, 4, true, 133) := by decide +kernel
theorem fr_9_136 : FR 9 136 = some (0, 5, true, 136) := by decide +kernel
theorem fr_9_139 : FR 9 139 = some (0, 6, true, 139) := by decide +kernel
theorem fr_9_142 : FR 9 142 = some (0, 7, true, 142) := by decide +kernel
theorem fr_9_149 : FR 9 149 = some (1, 1, true, 207) := by decide +kernel
theorem fr_9_192 : FR 9 192 = some (0, 0, true, 125) := by decide +kernel
theorem fr_9_208 : FR 9 208 = some (0, 8, true, 145) := by decide +kernel
theorem fr_9_262 : FR 9 262 = some (5, 1, true, 188) := by decide +kernel
theorem fr_10_7 : FR 10 7 = some (9, 0, false, 950) := by decide +kernel
theorem fr_10_13 : FR 10 13 = some (9, 5, false, 955) := by decide +kernel
theorem fr_10_17 : FR 10 17 = some (9, 6, false, 956) := by decide +kernel
theorem fr_10_20 : FR 10 20 = some (9, 7, false, 957) := by decide +kernel
theorem fr_10_23 : FR 10 23 = some (9, 8, false, 958) := by decide +kernel
theorem fr_10_26 : FR 10 26 = some (9, 9, false, 959) := by decide +kernel
theorem fr_10_29 : FR 10 29 = some (9, 10, false, 960) := by decide +kernel
theorem fr_10_32 : FR 10 32 = some (9, 11, false, 961) := by decide +kernel
theorem fr_10_35 : FR 10 35 = some (9, 13, false, 963) := by decide +kernel
theorem fr_10_38 : FR 10 38 = some (9, 14, false, 964) := by decide +kernel
theorem fr_10_41 : FR 10 41 = some (9, 19, false, 969) := by decide +kernel
theorem fr_10_44 : FR 10 44 = some (9, 20, false, 970) := by decide +kernel
theorem fr_10_47 : FR 10 47 = some (9, 21, false, 971) := by decide +kernel
theorem fr_10_50 : FR 10 50 = some (9, 22, false, 972) := by decide +kernel
theorem fr_10_53 : FR 10 53 = some (9, 23, false, 973) := by decide +kernel
theorem fr_10_56 : FR 10 56 = some (9, 28, false, 978) := by decide +kernel
theorem fr_10_59 : FR 10 59 = some (9, 29, false, 979) := by decide +kernel
theorem fr_10_62 : FR 10 62 = some (9, 32, false, 982) := by decide +kernel
theorem fr_10_65 : FR 10 65 = some (9, 33, false, 983) := by decide +kernel
theorem fr_10_68 : FR 10 68 = some (9, 34, false, 984) := by decide +kernel
theorem fr_10_71 : FR 10 71 = some (9, 37, false, 987) := by decide +kernel
theorem fr_10_74 : FR 10 74 = some (9, 38, false, 988) := by decide +kernel
theorem fr_10_77 : FR 10 77 = some (9, 40, false, 990) := by decide +kernel
theorem fr_10_80 : FR 10 80 = some (9, 41, false, 991) := by decide +kernel
theorem fr_10_83 : FR 10 83 = some (9, 42, false, 992) := by decide +kernel
theorem fr_10_86 : FR 10 86 = some (9, 43, false, 993) := by decide +kernel
theorem fr_10_89 : FR 10 89 = some (9, 44, false, 994) := by decide +kernel
theorem fr_10_92 : FR 10 92 = some (9, 46, false, 996) := by decide +kernel
theorem fr_10_95 : FR 10 95 = some (9, 47, false, 997) := by decide +kernel
theorem fr_10_98 : FR 10 98 = some (9, 12, false, 962) := by decide +kernel
theorem fr_10_105 : FR 10 105 = some (9, 3, false, 953) := by decide +kernel
theorem fr_10_108 : FR 10 108 = some (9, 4, false, 954) := by decide +kernel
theorem fr_10_123 : FR 10 123 = some (9, 2, false, 952) := by decide +kernel
theorem fr_10_126 : FR 10 126 = some (9, 1, false, 951) := by decide +kernel
theorem fr_10_133 : FR 10 133 = some (9, 15, false, 965) := by decide +kernel
theorem fr_10_136 : FR 10 136 = some (9, 16, false, 966) := by decide +kernel
theorem fr_10_139 : FR 10 139 = some (9, 17, false, 967) := by decide +kernel
theorem fr_10_151 : FR 10 151 = some (9, 18, false, 968) := by decide +kernel
theorem fr_10_190 : FR 10 190 = some (9, 26, false, 976) := by decide +kernel
theorem fr_10_193 : FR 10 193 = some (9, 27, false, 977) := by decide +kernel
theorem fr_10_196 : FR 10 196 = some (9, 25, false, 975) := by decide +kernel
theorem fr_10_202 : FR 10 202 = some (9, 24, false, 974) := by decide +kernel
theorem fr_10_226 : FR 10 226 = some (9, 30, false, 980) := by decide +kernel
theorem fr_10_229 : FR 10 229 = some (9, 31, false, 981) := by decide +kernel
theorem fr_10_251 : FR 10 251 = some (9, 35, false, 985) := by decide +kernel
theorem fr_10_290 : FR 10 290 = some (9, 36, false, 986) := by decide +kernel
theorem fr_10_300 : FR 10 300 = some (9, 39, false, 989) := by decide +kernel
theorem fr_10_330 : FR 10 330 = some (9, 45, false, 995) := by decide +kernel
theorem fr_10_362 : FR 10 362 = some (9, 48, false, 998) := by decide +kernel
theorem mr_0_40 : MR 0 40 = some (1, false, 117) := by decide +kernel
theorem mr_0_53 : MR 0 53 = some (1003, false, 404) := by decide +kernel
theorem mr_0_59 : MR 0 59 = some (3, false, 428) := by decide +kernel
theorem mr_0_63 : MR 0 63 = some (141, true, 444) := by decide +kernel
theorem mr_0_66 : MR 0 66 = some (4, false, 459) := by decide +kernel
theorem mr_0_70 : MR 0 70 = some (142, true, 476) := by decide +kernel
theorem mr_0_73 : MR 0 73 = some (242, false, 935) := by decide +kernel
theorem mr_0_79 : MR 0 79 = some (17, false, 517) := by decide +kernel
theorem mr_0_83 : MR 0 83 = some (18, false, 524) := by decide +kernel
theorem mr_0_86 : MR 0 86 = some (1002, false, 521) := by decide +kernel
theorem mr_0_91 : MR 0 91 = some (16, false, 901) := by decide +kernel
theorem mr_1_25 : MR 1 25 = some (22, false, 549) := by decide +kernel
theorem mr_1_38 : MR 1 38 = some (18, false, 553) := by decide +kernel
theorem mr_1_48 : MR 1 48 = some (23, false, 554) := by decide +kernel
theorem mr_1_51 : MR 1 51 = some (142, true, 558) := by decide +kernel
theorem mr_1_55 : MR 1 55 = some (21, false, 612) := by decide +kernel
theorem mr_1_59 : MR 1 59 = some (24, false, 579) := by decide +kernel
theorem mr_1_63 : MR 1 63 = some (26, false, 593) := by decide +kernel
theorem mr_1_66 : MR 1 66 = some (28, false, 592) := by decide +kernel
theorem mr_1_69 : MR 1 69 = some (31, false, 580) := by decide +kernel
theorem mr_1_72 : MR 1 72 = some (29, false, 597) := by decide +kernel
theorem mr_1_76 : MR 1 76 = some (1000, false, 601) := by decide +kernel
theorem mr_2_7 : MR 2 7 = some (34, false, 879) := by decide +kernel
theorem mr_2_13 : MR 2 13 = some (35, false, 882) := by decide +kernel
theorem mr_2_16 : MR 2 16 = some (36, false, 885) := by decide +kernel
theorem mr_3_28 : MR 3 28 = some (39, false, 842) := by decide +kernel
theorem mr_3_32 : MR 3 32 = some (142, true, 845) := by decide +kernel
theorem mr_3_36 : MR 3 36 = some (41, false, 854) := by decide +kernel
theorem mr_3_40 : MR 3 40 = some (1001, false, 859) := by decide +kernel
theorem mr_3_45 : MR 3 45 = some (242, false, 858) := by decide +kernel
theorem mr_3_51 : MR 3 51 = some (44, false, 868) := by decide +kernel
theorem mr_4_18 : MR 4 18 = some (142, true, 783) := by decide +kernel
theorem mr_4_37 : MR 4 37 = some (46, false, 780) := by decide +kernel
theorem mr_4_41 : MR 4 41 = some (47, false, 784) := by decide +kernel
theorem mr_4_45 : MR 4 45 = some (48, false, 824) := by decide +kernel
theorem mr_4_49 : MR 4 49 = some (51, false, 825) := by decide +kernel
theorem mr_4_52 : MR 4 52 = some (1000, false, 799) := by decide +kernel
theorem mr_5_43 : MR 5 43 = some (1001, false, 705) := by decide +kernel
theorem mr_5_49 : MR 5 49 = some (1003, false, 706) := by decide +kernel
theorem mr_5_55 : MR 5 55 = some (61, false, 707) := by decide +kernel
theorem mr_5_58 : MR 5 58 = some (62, false, 727) := by decide +kernel
theorem mr_5_61 : MR 5 61 = some (63, false, 731) := by decide +kernel
theorem mr_5_64 : MR 5 64 = some (65, false, 739) := by decide +kernel
theorem mr_5_68 : MR 5 68 = some (67, false, 747) := by decide +kernel
theorem mr_5_72 : MR 5 72 = some (57, false, 715) := by decide +kernel
theorem mr_5_76 : MR 5 76 = some (59, false, 711) := by decide +kernel
theorem mr_5_80 : MR 5 80 = some (60, false, 719) := by decide +kernel
theorem mr_5_83 : MR 5 83 = some (58, false, 723) := by decide +kernel
theorem mr_5_86 : MR 5 86 = some (64, false, 735) := by decide +kernel
theorem mr_5_90 : MR 5 90 = some (66, false, 743) := by decide +kernel
theorem mr_5_94 : MR 5 94 = some (68, false, 750) := by decide +kernel
theorem mr_6_21 : MR 6 21 = some (0, false, 185) := by decide +kernel
theorem mr_6_26 : MR 6 26 = some (73, false, 390) := by decide +kernel
theorem mr_6_30 : MR 6 30 = some (2, false, 400) := by decide +kernel
theorem mr_6_34 : MR 6 34 = some (77, false, 407) := by decide +kernel
theorem mr_6_38 : MR 6 38 = some (74, false, 394) := by decide +kernel
theorem mr_6_41 : MR 6 41 = some (75, false, 397) := by decide +kernel
theorem mr_6_44 : MR 6 44 = some (76, false, 411) := by decide +kernel
theorem mr_6_47 : MR 6 47 = some (78, false, 415) := by decide +kernel
theorem mr_6_51 : MR 6 51 = some (79, false, 420) := by decide +kernel
theorem mr_6_54 : MR 6 54 = some (80, false, 436) := by decide +kernel
theorem mr_6_57 : MR 6 57 = some (81, false, 451) := by decide +kernel
theorem mr_6_61 : MR 6 61 = some (82, false, 467) := by decide +kernel
theorem mr_6_64 : MR 6 64 = some (83, false, 479) := by decide +kernel
theorem mr_6_67 : MR 6 67 = some (1, false, 419) := by decide +kernel
theorem mr_6_71 : MR 6 71 = some (5, false, 424) := by decide +kernel
theorem mr_6_75 : MR 6 75 = some (6, false, 432) := by decide +kernel
theorem mr_6_78 : MR 6 78 = some (7, false, 440) := by decide +kernel
theorem mr_6_81 : MR 6 81 = some (8, false, 447) := by decide +kernel
theorem mr_6_84 : MR 6 84 = some (9, false, 455) := by decide +kernel
theorem mr_6_87 : MR 6 87 = some (10, false, 463) := by decide +kernel
theorem mr_6_91 : MR 6 91 = some (4, false, 471) := by decide +kernel
theorem mr_6_94 : MR 6 94 = some (13, false, 472) := by decide +kernel
theorem mr_6_97 : MR 6 97 = some (11, false, 483) := by decide +kernel
theorem mr_6_100 : MR 6 100 = some (12, false, 487) := by decide +kernel
theorem mr_7_19 : MR 7 19 = some (86, false, 910) := by decide +kernel
theorem mr_7_23 : MR 7 23 = some (55, false, 917) := by decide +kernel
theorem mr_8_34 : MR 8 34 = some (92, false, 633) := by decide +kernel
theorem mr_8_38 : MR 8 38 = some (97, false, 657) := by decide +kernel
theorem mr_8_42 : MR 8 42 = some (99, false, 669) := by decide +kernel
theorem mr_8_46 : MR 8 46 = some (242, false, 678) := by decide +kernel
theorem mr_8_52 : MR 8 52 = some (91, false, 693) := by decide +kernel
theorem mr_8_59 : MR 8 59 = some (93, false, 637) := by decide +kernel
theorem mr_8_66 : MR 8 66 = some (142, true, 656) := by decide +kernel
theorem mr_8_69 : MR 8 69 = some (1001, false, 641) := by decide +kernel
theorem mr_8_74 : MR 8 74 = some (94, false, 644) := by decide +kernel
theorem mr_8_78 : MR 8 78 = some (95, false, 648) := by decide +kernel
theorem mr_8_81 : MR 8 81 = some (96, false, 652) := by decide +kernel
theorem mr_8_84 : MR 8 84 = some (98, false, 672) := by decide +kernel
theorem mr_8_88 : MR 8 88 = some (1000, false, 677) := by decide +kernel
theorem mr_9_9 : MR 9 9 = some (0, false, 113) := by decide +kernel
theorem mr_9_25 : MR 9 25 = some (69, false, 180) := by decide +kernel
theorem mr_9_32 : MR 9 32 = some (20, false, 199) := by decide +kernel
theorem mr_9_39 : MR 9 39 = some (87, false, 221) := by decide +kernel
theorem mr_9_46 : MR 9 46 = some (54, false, 249) := by decide +kernel
theorem mr_9_53 : MR 9 53 = some (45, false, 286) := by decide +kernel
theorem mr_9_60 : MR 9 60 = some (37, false, 299) := by decide +kernel
theorem mr_9_67 : MR 9 67 = some (84, false, 315) := by decide +kernel
theorem mr_9_83 : MR 9 83 = some (139, false, 370) := by decide +kernel
theorem mr_9_87 : MR 9 87 = some (70, false, 374) := by decide +kernel
theorem mr_9_91 : MR 9 91 = some (71, false, 378) := by decide +kernel
theorem mr_9_94 : MR 9 94 = some (72, false, 386) := by decide +kernel
theorem mr_9_98 : MR 9 98 = some (3, false, 495) := by decide +kernel
theorem mr_9_105 : MR 9 105 = some (5, false, 500) := by decide +kernel
theorem mr_9_109 : MR 9 109 = some (6, false, 501) := by decide +kernel
theorem mr_9_112 : MR 9 112 = some (7, false, 506) := by decide +kernel
theorem mr_9_115 : MR 9 115 = some (8, false, 507) := by decide +kernel
theorem mr_9_118 : MR 9 118 = some (4, false, 512) := by decide +kernel
theorem mr_9_125 : MR 9 125 = some (16, false, 513) := by decide +kernel
theorem mr_9_129 : MR 9 129 = some (9, false, 531) := by decide +kernel
theorem mr_9_132 : MR 9 132 = some (10, false, 532) := by decide +kernel
theorem mr_9_145 : MR 9 145 = some (21, false, 545) := by decide +kernel
theorem mr_9_152 : MR 9 152 = some (24, false, 563) := by decide +kernel
theorem mr_9_156 : MR 9 156 = some (28, false, 571) := by decide +kernel
theorem mr_9_159 : MR 9 159 = some (30, false, 575) := by decide +kernel
theorem mr_9_162 : MR 9 162 = some (32, false, 588) := by decide +kernel
theorem mr_9_166 : MR 9 166 = some (25, false, 608) := by decide +kernel
theorem mr_9_169 : MR 9 169 = some (27, false, 617) := by decide +kernel
theorem mr_9_172 : MR 9 172 = some (140, false, 625) := by decide +kernel
theorem mr_9_175 : MR 9 175 = some (88, false, 629) := by decide +kernel
theorem mr_9_179 : MR 9 179 = some (89, false, 665) := by decide +kernel
theorem mr_9_185 : MR 9 185 = some (90, false, 689) := by decide +kernel
theorem mr_9_189 : MR 9 189 = some (141, false, 700) := by decide +kernel
theorem mr_9_195 : MR 9 195 = some (55, false, 701) := by decide +kernel
theorem mr_9_199 : MR 9 199 = some (56, false, 758) := by decide +kernel
theorem mr_9_202 : MR 9 202 = some (11, false, 766) := by decide +kernel
theorem mr_9_205 : MR 9 205 = some (12, false, 767) := by decide +kernel
theorem mr_9_211 : MR 9 211 = some (48, false, 776) := by decide +kernel
theorem mr_9_214 : MR 9 214 = some (52, false, 795) := by decide +kernel
theorem mr_9_217 : MR 9 217 = some (53, false, 804) := by decide +kernel
theorem mr_9_221 : MR 9 221 = some (49, false, 812) := by decide +kernel
theorem mr_9_224 : MR 9 224 = some (50, false, 820) := by decide +kernel
theorem mr_9_227 : MR 9 227 = some (13, false, 833) := by decide +kernel
theorem mr_9_230 : MR 9 230 = some (38, false, 838) := by decide +kernel
theorem mr_9_233 : MR 9 233 = some (40, false, 850) := by decide +kernel
theorem mr_9_236 : MR 9 236 = some (42, false, 860) := by decide +kernel
theorem mr_9_239 : MR 9 239 = some (43, false, 864) := by decide +kernel
theorem mr_9_240 : MR 9 240 = some (33, false, 876) := by decide +kernel
theorem mr_9_245 : MR 9 245 = some (19, false, 897) := by decide +kernel
theorem mr_9_249 : MR 9 249 = some (85, false, 906) := by decide +kernel
theorem mr_9_253 : MR 9 253 = some (2, false, 922) := by decide +kernel
theorem mr_9_256 : MR 9 256 = some (14, false, 931) := by decide +kernel
theorem mr_9_259 : MR 9 259 = some (15, false, 936) := by decide +kernel
theorem mr_10_101 : MR 10 101 = some (145, false, 946) := by decide +kernel
theorem mr_10_111 : MR 10 111 = some (144, false, 1124) := by decide +kernel
theorem mr_10_115 : MR 10 115 = some (147, false, 1141) := by decide +kernel
theorem mr_10_119 : MR 10 119 = some (151, false, 1197) := by decide +kernel
theorem mr_10_129 : MR 10 129 = some (146, false, 1102) := by decide +kernel
theorem mr_10_143 : MR 10 143 = some (155, false, 1114) := by decide +kernel
theorem mr_10_154 : MR 10 154 = some (156, false, 1118) := by decide +kernel
theorem mr_10_157 : MR 10 157 = some (148, false, 1149) := by decide +kernel
theorem mr_10_161 : MR 10 161 = some (153, false, 1153) := by decide +kernel
theorem mr_10_169 : MR 10 169 = some (158, false, 1145) := by decide +kernel
theorem mr_10_173 : MR 10 173 = some (160, false, 1157) := by decide +kernel
theorem mr_10_177 : MR 10 177 = some (159, false, 1161) := by decide +kernel
theorem mr_10_180 : MR 10 180 = some (157, false, 1110) := by decide +kernel
theorem mr_10_183 : MR 10 183 = some (164, false, 1127) := by decide +kernel
theorem mr_10_187 : MR 10 187 = some (161, false, 1135) := by decide +kernel
theorem mr_10_199 : MR 10 199 = some (163, false, 1131) := by decide +kernel
theorem mr_10_205 : MR 10 205 = some (149, false, 1181) := by decide +kernel
theorem mr_10_211 : MR 10 211 = some (152, false, 1193) := by decide +kernel
theorem mr_10_214 : MR 10 214 = some (174, false, 1220) := by decide +kernel
theorem mr_10_217 : MR 10 217 = some (176, false, 1232) := by decide +kernel
theorem mr_10_220 : MR 10 220 = some (175, false, 1216) := by decide +kernel
theorem mr_10_223 : MR 10 223 = some (177, false, 1228) := by decide +kernel
theorem mr_10_232 : MR 10 232 = some (182, false, 1252) := by decide +kernel
theorem mr_10_235 : MR 10 235 = some (183, false, 1256) := by decide +kernel
theorem mr_10_238 : MR 10 238 = some (184, false, 1260) := by decide +kernel
theorem mr_10_242 : MR 10 242 = some (186, false, 1264) := by decide +kernel
theorem mr_10_245 : MR 10 245 = some (185, false, 1248) := by decide +kernel
theorem mr_10_248 : MR 10 248 = some (189, false, 1296) := by decide +kernel
theorem mr_10_254 : MR 10 254 = some (192, false, 1284) := by decide +kernel
theorem mr_10_257 : MR 10 257 = some (191, false, 1310) := by decide +kernel
theorem mr_10_260 : MR 10 260 = some (190, false, 1292) := by decide +kernel
theorem mr_10_263 : MR 10 263 = some (193, false, 1280) := by decide +kernel
theorem mr_10_267 : MR 10 267 = some (194, false, 1319) := by decide +kernel
theorem mr_10_270 : MR 10 270 = some (198, false, 1303) := by decide +kernel
theorem mr_10_273 : MR 10 273 = some (196, false, 1306) := by decide +kernel
theorem mr_10_276 : MR 10 276 = some (195, false, 1314) := by decide +kernel
theorem mr_10_279 : MR 10 279 = some (199, false, 1276) := by decide +kernel
theorem mr_10_282 : MR 10 282 = some (197, false, 1299) := by decide +kernel
theorem mr_10_287 : MR 10 287 = some (202, false, 1328) := by decide +kernel
theorem mr_10_293 : MR 10 293 = some (204, false, 1347) := by decide +kernel
theorem mr_10_296 : MR 10 296 = some (205, false, 1343) := by decide +kernel
theorem mr_10_303 : MR 10 303 = some (210, false, 1371) := by decide +kernel
theorem mr_10_306 : MR 10 306 = some (209, false, 1363) := by decide +kernel
theorem mr_10_309 : MR 10 309 = some (211, false, 1367) := by decide +kernel
theorem mr_10_312 : MR 10 312 = some (206, false, 1339) := by decide +kernel
theorem mr_10_315 : MR 10 315 = some (207, false, 1351) := by decide +kernel
theorem mr_10_318 : MR 10 318 = some (208, false, 1355) := by decide +kernel
theorem mr_10_321 : MR 10 321 = some (212, false, 1359) := by decide +kernel
theorem mr_10_324 : MR 10 324 = some (213, false, 1335) := by decide +kernel
theorem mr_10_327 : MR 10 327 = some (218, false, 1399) := by decide +kernel
theorem mr_10_333 : MR 10 333 = some (219, false, 1395) := by decide +kernel
theorem mr_10_336 : MR 10 336 = some (220, false, 1403) := by decide +kernel
theorem mr_10_339 : MR 10 339 = some (221, false, 1391) := by decide +kernel
theorem mr_10_342 : MR 10 342 = some (228, false, 1430) := by decide +kernel
theorem mr_10_345 : MR 10 345 = some (230, false, 1438) := by decide +kernel
theorem mr_10_348 : MR 10 348 = some (232, false, 1446) := by decide +kernel
theorem mr_10_351 : MR 10 351 = some (234, false, 1455) := by decide +kernel
theorem mr_10_356 : MR 10 356 = some (235, false, 1458) := by decide +kernel
theorem mr_10_359 : MR 10 359 = some (236, false, 1461) := by decide +kernel
theorem mr_10_368 : MR 10 368 = some (150, false, 1483) := by decide +kernel
theorem mr_12_9 : MR 12 9 = some (100, false, 105) := by decide +kernel
theorem mr_12_12 : MR 12 12 = some (143, false, 942) := by decide +kernel
theorem mr_12_13 : MR 12 13 = some (101, false, 366) := by decide +kernel
theorem mr_12_17 : MR 12 17 = some (154, false, 1098) := by decide +kernel
theorem mr_12_18 : MR 12 18 = some (102, false, 382) := by decide +kernel
theorem mr_12_22 : MR 12 22 = some (162, false, 1106) := by decide +kernel
theorem mr_12_23 : MR 12 23 = some (103, false, 491) := by decide +kernel
theorem mr_12_26 : MR 12 26 = some (167, false, 1173) := by decide +kernel
theorem mr_12_27 : MR 12 27 = some (104, false, 496) := by decide +kernel
theorem mr_12_31 : MR 12 31 = some (168, false, 1177) := by decide +kernel
theorem mr_12_32 : MR 12 32 = some (105, false, 502) := by decide +kernel
theorem mr_12_35 : MR 12 35 = some (169, false, 1184) := by decide +kernel
theorem mr_12_36 : MR 12 36 = some (106, false, 508) := by decide +kernel
theorem mr_12_39 : MR 12 39 = some (170, false, 1189) := by decide +kernel
theorem mr_12_40 : MR 12 40 = some (107, false, 527) := by decide +kernel
theorem mr_12_43 : MR 12 43 = some (171, false, 1200) := by decide +kernel
theorem mr_12_44 : MR 12 44 = some (108, false, 533) := by decide +kernel
theorem mr_12_47 : MR 12 47 = some (172, false, 1204) := by decide +kernel
theorem mr_12_48 : MR 12 48 = some (109, false, 537) := by decide +kernel
theorem mr_12_51 : MR 12 51 = some (173, false, 1208) := by decide +kernel
theorem mr_12_52 : MR 12 52 = some (110, false, 541) := by decide +kernel
theorem mr_12_55 : MR 12 55 = some (178, false, 1212) := by decide +kernel
theorem mr_12_56 : MR 12 56 = some (111, false, 559) := by decide +kernel
theorem mr_12_59 : MR 12 59 = some (179, false, 1224) := by decide +kernel
theorem mr_12_60 : MR 12 60 = some (112, false, 567) := by decide +kernel
theorem mr_12_63 : MR 12 63 = some (187, false, 1244) := by decide +kernel
theorem mr_12_64 : MR 12 64 = some (113, false, 584) := by decide +kernel
theorem mr_12_67 : MR 12 67 = some (188, false, 1268) := by decide +kernel
theorem mr_12_68 : MR 12 68 = some (114, false, 604) := by decide +kernel
theorem mr_12_71 : MR 12 71 = some (180, false, 1236) := by decide +kernel
theorem mr_12_72 : MR 12 72 = some (115, false, 613) := by decide +kernel
theorem mr_12_75 : MR 12 75 = some (181, false, 1240) := by decide +kernel
theorem mr_12_76 : MR 12 76 = some (116, false, 621) := by decide +kernel
theorem mr_12_79 : MR 12 79 = some (200, false, 1272) := by decide +kernel
theorem mr_12_80 : MR 12 80 = some (117, false, 661) := by decide +kernel
theorem mr_12_83 : MR 12 83 = some (201, false, 1288) := by decide +kernel
theorem mr_12_84 : MR 12 84 = some (118, false, 684) := by decide +kernel
theorem mr_12_88 : MR 12 88 = some (203, false, 1323) := by decide +kernel
theorem mr_12_89 : MR 12 89 = some (119, false, 696) := by decide +kernel
theorem mr_12_92 : MR 12 92 = some (214, false, 1331) := by decide +kernel
theorem mr_12_93 : MR 12 93 = some (120, false, 754) := by decide +kernel
theorem mr_12_96 : MR 12 96 = some (215, false, 1375) := by decide +kernel
theorem mr_12_97 : MR 12 97 = some (121, false, 762) := by decide +kernel
theorem mr_12_100 : MR 12 100 = some (216, false, 1379) := by decide +kernel
theorem mr_12_101 : MR 12 101 = some (122, false, 768) := by decide +kernel
theorem mr_12_104 : MR 12 104 = some (217, false, 1383) := by decide +kernel
theorem mr_12_105 : MR 12 105 = some (123, false, 772) := by decide +kernel
theorem mr_12_108 : MR 12 108 = some (222, false, 1387) := by decide +kernel
theorem mr_12_109 : MR 12 109 = some (124, false, 787) := by decide +kernel
theorem mr_12_112 : MR 12 112 = some (223, false, 1406) := by decide +kernel
theorem mr_12_113 : MR 12 113 = some (125, false, 791) := by decide +kernel
theorem mr_12_116 : MR 12 116 = some (224, false, 1410) := by decide +kernel
theorem mr_12_117 : MR 12 117 = some (126, false, 800) := by decide +kernel
theorem mr_12_120 : MR 12 120 = some (225, false, 1414) := by decide +kernel
theorem mr_12_121 : MR 12 121 = some (127, false, 808) := by decide +kernel
theorem mr_12_124 : MR 12 124 = some (226, false, 1418) := by decide +kernel
theorem mr_12_125 : MR 12 125 = some (128, false, 816) := by decide +kernel
theorem mr_12_128 : MR 12 128 = some (227, false, 1422) := by decide +kernel
theorem mr_12_129 : MR 12 129 = some (129, false, 829) := by decide +kernel
theorem mr_12_132 : MR 12 132 = some (229, false, 1426) := by decide +kernel
theorem mr_12_133 : MR 12 133 = some (130, false, 834) := by decide +kernel
theorem mr_12_136 : MR 12 136 = some (231, false, 1434) := by decide +kernel
theorem mr_12_137 : MR 12 137 = some (131, false, 846) := by decide +kernel
theorem mr_12_140 : MR 12 140 = some (233, false, 1442) := by decide +kernel
theorem mr_12_141 : MR 12 141 = some (132, false, 872) := by decide +kernel
theorem mr_12_144 : MR 12 144 = some (237, false, 1450) := by decide +kernel
theorem mr_12_145 : MR 12 145 = some (133, false, 889) := by decide +kernel
theorem mr_12_148 : MR 12 148 = some (238, false, 1464) := by decide +kernel
theorem mr_12_149 : MR 12 149 = some (134, false, 893) := by decide +kernel
theorem mr_12_152 : MR 12 152 = some (239, false, 1468) := by decide +kernel
theorem mr_12_153 : MR 12 153 = some (135, false, 902) := by decide +kernel
theorem mr_12_157 : MR 12 157 = some (240, false, 1472) := by decide +kernel
theorem mr_12_158 : MR 12 158 = some (136, false, 918) := by decide +kernel
theorem mr_12_161 : MR 12 161 = some (165, false, 1165) := by decide +kernel
theorem mr_12_162 : MR 12 162 = some (137, false, 923) := by decide +kernel
theorem mr_12_165 : MR 12 165 = some (166, false, 1169) := by decide +kernel
theorem mr_12_166 : MR 12 166 = some (138, false, 927) := by decide +kernel
theorem mr_12_169 : MR 12 169 = some (241, false, 1479) := by decide +kernel
theorem cr_7_29 : CR 7 29 = some ((1103515245), 914) := by decide +kernel
theorem cr_7_30 : CR 7 30 = some ((2147483647), 915) := by decide +kernel
theorem cr_7_31 : CR 7 31 = some ((65536), 916) := by decide +kernel
theorem cr_8_87 : CR 8 87 = some ((1000000), 676) := by decide +kernel
theorem cr_10_266 : CR 10 266 = some ((99999), 1318) := by decide +kernel
theorem cr_10_365 : CR 10 365 = some ((1103515245), 1476) := by decide +kernel
theorem cr_10_366 : CR 10 366 = some ((2147483647), 1477) := by decide +kernel
theorem cr_10_367 : CR 10 367 = some ((65536), 1478) := by decide +kernel
theorem cr_11_265 : CR 11 265 = some ((1431655765), 681) := by decide +kernel
theorem cr_11_266 : CR 11 266 = some ((858993459), 682) := by decide +kernel
theorem cr_11_267 : CR 11 267 = some ((252645135), 683) := by decide +kernel
theorem lr_2_19 : LR 2 19 = some ((2), 888) := by decide +kernel
theorem lr_9_183 : LR 9 183 = some ((4000000000000000000), 688) := by decide +kernel
theorem lr_10_147 : LR 10 147 = some ((48), 1122) := by decide +kernel
theorem lr_10_149 : LR 10 149 = some ((57), 1123) := by decide +kernel
theorem lr_10_165 : LR 10 165 = some ((2), 1139) := by decide +kernel
theorem lr_10_167 : LR 10 167 = some ((6), 1140) := by decide +kernel
theorem lr_10_209 : LR 10 209 = some ((5), 1188) := by decide +kernel
theorem lr_10_285 : LR 10 285 = some ((4000000000000000000), 1327) := by decide +kernel
theorem lr_10_354 : LR 10 354 = some ((3), 1454) := by decide +kernel
theorem lr_10_371 : LR 10 371 = some ((11), 1486) := by decide +kernel
theorem lr_10_373 : LR 10 373 = some ((16), 1487) := by decide +kernel
theorem ll0 (a0 : AV) (L : List AV) : 0 < (a0 :: L).length := by
  simp only [List.length_cons]
  omega
theorem ll1 (a0 a1 : AV) (L : List AV) : 1 < (a0 :: a1 :: L).length := by
  simp only [List.length_cons]
  omega
theorem ll2 (a0 a1 a2 : AV) (L : List AV) : 2 < (a0 :: a1 :: a2 :: L).length := by
  simp only [List.length_cons]
  omega
theorem ll3 (a0 a1 a2 a3 : AV) (L : List AV) : 3 < (a0 :: a1 :: a2 :: a3 :: L).length := by
  simp only [List.length_cons]
  omega
theorem ll4 (a0 a1 a2 a3 a4 : AV) (L : List AV) : 4 < (a0 :: a1 :: a2 :: a3 :: a4 :: L).length := by
  simp only [List.length_cons]
  omega
theorem ll5 (a0 a1 a2 a3 a4 a5 : AV) (L : List AV) : 5 < (a0 :: a1 :: a2 :: a3 :: a4 :: a5 :: L).length := by
  simp only [List.length_cons]
  omega
theorem ll6 (a0 a1 a2 a3 a4 a5 a6 : AV) (L : List AV) : 6 < (a0 :: a1 :: a2 :: a3 :: a4 :: a5 :: a6 :: L).length := by
  simp only [List.length_cons]
  omega
theorem ll7 (a0 a1 a2 a3 a4 a5 a6 a7 : AV) (L : List AV) : 7 < (a0 :: a1 :: a2 :: a3 :: a4 :: a5 :: a6 :: a7 :: L).length := by
  simp only [List.length_cons]
  omega
theorem ll8 (a0 a1 a2 a3 a4 a5 a6 a7 a8 : AV) (L : List AV) : 8 < (a0 :: a1 :: a2 :: a3 :: a4 :: a5 :: a6 :: a7 :: a8 :: L).length := by
  simp only [List.length_cons]
  omega
theorem ll9 (a0 a1 a2 a3 a4 a5 a6 a7 a8 a9 : AV) (L : List AV) : 9 < (a0 :: a1 :: a2 :: a3 :: a4 :: a5 :: a6 :: a7 :: a8 :: a9 :: L).length := by
  simp only [List.length_cons]
  omega
theorem ll10 (a0 a1 a2 a3 a4 a5 a6 a7 a8 a9 a10 : AV) (L : List AV) : 10 < (a0 :: a1 :: a2 :: a3 :: a4 :: a5 :: a6 :: a7 :: a8 :: a9 :: a10 :: L).length := by
  simp only [List.length_cons]
  omega
theorem ll11 (a0 a1 a2 a3 a4 a5 a6 a7 a8 a9 a10 a11 : AV) (L : List AV) : 11 < (a0 :: a1 :: a2 :: a3 :: a4 :: a5 :: a6 :: a7 :: a8 :: a9 :: a10 :: a11 :: L).length := by
  simp only [List.length_cons]
  omega
theorem ll12 (a0 a1 a2 a3 a4 a5 a6 a7 a8 a9 a10 a11 a12 : AV) (L : List AV) : 12 < (a0 :: a1 :: a2 :: a3 :: a4 :: a5 :: a6 :: a7 :: a8 :: a9 :: a10 :: a11 :: a12 :: L).length := by
  simp only [List.length_cons]
  omega
theorem ll13 (a0 a1 a2 a3 a4 a5 a6 a7 a8 a9 a10 a11 a12 a13 : AV) (L : List AV) : 13 < (a0 :: a1 :: a2 :: a3 :: a4 :: a5 :: a6 :: a7 :: a8 :: a9 :: a10 :: a11 :: a12 :: a13 :: L).length := by
  simp only [List.length_cons]
  omega
section RWS
variable {K : KK} {d : Nat} {L st : List AV} {h : HH} {Q : Option AV → HH → Prop} {x y z z0 z1 z2 z3 z4 z5 : Int} {a b b0 b1 b2 b3 b4 : Nat} {w w0 w1 w2 w3 a0 a1 a2 a3 a4 a5 a6 a7 a8 a9 a10 a11 a12 a13 : AV}
theorem s1_0 : wp K d 1 0 (.inr (.inr (.inl a)) :: L) st h Q = wp K d 1 1 (.inr (.inr (.inl a)) :: L) (.inr (.inr (.inl a)) :: st) h Q := w_aload_n (j := 0) rfl pt1 (show decode e1.b 0 = .ok (.aload_n 0, 1) by decide +kernel)
theorem s1_1 : wp K d 1 1 (a0 :: .inl x :: L) st h Q = wp K d 1 2 (a0 :: .inl x :: L) (.inl x :: st) h Q := w_iload_n (j := 1) rfl pt1 (show decode e1.b 1 = .ok (.iload_n 1, 1) by decide +kernel)
theorem s1_2 : wp K d 1 2 L (.inl x :: .inr (.inr (.inl a)) :: st) h Q = (isO K a 0 ∧ wp K d 1 5 L st (hput h a 0 x) Q) := w_putI fr_0_44 (by decide) (by decide) pt1 (show decode e1.b 2 = .ok (.putfield 44, 3) by decide +kernel)
theorem s1_5 : wp K d 1 5 (.inr (.inr (.inl a)) :: L) st h Q = wp K d 1 6 (.inr (.inr (.inl a)) :: L) (.inr (.inr (.inl a)) :: st) h Q := w_aload_n (j := 0) rfl pt1 (show decode e1.b 5 = .ok (.aload_n 0, 1) by decide +kernel)
theorem s1_6 : wp K d 1 6 L st h Q = wp K d 1 7 L (.inl (0) :: st) h Q := w_iconst (z := (0)) (by decide) pt1 (show decode e1.b 6 = .ok (.iconst (0), 1) by decide +kernel)
theorem s1_7 : wp K d 1 7 L (.inl x :: .inr (.inr (.inl a)) :: st) h Q = (isO K a 0 ∧ wp K d 1 10 L st (hput h a 4 x) Q) := w_putI fr_0_47 (by decide) (by decide) pt1 (show decode e1.b 7 = .ok (.putfield 47, 3) by decide +kernel)
theorem s1_10 : wp K d 1 10 (.inr (.inr (.inl a)) :: L) st h Q = wp K d 1 11 (.inr (.inr (.inl a)) :: L) (.inr (.inr (.inl a)) :: st) h Q := w_aload_n (j := 0) rfl pt1 (show decode e1.b 10 = .ok (.aload_n 0, 1) by decide +kernel)
theorem s1_11 : wp K d 1 11 L st h Q = wp K d 1 12 L (.inl (0) :: st) h Q := w_iconst (z := (0)) (by decide) pt1 (show decode e1.b 11 = .ok (.iconst (0), 1) by decide +kernel)
theorem s1_12 : wp K d 1 12 L (.inl x :: .inr (.inr (.inl a)) :: st) h Q = (isO K a 0 ∧ wp K d 1 15 L st (hput h a 8 x) Q) := w_putI fr_0_50 (by decide) (by decide) pt1 (show decode e1.b 12 = .ok (.putfield 50, 3) by decide +kernel)
theorem s1_15 : wp K d 1 15 L st h Q = wp K d 1 16 L (.inl (0) :: st) h Q := w_iconst (z := (0)) (by decide) pt1 (show decode e1.b 15 = .ok (.iconst (0), 1) by decide +kernel)
theorem s1_16 : wp K d 1 16 (a0 :: a1 :: w :: L) (.inl x :: st) h Q = wp K d 1 17 (a0 :: a1 :: .inl x :: L) st h Q := w_istore_n (j := 2) (ll2 ..) (Or.inl rfl) pt1 (show decode e1.b 16 = .ok (.istore_n 2, 1) by decide +kernel)
theorem s1_17 : wp K d 1 17 (a0 :: a1 :: .inl x :: L) st h Q = wp K d 1 18 (a0 :: a1 :: .inl x :: L) (.inl x :: st) h Q := w_iload_n (j := 2) rfl pt1 (show decode e1.b 17 = .ok (.iload_n 2, 1) by decide +kernel)
theorem s1_18 : wp K d 1 18 L st h Q = wp K d 1 20 L (.inl (6) :: st) h Q := w_bipush (z := (6)) (by decide) pt1 (show decode e1.b 18 = .ok (.bipush (6), 2) by decide +kernel)
theorem s1_20 : wp K d 1 20 L (.inl y :: .inl x :: st) h Q = if y ≤ x then wp K d 1 44 L st h Q else wp K d 1 23 L st h Q := w_icmpge rfl pt1 (show decode e1.b 20 = .ok (.if_icmp .ge (24), 3) by decide +kernel)
theorem s1_23 : wp K d 1 23 (.inr (.inr (.inl a)) :: L) st h Q = wp K d 1 24 (.inr (.inr (.inl a)) :: L) (.inr (.inr (.inl a)) :: st) h Q := w_aload_n (j := 0) rfl pt1 (show decode e1.b 23 = .ok (.aload_n 0, 1) by decide +kernel)
theorem s1_24 : wp K d 1 24 L (.inr (.inr (.inl a)) :: st) h Q = (isO K a 0 ∧ wp K d 1 27 L (.inr (.inr (.inl (rT K a 1))) :: st) h Q) := w_getR fr_0_9 (by decide) pt1 (show decode e1.b 24 = .ok (.getfield 9, 3) by decide +kernel)
theorem s1_27 : wp K d 1 27 (a0 :: a1 :: .inl x :: L) st h Q = wp K d 1 28 (a0 :: a1 :: .inl x :: L) (.inl x :: st) h Q := w_iload_n (j := 2) rfl pt1 (show decode e1.b 27 = .ok (.iload_n 2, 1) by decide +kernel)
theorem s1_28 : wp K d 1 28 L st h Q = wp K d 1 30 L (.inl (10) :: st) h Q := w_bipush (z := (10)) (by decide) pt1 (show decode e1.b 28 = .ok (.bipush (10), 2) by decide +kernel)
theorem s1_30 : wp K d 1 30 L (.inl y :: .inl x :: .inr (.inr (.inl a)) :: st) h Q = ((0 ≤ x ∧ x < aln K a) ∧ wp K d 1 31 L st (hput h a x.toNat y) Q) := w_iastore pt1 (show decode e1.b 30 = .ok (.iastore, 1) by decide +kernel)
theorem s1_31 : wp K d 1 31 (.inr (.inr (.inl a)) :: L) st h Q = wp K d 1 32 (.inr (.inr (.inl a)) :: L) (.inr (.inr (.inl a)) :: st) h Q := w_aload_n (j := 0) rfl pt1 (show decode e1.b 31 = .ok (.aload_n 0, 1) by decide +kernel)
theorem s1_32 : wp K d 1 32 L (.inr (.inr (.inl a)) :: st) h Q = (isO K a 0 ∧ wp K d 1 35 L (.inr (.inr (.inl (rT K a 11))) :: st) h Q) := w_getR fr_0_30 (by decide) pt1 (show decode e1.b 32 = .ok (.getfield 30, 3) by decide +kernel)
theorem s1_35 : wp K d 1 35 (a0 :: a1 :: .inl x :: L) st h Q = wp K d 1 36 (a0 :: a1 :: .inl x :: L) (.inl x :: st) h Q := w_iload_n (j := 2) rfl pt1 (show decode e1.b 35 = .ok (.iload_n 2, 1) by decide +kernel)
theorem s1_36 : wp K d 1 36 L st h Q = wp K d 1 37 L (.inl (0) :: st) h Q := w_iconst (z := (0)) (by decide) pt1 (show decode e1.b 36 = .ok (.iconst (0), 1) by decide +kernel)
theorem s1_37 : wp K d 1 37 L (.inl y :: .inl x :: .inr (.inr (.inl a)) :: st) h Q = ((0 ≤ x ∧ x < aln K a) ∧ wp K d 1 38 L st (hput h a x.toNat y) Q) := w_iastore pt1 (show decode e1.b 37 = .ok (.iastore, 1) by decide +kernel)
theorem s1_38 : wp K d 1 38 (a0 :: a1 :: .inl x :: L) st h Q = wp K d 1 41 (a0 :: a1 :: .inl (w32 (x + (1))) :: L) st h Q := w_iinc (j := 2) (z := (1)) rfl (Or.inl rfl) (by decide) pt1 (show decode e1.b 38 = .ok (.iinc 2 (1), 3) by decide +kernel)
theorem s1_41 : wp K d 1 41 L st h Q = wp K d 1 17 L st h Q := w_goto rfl pt1 (show decode e1.b 41 = .ok (.goto (-24), 3) by decide +kernel)
theorem s1_44 : wp K d 1 44 L [] h Q = Q none h := w_return pt1 (show decode e1.b 44 = .ok (.return_, 1) by decide +kernel) rfl
theorem s2_0 : wp K d 2 0 (.inr (.inr (.inl a)) :: L) st h Q = wp K d 2 1 (.inr (.inr (.inl a)) :: L) (.inr (.inr (.inl a)) :: st) h Q := w_aload_n (j := 0) rfl pt2 (show decode e2.b 0 = .ok (.aload_n 0, 1) by decide +kernel)
theorem s2_1 : wp K d 2 1 (a0 :: .inr (.inr (.inl a)) :: L) st h Q = wp K d 2 2 (a0 :: .inr (.inr (.inl a)) :: L) (.inr (.inr (.inl a)) :: st) h Q := w_aload_n (j := 1) rfl pt2 (show decode e2.b 1 = .ok (.aload_n 1, 1) by decide +kernel)
theorem s2_2 : wp K d 2 2 L (.inr (.inr (.inl a)) :: st) h Q = (isO K a 0 ∧ wp K d 2 5 L (.inl (h a 0) :: st) h Q) := w_getI fr_0_44 (by decide) pt2 (show decode e2.b 2 = .ok (.getfield 44, 3) by decide +kernel)
theorem s2_5 : wp K d 2 5 L (.inl x :: .inr (.inr (.inl a)) :: st) h Q = (isO K a 0 ∧ wp K d 2 8 L st (hput h a 0 x) Q) := w_putI fr_0_44 (by decide) (by decide) pt2 (show decode e2.b 5 = .ok (.putfield 44, 3) by decide +kernel)
theorem s2_8 : wp K d 2 8 (.inr (.inr (.inl a)) :: L) st h Q = wp K d 2 9 (.inr (.inr (.inl a)) :: L) (.inr (.inr (.inl a)) :: st) h Q := w_aload_n (j := 0) rfl pt2 (show decode e2.b 8 = .ok (.aload_n 0, 1) by decide +kernel)
theorem s2_9 : wp K d 2 9 (a0 :: .inr (.inr (.inl a)) :: L) st h Q = wp K d 2 10 (a0 :: .inr (.inr (.inl a)) :: L) (.inr (.inr (.inl a)) :: st) h Q := w_aload_n (j := 1) rfl pt2 (show decode e2.b 9 = .ok (.aload_n 1, 1) by decide +kernel)
theorem s2_10 : wp K d 2 10 L (.inr (.inr (.inl a)) :: st) h Q = (isO K a 0 ∧ wp K d 2 13 L (.inl (h a 2) :: st) h Q) := w_getI fr_0_33 (by decide) pt2 (show decode e2.b 10 = .ok (.getfield 33, 3) by decide +kernel)
theorem s2_13 : wp K d 2 13 L (.inl x :: .inr (.inr (.inl a)) :: st) h Q = (isO K a 0 ∧ wp K d 2 16 L st (hput h a 2 x) Q) := w_putI fr_0_33 (by decide) (by decide) pt2 (show decode e2.b 13 = .ok (.putfield 33, 3) by decide +kernel)
theorem s2_16 : wp K d 2 16 (.inr (.inr (.inl a)) :: L) st h Q = wp K d 2 17 (.inr (.inr (.inl a)) :: L) (.inr (.inr (.inl a)) :: st) h Q := w_aload_n (j := 0) rfl pt2 (show decode e2.b 16 = .ok (.aload_n 0, 1) by decide +kernel)
theorem s2_17 : wp K d 2 17 (a0 :: .inr (.inr (.inl a)) :: L) st h Q = wp K d 2 18 (a0 :: .inr (.inr (.inl a)) :: L) (.inr (.inr (.inl a)) :: st) h Q := w_aload_n (j := 1) rfl pt2 (show decode e2.b 17 = .ok (.aload_n 1, 1) by decide +kernel)
theorem s2_18 : wp K d 2 18 L (.inr (.inr (.inl a)) :: st) h Q = (isO K a 0 ∧ wp K d 2 21 L (.inl (h a 3) :: st) h Q) := w_getI fr_0_37 (by decide) pt2 (show decode e2.b 18 = .ok (.getfield 37, 3) by decide +kernel)
theorem s2_21 : wp K d 2 21 L (.inl x :: .inr (.inr (.inl a)) :: st) h Q = (isO K a 0 ∧ wp K d 2 24 L st (hput h a 3 x) Q) := w_putI fr_0_37 (by decide) (by decide) pt2 (show decode e2.b 21 = .ok (.putfield 37, 3) by decide +kernel)
theorem s2_24 : wp K d 2 24 (.inr (.inr (.inl a)) :: L) st h Q = wp K d 2 25 (.inr (.inr (.inl a)) :: L) (.inr (.inr (.inl a)) :: st) h Q := w_aload_n (j := 0) rfl pt2 (show decode e2.b 24 = .ok (.aload_n 0, 1) by decide +kernel)
theorem s2_25 : wp K d 2 25 (a0 :: .inr (.inr (.inl a)) :: L) st h Q = wp K d 2 26 (a0 :: .inr (.inr (.inl a)) :: L) (.inr (.inr (.inl a)) :: st) h Q := w_aload_n (j := 1) rfl pt2 (show decode e2.b 25 = .ok (.aload_n 1, 1) by decide +kernel)
theorem s2_26 : wp K d 2 26 L (.inr (.inr (.inl a)) :: st) h Q = (isO K a 0 ∧ wp K d 2 29 L (.inl (h a 4) :: st) h Q) := w_getI fr_0_47 (by decide) pt2 (show decode e2.b 26 = .ok (.getfield 47, 3) by decide +kernel)
theorem s2_29 : wp K d 2 29 L (.inl x :: .inr (.inr (.inl a)) :: st) h Q = (isO K a 0 ∧ wp K d 2 32 L st (hput h a 4 x) Q) := w_putI fr_0_47 (by decide) (by decide) pt2 (show decode e2.b 29 = .ok (.putfield 47, 3) by decide +kernel)
theorem s2_32 : wp K d 2 32 (.inr (.inr (.inl a)) :: L) st h Q = wp K d 2 33 (.inr (.inr (.inl a)) :: L) (.inr (.inr (.inl a)) :: st) h Q := w_aload_n (j := 0) rfl pt2 (show decode e2.b 32 = .ok (.aload_n 0, 1) by decide +kernel)
theorem s2_33 : wp K d 2 33 (a0 :: .inr (.inr (.inl a)) :: L) st h Q = wp K d 2 34 (a0 :: .inr (.inr (.inl a)) :: L) (.inr (.inr (.inl a)) :: st) h Q := w_aload_n (j := 1) rfl pt2 (show decode e2.b 33 = .ok (.aload_n 1, 1) by decide +kernel)
theorem s2_34 : wp K d 2 34 L (.inr (.inr (.inl a)) :: st) h Q = (isO K a 0 ∧ wp K d 2 37 L (.inl (h a 8) :: st) h Q) := w_getI fr_0_50 (by decide) pt2 (show decode e2.b 34 = .ok (.getfield 50, 3) by decide +kernel)
theorem s2_37 : wp K d 2 37 L (.inl x :: .inr (.inr (.inl a)) :: st) h Q = (isO K a 0 ∧ wp K d 2 40 L st (hput h a 8 x) Q) := w_putI fr_0_50 (by decide) (by decide) pt2 (show decode e2.b 37 = .ok (.putfield 50, 3) by decide +kernel)
theorem s2_40 : wp K d 2 40 (a0 :: .inr (.inr (.inl a)) :: L) st h Q = wp K d 2 41 (a0 :: .inr (.inr (.inl a)) :: L) (.inr (.inr (.inl a)) :: st) h Q := w_aload_n (j := 1) rfl pt2 (show decode e2.b 40 = .ok (.aload_n 1, 1) by decide +kernel)
theorem s2_41 : wp K d 2 41 L (.inr (.inr (.inl a)) :: st) h Q = (isO K a 0 ∧ wp K d 2 44 L (.inr (.inr (.inl (rT K a 1))) :: st) h Q) := w_getR fr_0_9 (by decide) pt2 (show decode e2.b 41 = .ok (.getfield 9, 3) by decide +kernel)
theorem s2_44 : wp K d 2 44 L st h Q = wp K d 2 45 L (.inl (0) :: st) h Q := w_iconst (z := (0)) (by decide) pt2 (show decode e2.b 44 = .ok (.iconst (0), 1) by decide +kernel)
theorem s2_45 : wp K d 2 45 (.inr (.inr (.inl a)) :: L) st h Q = wp K d 2 46 (.inr (.inr (.inl a)) :: L) (.inr (.inr (.inl a)) :: st) h Q := w_aload_n (j := 0) rfl pt2 (show decode e2.b 45 = .ok (.aload_n 0, 1) by decide +kernel)
theorem s2_46 : wp K d 2 46 L (.inr (.inr (.inl a)) :: st) h Q = (isO K a 0 ∧ wp K d 2 49 L (.inr (.inr (.inl (rT K a 1))) :: st) h Q) := w_getR fr_0_9 (by decide) pt2 (show decode e2.b 46 = .ok (.getfield 9, 3) by decide +kernel)
theorem s2_49 : wp K d 2 49 L st h Q = wp K d 2 50 L (.inl (0) :: st) h Q := w_iconst (z := (0)) (by decide) pt2 (show decode e2.b 49 = .ok (.iconst (0), 1) by decide +kernel)
theorem s2_50 : wp K d 2 50 L st h Q = wp K d 2 52 L (.inl (6) :: st) h Q := w_bipush (z := (6)) (by decide) pt2 (show decode e2.b 50 = .ok (.bipush (6), 2) by decide +kernel)
theorem s2_52 : wp K d 2 52 L [.inl z, .inl y, .inr (.inr (.inl b)), .inl x, .inr (.inr (.inl a))] h Q = ((0 ≤ z ∧ 0 ≤ y ∧ 0 ≤ x ∧ x + z ≤ aln K a ∧ y + z ≤ aln K b ∧ 0 < aln K a ∧ 0 < aln K b) ∧ wp K d 2 55 L [] (hset h b (fun j => if y.toNat ≤ j ∧ j < y.toNat + z.toNat then h a (x.toNat + (j - y.toNat)) else h b j)) Q) := w_cpy mr_0_53 pt2 (show decode e2.b 52 = .ok (.invokestatic 53, 3) by decide +kernel)
theorem s2_55 : wp K d 2 55 (a0 :: .inr (.inr (.inl a)) :: L) st h Q = wp K d 2 56 (a0 :: .inr (.inr (.inl a)) :: L) (.inr (.inr (.inl a)) :: st) h Q := w_aload_n (j := 1) rfl pt2 (show decode e2.b 55 = .ok (.aload_n 1, 1) by decide +kernel)
theorem s2_56 : wp K d 2 56 L (.inr (.inr (.inl a)) :: st) h Q = (isO K a 0 ∧ wp K d 2 59 L (.inr (.inr (.inl (rT K a 11))) :: st) h Q) := w_getR fr_0_30 (by decide) pt2 (show decode e2.b 56 = .ok (.getfield 30, 3) by decide +kernel)
theorem s2_59 : wp K d 2 59 L st h Q = wp K d 2 60 L (.inl (0) :: st) h Q := w_iconst (z := (0)) (by decide) pt2 (show decode e2.b 59 = .ok (.iconst (0), 1) by decide +kernel)
theorem s2_60 : wp K d 2 60 (.inr (.inr (.inl a)) :: L) st h Q = wp K d 2 61 (.inr (.inr (.inl a)) :: L) (.inr (.inr (.inl a)) :: st) h Q := w_aload_n (j := 0) rfl pt2 (show decode e2.b 60 = .ok (.aload_n 0, 1) by decide +kernel)
theorem s2_61 : wp K d 2 61 L (.inr (.inr (.inl a)) :: st) h Q = (isO K a 0 ∧ wp K d 2 64 L (.inr (.inr (.inl (rT K a 11))) :: st) h Q) := w_getR fr_0_30 (by decide) pt2 (show decode e2.b 61 = .ok (.getfield 30, 3) by decide +kernel)
theorem s2_64 : wp K d 2 64 L st h Q = wp K d 2 65 L (.inl (0) :: st) h Q := w_iconst (z := (0)) (by decide) pt2 (show decode e2.b 64 = .ok (.iconst (0), 1) by decide +kernel)
theorem s2_65 : wp K d 2 65 L st h Q = wp K d 2 67 L (.inl (6) :: st) h Q := w_bipush (z := (6)) (by decide) pt2 (show decode e2.b 65 = .ok (.bipush (6), 2) by decide +kernel)
theorem s2_67 : wp K d 2 67 L [.inl z, .inl y, .inr (.inr (.inl b)), .inl x, .inr (.inr (.inl a))] h Q = ((0 ≤ z ∧ 0 ≤ y ∧ 0 ≤ x ∧ x + z ≤ aln K a ∧ y + z ≤ aln K b ∧ 0 < aln K a ∧ 0 < aln K b) ∧ wp K d 2 70 L [] (hset h b (fun j => if y.toNat ≤ j ∧ j < y.toNat + z.toNat then h a (x.toNat + (j - y.toNat)) else h b j)) Q) := w_cpy mr_0_53 pt2 (show decode e2.b 67 = .ok (.invokestatic 53, 3) by decide +kernel)
theorem s2_70 : wp K d 2 70 (a0 :: .inr (.inr (.inl a)) :: L) st h Q = wp K d 2 71 (a0 :: .inr (.inr (.inl a)) :: L) (.inr (.inr (.inl a)) :: st) h Q := w_aload_n (j := 1) rfl pt2 (show decode e2.b 70 = .ok (.aload_n 1, 1) by decide +kernel)
theorem s2_71 : wp K d 2 71 L (.inr (.inr (.inl a)) :: st) h Q = (isO K a 0 ∧ wp K d 2 74 L (.inr (.inr (.inl (rT K a 5))) :: st) h Q) := w_getR fr_0_15 (by decide) pt2 (show decode e2.b 71 = .ok (.getfield 15, 3) by decide +kernel)
theorem s2_74 : wp K d 2 74 L st h Q = wp K d 2 75 L (.inl (0) :: st) h Q := w_iconst (z := (0)) (by decide) pt2 (show decode e2.b 74 = .ok (.iconst (0), 1) by decide +kernel)
theorem s2_75 : wp K d 2 75 (.inr (.inr (.inl a)) :: L) st h Q = wp K d 2 76 (.inr (.inr (.inl a)) :: L) (.inr (.inr (.inl a)) :: st) h Q := w_aload_n (j := 0) rfl pt2 (show decode e2.b 75 = .ok (.aload_n 0, 1) by decide +kernel)
theorem s2_76 : wp K d 2 76 L (.inr (.inr (.inl a)) :: st) h Q = (isO K a 0 ∧ wp K d 2 79 L (.inr (.inr (.inl (rT K a 5))) :: st) h Q) := w_getR fr_0_15 (by decide) pt2 (show decode e2.b 76 = .ok (.getfield 15, 3) by decide +kernel)
theorem s2_79 : wp K d 2 79 L st h Q = wp K d 2 80 L (.inl (0) :: st) h Q := w_iconst (z := (0)) (by decide) pt2 (show decode e2.b 79 = .ok (.iconst (0), 1) by decide +kernel)
theorem s2_80 : wp K d 2 80 L st h Q = wp K d 2 82 L (.inl (24) :: st) h Q := w_bipush (z := (24)) (by decide) pt2 (show decode e2.b 80 = .ok (.bipush (24), 2) by decide +kernel)
theorem s2_82 : wp K d 2 82 L [.inl z, .inl y, .inr (.inr (.inl b)), .inl x, .inr (.inr (.inl a))] h Q = ((0 ≤ z ∧ 0 ≤ y ∧ 0 ≤ x ∧ x + z ≤ aln K a ∧ y + z ≤ aln K b ∧ 0 < aln K a ∧ 0 < aln K b) ∧ wp K d 2 85 L [] (hset h b (fun j => if y.toNat ≤ j ∧ j < y.toNat + z.toNat then h a (x.toNat + (j - y.toNat)) else h b j)) Q) := w_cpy mr_0_53 pt2 (show decode e2.b 82 = .ok (.invokestatic 53, 3) by decide +kernel)
theorem s2_85 : wp K d 2 85 (a0 :: .inr (.inr (.inl a)) :: L) st h Q = wp K d 2 86 (a0 :: .inr (.inr (.inl a)) :: L) (.inr (.inr (.inl a)) :: st) h Q := w_aload_n (j := 1) rfl pt2 (show decode e2.b 85 = .ok (.aload_n 1, 1) by decide +kernel)
theorem s2_86 : wp K d 2 86 L (.inr (.inr (.inl a)) :: st) h Q = (isO K a 0 ∧ wp K d 2 89 L (.inr (.inr (.inl (rT K a 6))) :: st) h Q) := w_getR fr_0_18 (by decide) pt2 (show decode e2.b 86 = .ok (.getfield 18, 3) by decide +kernel)
theorem s2_89 : wp K d 2 89 L st h Q = wp K d 2 90 L (.inl (0) :: st) h Q := w_iconst (z := (0)) (by decide) pt2 (show decode e2.b 89 = .ok (.iconst (0), 1) by decide +kernel)
theorem s2_90 : wp K d 2 90 (.inr (.inr (.inl a)) :: L) st h Q = wp K d 2 91 (.inr (.inr (.inl a)) :: L) (.inr (.inr (.inl a)) :: st) h Q := w_aload_n (j := 0) rfl pt2 (show decode e2.b 90 = .ok (.aload_n 0, 1) by decide +kernel)
theorem s2_91 : wp K d 2 91 L (.inr (.inr (.inl a)) :: st) h Q = (isO K a 0 ∧ wp K d 2 94 L (.inr (.inr (.inl (rT K a 6))) :: st) h Q) := w_getR fr_0_18 (by decide) pt2 (show decode e2.b 91 = .ok (.getfield 18, 3) by decide +kernel)
theorem s2_94 : wp K d 2 94 L st h Q = wp K d 2 95 L (.inl (0) :: st) h Q := w_iconst (z := (0)) (by decide) pt2 (show decode e2.b 94 = .ok (.iconst (0), 1) by decide +kernel)
theorem s2_95 : wp K d 2 95 L st h Q = wp K d 2 97 L (.inl (24) :: st) h Q := w_bipush (z := (24)) (by decide) pt2 (show decode e2.b 95 = .ok (.bipush (24), 2) by decide +kernel)
theorem s2_97 : wp K d 2 97 L [.inl z, .inl y, .inr (.inr (.inl b)), .inl x, .inr (.inr (.inl a))] h Q = ((0 ≤ z ∧ 0 ≤ y ∧ 0 ≤ x ∧ x + z ≤ aln K a ∧ y + z ≤ aln K b ∧ 0 < aln K a ∧ 0 < aln K b) ∧ wp K d 2 100 L [] (hset h b (fun j => if y.toNat ≤ j ∧ j < y.toNat + z.toNat then h a (x.toNat + (j - y.toNat)) else h b j)) Q) := w_cpy mr_0_53 pt2 (show decode e2.b 97 = .ok (.invokestatic 53, 3) by decide +kernel)
theorem s2_100 : wp K d 2 100 (a0 :: .inr (.inr (.inl a)) :: L) st h Q = wp K d 2 101 (a0 :: .inr (.inr (.inl a)) :: L) (.inr (.inr (.inl a)) :: st) h Q := w_aload_n (j := 1) rfl pt2 (show decode e2.b 100 = .ok (.aload_n 1, 1) by decide +kernel)
theorem s2_101 : wp K d 2 101 L (.inr (.inr (.inl a)) :: st) h Q = (isO K a 0 ∧ wp K d 2 104 L (.inr (.inr (.inl (rT K a 7))) :: st) h Q) := w_getR fr_0_21 (by decide) pt2 (show decode e2.b 101 = .ok (.getfield 21, 3) by decide +kernel)
theorem s2_104 : wp K d 2 104 L st h Q = wp K d 2 105 L (.inl (0) :: st) h Q := w_iconst (z := (0)) (by decide) pt2 (show decode e2.b 104 = .ok (.iconst (0), 1) by decide +kernel)
theorem s2_105 : wp K d 2 105 (.inr (.inr (.inl a)) :: L) st h Q = wp K d 2 106 (.inr (.inr (.inl a)) :: L) (.inr (.inr (.inl a)) :: st) h Q := w_aload_n (j := 0) rfl pt2 (show decode e2.b 105 = .ok (.aload_n 0, 1) by decide +kernel)
theorem s2_106 : wp K d 2 106 L (.inr (.inr (.inl a)) :: st) h Q = (isO K a 0 ∧ wp K d 2 109 L (.inr (.inr (.inl (rT K a 7))) :: st) h Q) := w_getR fr_0_21 (by decide) pt2 (show decode e2.b 106 = .ok (.getfield 21, 3) by decide +kernel)
theorem s2_109 : wp K d 2 109 L st h Q = wp K d 2 110 L (.inl (0) :: st) h Q := w_iconst (z := (0)) (by decide) pt2 (show decode e2.b 109 = .ok (.iconst (0), 1) by decide +kernel)
theorem s2_110 : wp K d 2 110 L st h Q = wp K d 2 112 L (.inl (24) :: st) h Q := w_bipush (z := (24)) (by decide) pt2 (show decode e2.b 110 = .ok (.bipush (24), 2) by decide +kernel)
theorem s2_112 : wp K d 2 112 L [.inl z, .inl y, .inr (.inr (.inl b)), .inl x, .inr (.inr (.inl a))] h Q = ((0 ≤ z ∧ 0 ≤ y ∧ 0 ≤ x ∧ x + z ≤ aln K a ∧ y + z ≤ aln K b ∧ 0 < aln K a ∧ 0 < aln K b) ∧ wp K d 2 115 L [] (hset h b (fun j => if y.toNat ≤ j ∧ j < y.toNat + z.toNat then h a (x.toNat + (j - y.toNat)) else h b j)) Q) := w_cpy mr_0_53 pt2 (show decode e2.b 112 = .ok (.invokestatic 53, 3) by decide +kernel)
theorem s2_115 : wp K d 2 115 (a0 :: .inr (.inr (.inl a)) :: L) st h Q = wp K d 2 116 (a0 :: .inr (.inr (.inl a)) :: L) (.inr (.inr (.inl a)) :: st) h Q := w_aload_n (j := 1) rfl pt2 (show decode e2.b 115 = .ok (.aload_n 1, 1) by decide +kernel)
theorem s2_116 : wp K d 2 116 L (.inr (.inr (.inl a)) :: st) h Q = (isO K a 0 ∧ wp K d 2 119 L (.inr (.inr (.inl (rT K a 9))) :: st) h Q) := w_getR fr_0_24 (by decide) pt2 (show decode e2.b 116 = .ok (.getfield 24, 3) by decide +kernel)
theorem s2_119 : wp K d 2 119 L st h Q = wp K d 2 120 L (.inl (0) :: st) h Q := w_iconst (z := (0)) (by decide) pt2 (show decode e2.b 119 = .ok (.iconst (0), 1) by decide +kernel)
theorem s2_120 : wp K d 2 120 (.inr (.inr (.inl a)) :: L) st h Q = wp K d 2 121 (.inr (.inr (.inl a)) :: L) (.inr (.inr (.inl a)) :: st) h Q := w_aload_n (j := 0) rfl pt2 (show decode e2.b 120 = .ok (.aload_n 0, 1) by decide +kernel)
theorem s2_121 : wp K d 2 121 L (.inr (.inr (.inl a)) :: st) h Q = (isO K a 0 ∧ wp K d 2 124 L (.inr (.inr (.inl (rT K a 9))) :: st) h Q) := w_getR fr_0_24 (by decide) pt2 (show decode e2.b 121 = .ok (.getfield 24, 3) by decide +kernel)
theorem s2_124 : wp K d 2 124 L st h Q = wp K d 2 125 L (.inl (0) :: st) h Q := w_iconst (z := (0)) (by decide) pt2 (show decode e2.b 124 = .ok (.iconst (0), 1) by decide +kernel)
theorem s2_125 : wp K d 2 125 L st h Q = wp K d 2 127 L (.inl (12) :: st) h Q := w_bipush (z := (12)) (by decide) pt2 (show decode e2.b 125 = .ok (.bipush (12), 2) by decide +kernel)
theorem s2_127 : wp K d 2 127 L [.inl z, .inl y, .inr (.inr (.inl b)), .inl x, .inr (.inr (.inl a))] h Q = ((0 ≤ z ∧ 0 ≤ y ∧ 0 ≤ x ∧ x + z ≤ aln K a ∧ y + z ≤ aln K b ∧ 0 < aln K a ∧ 0 < aln K b) ∧ wp K d 2 130 L [] (hset h b (fun j => if y.toNat ≤ j ∧ j < y.toNat + z.toNat then h a (x.toNat + (j - y.toNat)) else h b j)) Q) := w_cpy mr_0_53 pt2 (show decode e2.b 127 = .ok (.invokestatic 53, 3) by decide +kernel)
theorem s2_130 : wp K d 2 130 (a0 :: .inr (.inr (.inl a)) :: L) st h Q = wp K d 2 131 (a0 :: .inr (.inr (.inl a)) :: L) (.inr (.inr (.inl a)) :: st) h Q := w_aload_n (j := 1) rfl pt2 (show decode e2.b 130 = .ok (.aload_n 1, 1) by decide +kernel)
theorem s2_131 : wp K d 2 131 L (.inr (.inr (.inl a)) :: st) h Q = (isO K a 0 ∧ wp K d 2 134 L (.inr (.inr (.inl (rT K a 10))) :: st) h Q) := w_getR fr_0_27 (by decide) pt2 (show decode e2.b 131 = .ok (.getfield 27, 3) by decide +kernel)
theorem s2_134 : wp K d 2 134 L st h Q = wp K d 2 135 L (.inl (0) :: st) h Q := w_iconst (z := (0)) (by decide) pt2 (show decode e2.b 134 = .ok (.iconst (0), 1) by decide +kernel)
theorem s2_135 : wp K d 2 135 (.inr (.inr (.inl a)) :: L) st h Q = wp K d 2 136 (.inr (.inr (.inl a)) :: L) (.inr (.inr (.inl a)) :: st) h Q := w_aload_n (j := 0) rfl pt2 (show decode e2.b 135 = .ok (.aload_n 0, 1) by decide +kernel)
theorem s2_136 : wp K d 2 136 L (.inr (.inr (.inl a)) :: st) h Q = (isO K a 0 ∧ wp K d 2 139 L (.inr (.inr (.inl (rT K a 10))) :: st) h Q) := w_getR fr_0_27 (by decide) pt2 (show decode e2.b 136 = .ok (.getfield 27, 3) by decide +kernel)
theorem s2_139 : wp K d 2 139 L st h Q = wp K d 2 140 L (.inl (0) :: st) h Q := w_iconst (z := (0)) (by decide) pt2 (show decode e2.b 139 = .ok (.iconst (0), 1) by decide +kernel)
theorem s2_140 : wp K d 2 140 L st h Q = wp K d 2 142 L (.inl (12) :: st) h Q := w_bipush (z := (12)) (by decide) pt2 (show decode e2.b 140 = .ok (.bipush (12), 2) by decide +kernel)
theorem s2_142 : wp K d 2 142 L [.inl z, .inl y, .inr (.inr (.inl b)), .inl x, .inr (.inr (.inl a))] h Q = ((0 ≤ z ∧ 0 ≤ y ∧ 0 ≤ x ∧ x + z ≤ aln K a ∧ y + z ≤ aln K b ∧ 0 < aln K a ∧ 0 < aln K b) ∧ wp K d 2 145 L [] (hset h b (fun j => if y.toNat ≤ j ∧ j < y.toNat + z.toNat then h a (x.toNat + (j - y.toNat)) else h b j)) Q) := w_cpy mr_0_53 pt2 (show decode e2.b 142 = .ok (.invokestatic 53, 3) by decide +kernel)
theorem s2_145 : wp K d 2 145 L [] h Q = Q none h := w_return pt2 (show decode e2.b 145 = .ok (.return_, 1) by decide +kernel) rfl
theorem s3_0 : wp K d 3 0 (a0 :: .inl x :: L) st h Q = wp K d 3 1 (a0 :: .inl x :: L) (.inl x :: st) h Q := w_iload_n (j := 1) rfl pt3 (show decode e3.b 0 = .ok (.iload_n 1, 1) by decide +kernel)
theorem s3_1 : wp K d 3 1 L (.inl x :: st) h Q = if x < 0 then wp K d 3 16 L st h Q else wp K d 3 4 L st h Q := w_iflt rfl pt3 (show decode e3.b 1 = .ok (.ifCond .lt (15), 3) by decide +kernel)
theorem s3_4 : wp K d 3 4 (a0 :: .inl x :: L) st h Q = wp K d 3 5 (a0 :: .inl x :: L) (.inl x :: st) h Q := w_iload_n (j := 1) rfl pt3 (show decode e3.b 4 = .ok (.iload_n 1, 1) by decide +kernel)
theorem s3_5 : wp K d 3 5 (.inr (.inr (.inl a)) :: L) st h Q = wp K d 3 6 (.inr (.inr (.inl a)) :: L) (.inr (.inr (.inl a)) :: st) h Q := w_aload_n (j := 0) rfl pt3 (show decode e3.b 5 = .ok (.aload_n 0, 1) by decide +kernel)
theorem s3_6 : wp K d 3 6 L (.inr (.inr (.inl a)) :: st) h Q = (isO K a 0 ∧ wp K d 3 9 L (.inl (h a 0) :: st) h Q) := w_getI fr_0_44 (by decide) pt3 (show decode e3.b 6 = .ok (.getfield 44, 3) by decide +kernel)
theorem s3_9 : wp K d 3 9 L (.inl y :: .inl x :: st) h Q = if y ≤ x then wp K d 3 16 L st h Q else wp K d 3 12 L st h Q := w_icmpge rfl pt3 (show decode e3.b 9 = .ok (.if_icmp .ge (7), 3) by decide +kernel)
theorem s3_12 : wp K d 3 12 L st h Q = wp K d 3 13 L (.inl (1) :: st) h Q := w_iconst (z := (1)) (by decide) pt3 (show decode e3.b 12 = .ok (.iconst (1), 1) by decide +kernel)
theorem s3_13 : wp K d 3 13 L st h Q = wp K d 3 17 L st h Q := w_goto rfl pt3 (show decode e3.b 13 = .ok (.goto (4), 3) by decide +kernel)
theorem s3_16 : wp K d 3 16 L st h Q = wp K d 3 17 L (.inl (0) :: st) h Q := w_iconst (z := (0)) (by decide) pt3 (show decode e3.b 16 = .ok (.iconst (0), 1) by decide +kernel)
theorem s3_17 : wp K d 3 17 L [.inl x] h Q = ((x = 0 ∨ x = 1) ∧ Q (some (.inl x)) h) := w_zreturn pt3 (show decode e3.b 17 = .ok (.ireturn, 1) by decide +kernel) rfl
theorem s4_0 : wp K d 4 0 (.inr (.inr (.inl a)) :: L) st h Q = wp K d 4 1 (.inr (.inr (.inl a)) :: L) (.inr (.inr (.inl a)) :: st) h Q := w_aload_n (j := 0) rfl pt4 (show decode e4.b 0 = .ok (.aload_n 0, 1) by decide +kernel)
theorem s4_1 : wp K d 4 1 (a0 :: .inl x :: L) st h Q = wp K d 4 2 (a0 :: .inl x :: L) (.inl x :: st) h Q := w_iload_n (j := 1) rfl pt4 (show decode e4.b 1 = .ok (.iload_n 1, 1) by decide +kernel)
theorem s4_2 : wp K (d + 1) 4 2 L [.inl z0, .inr (.inr (.inl a))] h Q = (isO K a 0 ∧ wp K d 3 0 [.inr (.inr (.inl a)), .inl z0] [] h (fun r h' => wp K (d + 1) 4 5 L (r.toList ++ []) h' Q)) := w_callV pt4 (show decode e4.b 2 = .ok (.invokevirtual 59, 3) by decide +kernel) mr_0_59 pt3 rfl rfl (as := [.inl z0]) (rest := []) rfl rfl (Nat.le_of_ble_eq_true rfl) rfl (by decide) rfl
theorem s4_5 : wp K d 4 5 L (.inl x :: st) h Q = if x = 0 then wp K d 4 25 L st h Q else wp K d 4 8 L st h Q := w_ifeq rfl pt4 (show decode e4.b 5 = .ok (.ifCond .eq (20), 3) by decide +kernel)
theorem s4_8 : wp K d 4 8 (.inr (.inr (.inl a)) :: L) st h Q = wp K d 4 9 (.inr (.inr (.inl a)) :: L) (.inr (.inr (.inl a)) :: st) h Q := w_aload_n (j := 0) rfl pt4 (show decode e4.b 8 = .ok (.aload_n 0, 1) by decide +kernel)
theorem s4_9 : wp K d 4 9 (a0 :: a1 :: .inl x :: L) st h Q = wp K d 4 10 (a0 :: a1 :: .inl x :: L) (.inl x :: st) h Q := w_iload_n (j := 2) rfl pt4 (show decode e4.b 9 = .ok (.iload_n 2, 1) by decide +kernel)
theorem s4_10 : wp K (d + 1) 4 10 L [.inl z0, .inr (.inr (.inl a))] h Q = (isO K a 0 ∧ wp K d 3 0 [.inr (.inr (.inl a)), .inl z0] [] h (fun r h' => wp K (d + 1) 4 13 L (r.toList ++ []) h' Q)) := w_callV pt4 (show decode e4.b 10 = .ok (.invokevirtual 59, 3) by decide +kernel) mr_0_59 pt3 rfl rfl (as := [.inl z0]) (rest := []) rfl rfl (Nat.le_of_ble_eq_true rfl) rfl (by decide) rfl
theorem s4_13 : wp K d 4 13 L (.inl x :: st) h Q = if x = 0 then wp K d 4 25 L st h Q else wp K d 4 16 L st h Q := w_ifeq rfl pt4 (show decode e4.b 13 = .ok (.ifCond .eq (12), 3) by decide +kernel)
theorem s4_16 : wp K d 4 16 (a0 :: .inl x :: L) st h Q = wp K d 4 17 (a0 :: .inl x :: L) (.inl x :: st) h Q := w_iload_n (j := 1) rfl pt4 (show decode e4.b 16 = .ok (.iload_n 1, 1) by decide +kernel)
theorem s4_17 : wp K d 4 17 (a0 :: a1 :: .inl x :: L) st h Q = wp K d 4 18 (a0 :: a1 :: .inl x :: L) (.inl x :: st) h Q := w_iload_n (j := 2) rfl pt4 (show decode e4.b 17 = .ok (.iload_n 2, 1) by decide +kernel)
theorem s4_18 : wp K d 4 18 L (.inl y :: .inl x :: st) h Q = if x = y then wp K d 4 25 L st h Q else wp K d 4 21 L st h Q := w_icmpeq rfl pt4 (show decode e4.b 18 = .ok (.if_icmp .eq (7), 3) by decide +kernel)
theorem s4_21 : wp K d 4 21 L st h Q = wp K d 4 22 L (.inl (1) :: st) h Q := w_iconst (z := (1)) (by decide) pt4 (show decode e4.b 21 = .ok (.iconst (1), 1) by decide +kernel)
theorem s4_22 : wp K d 4 22 L st h Q = wp K d 4 26 L st h Q := w_goto rfl pt4 (show decode e4.b 22 = .ok (.goto (4), 3) by decide +kernel)
theorem s4_25 : wp K d 4 25 L st h Q = wp K d 4 26 L (.inl (0) :: st) h Q := w_iconst (z := (0)) (by decide) pt4 (show decode e4.b 25 = .ok (.iconst (0), 1) by decide +kernel)
theorem s4_26 : wp K d 4 26 L [.inl x] h Q = ((x = 0 ∨ x = 1) ∧ Q (some (.inl x)) h) := w_zreturn pt4 (show decode e4.b 26 = .ok (.ireturn, 1) by decide +kernel) rfl
theorem s5_0 : wp K d 5 0 (.inr (.inr (.inl a)) :: L) st h Q = wp K d 5 1 (.inr (.inr (.inl a)) :: L) (.inr (.inr (.inl a)) :: st) h Q := w_aload_n (j := 0) rfl pt5 (show decode e5.b 0 = .ok (.aload_n 0, 1) by decide +kernel)
theorem s5_1 : wp K d 5 1 (a0 :: .inl x :: L) st h Q = wp K d 5 2 (a0 :: .inl x :: L) (.inl x :: st) h Q := w_iload_n (j := 1) rfl pt5 (show decode e5.b 1 = .ok (.iload_n 1, 1) by decide +kernel)
theorem s5_2 : wp K (d + 1) 5 2 L [.inl z0, .inr (.inr (.inl a))] h Q = (isO K a 0 ∧ wp K d 3 0 [.inr (.inr (.inl a)), .inl z0] [] h (fun r h' => wp K (d + 1) 5 5 L (r.toList ++ []) h' Q)) := w_callV pt5 (show decode e5.b 2 = .ok (.invokevirtual 59, 3) by decide +kernel) mr_0_59 pt3 rfl rfl (as := [.inl z0]) (rest := []) rfl rfl (Nat.le_of_ble_eq_true rfl) rfl (by decide) rfl
theorem s5_5 : wp K d 5 5 L (.inl x :: st) h Q = if x ≠ 0 then wp K d 5 10 L st h Q else wp K d 5 8 L st h Q := w_ifne rfl pt5 (show decode e5.b 5 = .ok (.ifCond .ne (5), 3) by decide +kernel)
theorem s5_8 : wp K d 5 8 L st h Q = wp K d 5 9 L (.inl (-1) :: st) h Q := w_iconst (z := (-1)) (by decide) pt5 (show decode e5.b 8 = .ok (.iconst (-1), 1) by decide +kernel)
theorem s5_9 : wp K d 5 9 L [.inl x] h Q = Q (some (.inl x)) h := w_ireturn pt5 (show decode e5.b 9 = .ok (.ireturn, 1) by decide +kernel) rfl
theorem s5_10 : wp K d 5 10 (a0 :: a1 :: .inl x :: L) st h Q = wp K d 5 11 (a0 :: a1 :: .inl x :: L) (.inl x :: st) h Q := w_iload_n (j := 2) rfl pt5 (show decode e5.b 10 = .ok (.iload_n 2, 1) by decide +kernel)
theorem s5_11 : wp K d 5 11 L st h Q = wp K d 5 12 L (.inl (1) :: st) h Q := w_iconst (z := (1)) (by decide) pt5 (show decode e5.b 11 = .ok (.iconst (1), 1) by decide +kernel)
theorem s5_12 : wp K d 5 12 L (.inl y :: .inl x :: st) h Q = if y ≤ x then wp K d 5 18 L st h Q else wp K d 5 15 L st h Q := w_icmpge rfl pt5 (show decode e5.b 12 = .ok (.if_icmp .ge (6), 3) by decide +kernel)
theorem s5_15 : wp K d 5 15 L st h Q = wp K d 5 17 L (.inl (-4) :: st) h Q := w_bipush (z := (-4)) (by decide) pt5 (show decode e5.b 15 = .ok (.bipush (-4), 2) by decide +kernel)
theorem s5_17 : wp K d 5 17 L [.inl x] h Q = Q (some (.inl x)) h := w_ireturn pt5 (show decode e5.b 17 = .ok (.ireturn, 1) by decide +kernel) rfl
theorem s5_18 : wp K d 5 18 (a0 :: a1 :: .inl x :: L) st h Q = wp K d 5 19 (a0 :: a1 :: .inl x :: L) (.inl x :: st) h Q := w_iload_n (j := 2) rfl pt5 (show decode e5.b 18 = .ok (.iload_n 2, 1) by decide +kernel)
theorem s5_19 : wp K d 5 19 L st h Q = wp K d 5 21 L (.inl (99) :: st) h Q := w_bipush (z := (99)) (by decide) pt5 (show decode e5.b 19 = .ok (.bipush (99), 2) by decide +kernel)
theorem s5_21 : wp K d 5 21 L (.inl y :: .inl x :: st) h Q = if x ≤ y then wp K d 5 29 L st h Q else wp K d 5 24 L st h Q := w_icmple rfl pt5 (show decode e5.b 21 = .ok (.if_icmp .le (8), 3) by decide +kernel)
theorem s5_24 : wp K d 5 24 L st h Q = wp K d 5 26 L (.inl (-6) :: st) h Q := w_bipush (z := (-6)) (by decide) pt5 (show decode e5.b 24 = .ok (.bipush (-6), 2) by decide +kernel)
theorem s5_26 : wp K d 5 26 L st h Q = wp K d 5 30 L st h Q := w_goto rfl pt5 (show decode e5.b 26 = .ok (.goto (4), 3) by decide +kernel)
theorem s5_29 : wp K d 5 29 L st h Q = wp K d 5 30 L (.inl (0) :: st) h Q := w_iconst (z := (0)) (by decide) pt5 (show decode e5.b 29 = .ok (.iconst (0), 1) by decide +kernel)
theorem s5_30 : wp K d 5 30 L [.inl x] h Q = Q (some (.inl x)) h := w_ireturn pt5 (show decode e5.b 30 = .ok (.ireturn, 1) by decide +kernel) rfl
theorem s6_0 : wp K d 6 0 (.inr (.inr (.inl a)) :: L) st h Q = wp K d 6 1 (.inr (.inr (.inl a)) :: L) (.inr (.inr (.inl a)) :: st) h Q := w_aload_n (j := 0) rfl pt6 (show decode e6.b 0 = .ok (.aload_n 0, 1) by decide +kernel)
theorem s6_1 : wp K d 6 1 L (.inr (.inr (.inl a)) :: st) h Q = (isO K a 0 ∧ wp K d 6 4 L (.inr (.inr (.inl (rT K a 1))) :: st) h Q) := w_getR fr_0_9 (by decide) pt6 (show decode e6.b 1 = .ok (.getfield 9, 3) by decide +kernel)
theorem s6_4 : wp K d 6 4 (a0 :: .inl x :: L) st h Q = wp K d 6 5 (a0 :: .inl x :: L) (.inl x :: st) h Q := w_iload_n (j := 1) rfl pt6 (show decode e6.b 4 = .ok (.iload_n 1, 1) by decide +kernel)
theorem s6_5 : wp K d 6 5 L (.inl x :: .inr (.inr (.inl a)) :: st) h Q = ((0 ≤ x ∧ x < alen K h a) ∧ wp K d 6 6 L (.inl (h a x.toNat) :: st) h Q) := w_iaload pt6 (show decode e6.b 5 = .ok (.iaload, 1) by decide +kernel)
theorem s6_6 : wp K d 6 6 (a0 :: a1 :: a2 :: w :: L) (.inl x :: st) h Q = wp K d 6 7 (a0 :: a1 :: a2 :: .inl x :: L) st h Q := w_istore_n (j := 3) (ll3 ..) (Or.inl rfl) pt6 (show decode e6.b 6 = .ok (.istore_n 3, 1) by decide +kernel)
theorem s6_7 : wp K d 6 7 (.inr (.inr (.inl a)) :: L) st h Q = wp K d 6 8 (.inr (.inr (.inl a)) :: L) (.inr (.inr (.inl a)) :: st) h Q := w_aload_n (j := 0) rfl pt6 (show decode e6.b 7 = .ok (.aload_n 0, 1) by decide +kernel)
theorem s6_8 : wp K d 6 8 L (.inr (.inr (.inl a)) :: st) h Q = (isO K a 0 ∧ wp K d 6 11 L (.inr (.inr (.inl (rT K a 1))) :: st) h Q) := w_getR fr_0_9 (by decide) pt6 (show decode e6.b 8 = .ok (.getfield 9, 3) by decide +kernel)
theorem s6_11 : wp K d 6 11 (a0 :: .inl x :: L) st h Q = wp K d 6 12 (a0 :: .inl x :: L) (.inl x :: st) h Q := w_iload_n (j := 1) rfl pt6 (show decode e6.b 11 = .ok (.iload_n 1, 1) by decide +kernel)
theorem s6_12 : wp K d 6 12 (a0 :: a1 :: .inl x :: L) st h Q = wp K d 6 13 (a0 :: a1 :: .inl x :: L) (.inl x :: st) h Q := w_iload_n (j := 2) rfl pt6 (show decode e6.b 12 = .ok (.iload_n 2, 1) by decide +kernel)
theorem s6_13 : wp K d 6 13 L (.inl y :: .inl x :: .inr (.inr (.inl a)) :: st) h Q = ((0 ≤ x ∧ x < aln K a) ∧ wp K d 6 14 L st (hput h a x.toNat y) Q) := w_iastore pt6 (show decode e6.b 13 = .ok (.iastore, 1) by decide +kernel)
theorem s6_14 : wp K d 6 14 (a0 :: a1 :: a2 :: .inl x :: L) st h Q = wp K d 6 15 (a0 :: a1 :: a2 :: .inl x :: L) (.inl x :: st) h Q := w_iload_n (j := 3) rfl pt6 (show decode e6.b 14 = .ok (.iload_n 3, 1) by decide +kernel)
theorem s6_15 : wp K d 6 15 L [.inl x] h Q = Q (some (.inl x)) h := w_ireturn pt6 (show decode e6.b 15 = .ok (.ireturn, 1) by decide +kernel) rfl
theorem s7_0 : wp K d 7 0 (a0 :: .inl x :: L) st h Q = wp K d 7 1 (a0 :: .inl x :: L) (.inl x :: st) h Q := w_iload_n (j := 1) rfl pt7 (show decode e7.b 0 = .ok (.iload_n 1, 1) by decide +kernel)
theorem s7_1 : wp K (d + 1) 7 1 L [.inl z0] h Q = wp K d 141 0 [.inl z0] [] h (fun r h' => wp K (d + 1) 7 4 L (r.toList ++ []) h' Q) := w_callS pt7 (show decode e7.b 1 = .ok (.invokestatic 63, 3) by decide +kernel) mr_0_63 pt141 rfl (by decide) (as := [.inl z0]) (rest := []) rfl rfl (Nat.le_of_ble_eq_true rfl) (Or.inr rfl) (Nat.le_of_ble_eq_true rfl) rfl
theorem s7_4 : wp K d 7 4 L (.inl x :: st) h Q = if x ≠ 0 then wp K d 7 10 L st h Q else wp K d 7 7 L st h Q := w_ifne rfl pt7 (show decode e7.b 4 = .ok (.ifCond .ne (6), 3) by decide +kernel)
theorem s7_7 : wp K d 7 7 L st h Q = wp K d 7 9 L (.inl (-2) :: st) h Q := w_bipush (z := (-2)) (by decide) pt7 (show decode e7.b 7 = .ok (.bipush (-2), 2) by decide +kernel)
theorem s7_9 : wp K d 7 9 L [.inl x] h Q = Q (some (.inl x)) h := w_ireturn pt7 (show decode e7.b 9 = .ok (.ireturn, 1) by decide +kernel) rfl
theorem s7_10 : wp K d 7 10 (a0 :: a1 :: .inl x :: L) st h Q = wp K d 7 11 (a0 :: a1 :: .inl x :: L) (.inl x :: st) h Q := w_iload_n (j := 2) rfl pt7 (show decode e7.b 10 = .ok (.iload_n 2, 1) by decide +kernel)
theorem s7_11 : wp K d 7 11 L (.inl x :: st) h Q = if 0 ≤ x then wp K d 7 17 L st h Q else wp K d 7 14 L st h Q := w_ifge rfl pt7 (show decode e7.b 11 = .ok (.ifCond .ge (6), 3) by decide +kernel)
theorem s7_14 : wp K d 7 14 L st h Q = wp K d 7 16 L (.inl (-4) :: st) h Q := w_bipush (z := (-4)) (by decide) pt7 (show decode e7.b 14 = .ok (.bipush (-4), 2) by decide +kernel)
theorem s7_16 : wp K d 7 16 L [.inl x] h Q = Q (some (.inl x)) h := w_ireturn pt7 (show decode e7.b 16 = .ok (.ireturn, 1) by decide +kernel) rfl
theorem s7_17 : wp K d 7 17 (a0 :: a1 :: .inl x :: L) st h Q = wp K d 7 18 (a0 :: a1 :: .inl x :: L) (.inl x :: st) h Q := w_iload_n (j := 2) rfl pt7 (show decode e7.b 17 = .ok (.iload_n 2, 1) by decide +kernel)
theorem s7_18 : wp K d 7 18 L st h Q = wp K d 7 20 L (.inl (9) :: st) h Q := w_bipush (z := (9)) (by decide) pt7 (show decode e7.b 18 = .ok (.bipush (9), 2) by decide +kernel)
theorem s7_20 : wp K d 7 20 L (.inl y :: .inl x :: st) h Q = if x ≤ y then wp K d 7 28 L st h Q else wp K d 7 23 L st h Q := w_icmple rfl pt7 (show decode e7.b 20 = .ok (.if_icmp .le (8), 3) by decide +kernel)
theorem s7_23 : wp K d 7 23 L st h Q = wp K d 7 25 L (.inl (-6) :: st) h Q := w_bipush (z := (-6)) (by decide) pt7 (show decode e7.b 23 = .ok (.bipush (-6), 2) by decide +kernel)
theorem s7_25 : wp K d 7 25 L st h Q = wp K d 7 29 L st h Q := w_goto rfl pt7 (show decode e7.b 25 = .ok (.goto (4), 3) by decide +kernel)
theorem s7_28 : wp K d 7 28 L st h Q = wp K d 7 29 L (.inl (0) :: st) h Q := w_iconst (z := (0)) (by decide) pt7 (show decode e7.b 28 = .ok (.iconst (0), 1) by decide +kernel)
theorem s7_29 : wp K d 7 29 L [.inl x] h Q = Q (some (.inl x)) h := w_ireturn pt7 (show decode e7.b 29 = .ok (.ireturn, 1) by decide +kernel) rfl
theorem s8_0 : wp K d 8 0 L st h Q = wp K d 8 2 L (.inl (10) :: st) h Q := w_bipush (z := (10)) (by decide) pt8 (show decode e8.b 0 = .ok (.bipush (10), 2) by decide +kernel)
theorem s8_2 : wp K d 8 2 (.inr (.inr (.inl a)) :: L) st h Q = wp K d 8 3 (.inr (.inr (.inl a)) :: L) (.inr (.inr (.inl a)) :: st) h Q := w_aload_n (j := 0) rfl pt8 (show decode e8.b 2 = .ok (.aload_n 0, 1) by decide +kernel)
theorem s8_3 : wp K d 8 3 L (.inr (.inr (.inl a)) :: st) h Q = (isO K a 0 ∧ wp K d 8 6 L (.inl (h a 2) :: st) h Q) := w_getI fr_0_33 (by decide) pt8 (show decode e8.b 3 = .ok (.getfield 33, 3) by decide +kernel)
theorem s8_6 : wp K d 8 6 L (.inl y :: .inl x :: st) h Q = wp K d 8 7 L (.inl (w32 (x * y)) :: st) h Q := w_imul pt8 (show decode e8.b 6 = .ok (.imul, 1) by decide +kernel)
theorem s8_7 : wp K d 8 7 (.inr (.inr (.inl a)) :: L) st h Q = wp K d 8 8 (.inr (.inr (.inl a)) :: L) (.inr (.inr (.inl a)) :: st) h Q := w_aload_n (j := 0) rfl pt8 (show decode e8.b 7 = .ok (.aload_n 0, 1) by decide +kernel)
theorem s8_8 : wp K d 8 8 L (.inr (.inr (.inl a)) :: st) h Q = (isO K a 0 ∧ wp K d 8 11 L (.inl (h a 3) :: st) h Q) := w_getI fr_0_37 (by decide) pt8 (show decode e8.b 8 = .ok (.getfield 37, 3) by decide +kernel)
theorem s8_11 : wp K d 8 11 L (.inl y :: .inl x :: st) h Q = wp K d 8 12 L (.inl (w32 (x + y)) :: st) h Q := w_iadd pt8 (show decode e8.b 11 = .ok (.iadd, 1) by decide +kernel)
theorem s8_12 : wp K d 8 12 (a0 :: a1 :: a2 :: w :: L) (.inl x :: st) h Q = wp K d 8 13 (a0 :: a1 :: a2 :: .inl x :: L) st h Q := w_istore_n (j := 3) (ll3 ..) (Or.inl rfl) pt8 (show decode e8.b 12 = .ok (.istore_n 3, 1) by decide +kernel)
theorem s8_13 : wp K d 8 13 (.inr (.inr (.inl a)) :: L) st h Q = wp K d 8 14 (.inr (.inr (.inl a)) :: L) (.inr (.inr (.inl a)) :: st) h Q := w_aload_n (j := 0) rfl pt8 (show decode e8.b 13 = .ok (.aload_n 0, 1) by decide +kernel)
theorem s8_14 : wp K d 8 14 (a0 :: .inl x :: L) st h Q = wp K d 8 15 (a0 :: .inl x :: L) (.inl x :: st) h Q := w_iload_n (j := 1) rfl pt8 (show decode e8.b 14 = .ok (.iload_n 1, 1) by decide +kernel)
theorem s8_15 : wp K d 8 15 L (.inl x :: .inr (.inr (.inl a)) :: st) h Q = (isO K a 0 ∧ wp K d 8 18 L st (hput h a 2 x) Q) := w_putI fr_0_33 (by decide) (by decide) pt8 (show decode e8.b 15 = .ok (.putfield 33, 3) by decide +kernel)
theorem s8_18 : wp K d 8 18 (.inr (.inr (.inl a)) :: L) st h Q = wp K d 8 19 (.inr (.inr (.inl a)) :: L) (.inr (.inr (.inl a)) :: st) h Q := w_aload_n (j := 0) rfl pt8 (show decode e8.b 18 = .ok (.aload_n 0, 1) by decide +kernel)
theorem s8_19 : wp K d 8 19 (a0 :: a1 :: .inl x :: L) st h Q = wp K d 8 20 (a0 :: a1 :: .inl x :: L) (.inl x :: st) h Q := w_iload_n (j := 2) rfl pt8 (show decode e8.b 19 = .ok (.iload_n 2, 1) by decide +kernel)
theorem s8_20 : wp K d 8 20 L (.inl x :: .inr (.inr (.inl a)) :: st) h Q = (isO K a 0 ∧ wp K d 8 23 L st (hput h a 3 x) Q) := w_putI fr_0_37 (by decide) (by decide) pt8 (show decode e8.b 20 = .ok (.putfield 37, 3) by decide +kernel)
theorem s8_23 : wp K d 8 23 (a0 :: a1 :: a2 :: .inl x :: L) st h Q = wp K d 8 24 (a0 :: a1 :: a2 :: .inl x :: L) (.inl x :: st) h Q := w_iload_n (j := 3) rfl pt8 (show decode e8.b 23 = .ok (.iload_n 3, 1) by decide +kernel)
theorem s8_24 : wp K d 8 24 L [.inl x] h Q = Q (some (.inl x)) h := w_ireturn pt8 (show decode e8.b 24 = .ok (.ireturn, 1) by decide +kernel) rfl
theorem s9_0 : wp K d 9 0 (.inr (.inr (.inl a)) :: L) st h Q = wp K d 9 1 (.inr (.inr (.inl a)) :: L) (.inr (.inr (.inl a)) :: st) h Q := w_aload_n (j := 0) rfl pt9 (show decode e9.b 0 = .ok (.aload_n 0, 1) by decide +kernel)
theorem s9_1 : wp K d 9 1 (a0 :: .inl x :: L) st h Q = wp K d 9 2 (a0 :: .inl x :: L) (.inl x :: st) h Q := w_iload_n (j := 1) rfl pt9 (show decode e9.b 1 = .ok (.iload_n 1, 1) by decide +kernel)
theorem s9_2 : wp K d 9 2 (a0 :: a1 :: .inl x :: L) st h Q = wp K d 9 3 (a0 :: a1 :: .inl x :: L) (.inl x :: st) h Q := w_iload_n (j := 2) rfl pt9 (show decode e9.b 2 = .ok (.iload_n 2, 1) by decide +kernel)
theorem s9_3 : wp K (d + 1) 9 3 L [.inl z1, .inl z0, .inr (.inr (.inl a))] h Q = (isO K a 0 ∧ wp K d 4 0 [.inr (.inr (.inl a)), .inl z0, .inl z1] [] h (fun r h' => wp K (d + 1) 9 6 L (r.toList ++ []) h' Q)) := w_callV pt9 (show decode e9.b 3 = .ok (.invokevirtual 66, 3) by decide +kernel) mr_0_66 pt4 rfl rfl (as := [.inl z1, .inl z0]) (rest := []) rfl rfl (Nat.le_of_ble_eq_true rfl) rfl (by decide) rfl
theorem s9_6 : wp K d 9 6 L (.inl x :: st) h Q = if x ≠ 0 then wp K d 9 11 L st h Q else wp K d 9 9 L st h Q := w_ifne rfl pt9 (show decode e9.b 6 = .ok (.ifCond .ne (5), 3) by decide +kernel)
theorem s9_9 : wp K d 9 9 L st h Q = wp K d 9 10 L (.inl (-1) :: st) h Q := w_iconst (z := (-1)) (by decide) pt9 (show decode e9.b 9 = .ok (.iconst (-1), 1) by decide +kernel)
theorem s9_10 : wp K d 9 10 L [.inl x] h Q = Q (some (.inl x)) h := w_ireturn pt9 (show decode e9.b 10 = .ok (.ireturn, 1) by decide +kernel) rfl
theorem s9_11 : wp K d 9 11 (.inr (.inr (.inl a)) :: L) st h Q = wp K d 9 12 (.inr (.inr (.inl a)) :: L) (.inr (.inr (.inl a)) :: st) h Q := w_aload_n (j := 0) rfl pt9 (show decode e9.b 11 = .ok (.aload_n 0, 1) by decide +kernel)
theorem s9_12 : wp K d 9 12 L (.inr (.inr (.inl a)) :: st) h Q = (isO K a 0 ∧ wp K d 9 15 L (.inl (h a 4) :: st) h Q) := w_getI fr_0_47 (by decide) pt9 (show decode e9.b 12 = .ok (.getfield 47, 3) by decide +kernel)
theorem s9_15 : wp K d 9 15 L st h Q = wp K d 9 17 L (.inl (24) :: st) h Q := w_bipush (z := (24)) (by decide) pt9 (show decode e9.b 15 = .ok (.bipush (24), 2) by decide +kernel)
theorem s9_17 : wp K d 9 17 L (.inl y :: .inl x :: st) h Q = if x < y then wp K d 9 25 L st h Q else wp K d 9 20 L st h Q := w_icmplt rfl pt9 (show decode e9.b 17 = .ok (.if_icmp .lt (8), 3) by decide +kernel)
theorem s9_20 : wp K d 9 20 L st h Q = wp K d 9 22 L (.inl (-6) :: st) h Q := w_bipush (z := (-6)) (by decide) pt9 (show decode e9.b 20 = .ok (.bipush (-6), 2) by decide +kernel)
theorem s9_22 : wp K d 9 22 L st h Q = wp K d 9 26 L st h Q := w_goto rfl pt9 (show decode e9.b 22 = .ok (.goto (4), 3) by decide +kernel)
theorem s9_25 : wp K d 9 25 L st h Q = wp K d 9 26 L (.inl (0) :: st) h Q := w_iconst (z := (0)) (by decide) pt9 (show decode e9.b 25 = .ok (.iconst (0), 1) by decide +kernel)
theorem s9_26 : wp K d 9 26 L [.inl x] h Q = Q (some (.inl x)) h := w_ireturn pt9 (show decode e9.b 26 = .ok (.ireturn, 1) by decide +kernel) rfl
theorem s10_0 : wp K d 10 0 (.inr (.inr (.inl a)) :: L) st h Q = wp K d 10 1 (.inr (.inr (.inl a)) :: L) (.inr (.inr (.inl a)) :: st) h Q := w_aload_n (j := 0) rfl pt10 (show decode e10.b 0 = .ok (.aload_n 0, 1) by decide +kernel)
theorem s10_1 : wp K d 10 1 L (.inr (.inr (.inl a)) :: st) h Q = (isO K a 0 ∧ wp K d 10 4 L (.inr (.inr (.inl (rT K a 5))) :: st) h Q) := w_getR fr_0_15 (by decide) pt10 (show decode e10.b 1 = .ok (.getfield 15, 3) by decide +kernel)
theorem s10_4 : wp K d 10 4 (.inr (.inr (.inl a)) :: L) st h Q = wp K d 10 5 (.inr (.inr (.inl a)) :: L) (.inr (.inr (.inl a)) :: st) h Q := w_aload_n (j := 0) rfl pt10 (show decode e10.b 4 = .ok (.aload_n 0, 1) by decide +kernel)
theorem s10_5 : wp K d 10 5 L (.inr (.inr (.inl a)) :: st) h Q = (isO K a 0 ∧ wp K d 10 8 L (.inl (h a 4) :: st) h Q) := w_getI fr_0_47 (by decide) pt10 (show decode e10.b 5 = .ok (.getfield 47, 3) by decide +kernel)
theorem s10_8 : wp K d 10 8 (a0 :: .inl x :: L) st h Q = wp K d 10 9 (a0 :: .inl x :: L) (.inl x :: st) h Q := w_iload_n (j := 1) rfl pt10 (show decode e10.b 8 = .ok (.iload_n 1, 1) by decide +kernel)
theorem s10_9 : wp K d 10 9 L (.inl y :: .inl x :: .inr (.inr (.inl a)) :: st) h Q = ((0 ≤ x ∧ x < aln K a) ∧ wp K d 10 10 L st (hput h a x.toNat y) Q) := w_iastore pt10 (show decode e10.b 9 = .ok (.iastore, 1) by decide +kernel)
theorem s10_10 : wp K d 10 10 (.inr (.inr (.inl a)) :: L) st h Q = wp K d 10 11 (.inr (.inr (.inl a)) :: L) (.inr (.inr (.inl a)) :: st) h Q := w_aload_n (j := 0) rfl pt10 (show decode e10.b 10 = .ok (.aload_n 0, 1) by decide +kernel)
theorem s10_11 : wp K d 10 11 L (.inr (.inr (.inl a)) :: st) h Q = (isO K a 0 ∧ wp K d 10 14 L (.inr (.inr (.inl (rT K a 6))) :: st) h Q) := w_getR fr_0_18 (by decide) pt10 (show decode e10.b 11 = .ok (.getfield 18, 3) by decide +kernel)
theorem s10_14 : wp K d 10 14 (.inr (.inr (.inl a)) :: L) st h Q = wp K d 10 15 (.inr (.inr (.inl a)) :: L) (.inr (.inr (.inl a)) :: st) h Q := w_aload_n (j := 0) rfl pt10 (show decode e10.b 14 = .ok (.aload_n 0, 1) by decide +kernel)
theorem s10_15 : wp K d 10 15 L (.inr (.inr (.inl a)) :: st) h Q = (isO K a 0 ∧ wp K d 10 18 L (.inl (h a 4) :: st) h Q) := w_getI fr_0_47 (by decide) pt10 (show decode e10.b 15 = .ok (.getfield 47, 3) by decide +kernel)
theorem s10_18 : wp K d 10 18 (a0 :: a1 :: .inl x :: L) st h Q = wp K d 10 19 (a0 :: a1 :: .inl x :: L) (.inl x :: st) h Q := w_iload_n (j := 2) rfl pt10 (show decode e10.b 18 = .ok (.iload_n 2, 1) by decide +kernel)
theorem s10_19 : wp K d 10 19 L (.inl y :: .inl x :: .inr (.inr (.inl a)) :: st) h Q = ((0 ≤ x ∧ x < aln K a) ∧ wp K d 10 20 L st (hput h a x.toNat y) Q) := w_iastore pt10 (show decode e10.b 19 = .ok (.iastore, 1) by decide +kernel)
theorem s10_20 : wp K d 10 20 (.inr (.inr (.inl a)) :: L) st h Q = wp K d 10 21 (.inr (.inr (.inl a)) :: L) (.inr (.inr (.inl a)) :: st) h Q := w_aload_n (j := 0) rfl pt10 (show decode e10.b 20 = .ok (.aload_n 0, 1) by decide +kernel)
theorem s10_21 : wp K d 10 21 L (.inr (.inr (.inl a)) :: st) h Q = (isO K a 0 ∧ wp K d 10 24 L (.inr (.inr (.inl (rT K a 7))) :: st) h Q) := w_getR fr_0_21 (by decide) pt10 (show decode e10.b 21 = .ok (.getfield 21, 3) by decide +kernel)
theorem s10_24 : wp K d 10 24 (.inr (.inr (.inl a)) :: L) st h Q = wp K d 10 25 (.inr (.inr (.inl a)) :: L) (.inr (.inr (.inl a)) :: st) h Q := w_aload_n (j := 0) rfl pt10 (show decode e10.b 24 = .ok (.aload_n 0, 1) by decide +kernel)
theorem s10_25 : wp K d 10 25 L (.inr (.inr (.inl a)) :: st) h Q = (isO K a 0 ∧ wp K d 10 28 L (.inl (h a 4) :: st) h Q) := w_getI fr_0_47 (by decide) pt10 (show decode e10.b 25 = .ok (.getfield 47, 3) by decide +kernel)
theorem s10_28 : wp K d 10 28 (a0 :: a1 :: a2 :: .inl x :: L) st h Q = wp K d 10 29 (a0 :: a1 :: a2 :: .inl x :: L) (.inl x :: st) h Q := w_iload_n (j := 3) rfl pt10 (show decode e10.b 28 = .ok (.iload_n 3, 1) by decide +kernel)
theorem s10_29 : wp K d 10 29 L (.inl y :: .inl x :: .inr (.inr (.inl a)) :: st) h Q = ((0 ≤ x ∧ x < aln K a) ∧ wp K d 10 30 L st (hput h a x.toNat y) Q) := w_iastore pt10 (show decode e10.b 29 = .ok (.iastore, 1) by decide +kernel)
theorem s10_30 : wp K d 10 30 (.inr (.inr (.inl a)) :: L) st h Q = wp K d 10 31 (.inr (.inr (.inl a)) :: L) (.inr (.inr (.inl a)) :: st) h Q := w_aload_n (j := 0) rfl pt10 (show decode e10.b 30 = .ok (.aload_n 0, 1) by decide +kernel)
theorem s10_31 : wp K d 10 31 L (.inr (.inr (.inl a)) :: st) h Q = wp K d 10 32 L (.inr (.inr (.inl a)) :: .inr (.inr (.inl a)) :: st) h Q := w_dup rfl pt10 (show decode e10.b 31 = .ok (.dup, 1) by decide +kernel)
theorem s10_32 : wp K d 10 32 L (.inr (.inr (.inl a)) :: st) h Q = (isO K a 0 ∧ wp K d 10 35 L (.inl (h a 4) :: st) h Q) := w_getI fr_0_47 (by decide) pt10 (show decode e10.b 32 = .ok (.getfield 47, 3) by decide +kernel)
theorem s10_35 : wp K d 10 35 L st h Q = wp K d 10 36 L (.inl (1) :: st) h Q := w_iconst (z := (1)) (by decide) pt10 (show decode e10.b 35 = .ok (.iconst (1), 1) by decide +kernel)
theorem s10_36 : wp K d 10 36 L (.inl y :: .inl x :: st) h Q = wp K d 10 37 L (.inl (w32 (x + y)) :: st) h Q := w_iadd pt10 (show decode e10.b 36 = .ok (.iadd, 1) by decide +kernel)
theorem s10_37 : wp K d 10 37 L (.inl x :: .inr (.inr (.inl a)) :: st) h Q = (isO K a 0 ∧ wp K d 10 40 L st (hput h a 4 x) Q) := w_putI fr_0_47 (by decide) (by decide) pt10 (show decode e10.b 37 = .ok (.putfield 47, 3) by decide +kernel)
theorem s10_40 : wp K d 10 40 L [] h Q = Q none h := w_return pt10 (show decode e10.b 40 = .ok (.return_, 1) by decide +kernel) rfl
theorem s11_0 : wp K d 11 0 (.inr (.inr (.inl a)) :: L) st h Q = wp K d 11 1 (.inr (.inr (.inl a)) :: L) (.inr (.inr (.inl a)) :: st) h Q := w_aload_n (j := 0) rfl pt11 (show decode e11.b 0 = .ok (.aload_n 0, 1) by decide +kernel)
theorem s11_1 : wp K d 11 1 (a0 :: .inl x :: L) st h Q = wp K d 11 2 (a0 :: .inl x :: L) (.inl x :: st) h Q := w_iload_n (j := 1) rfl pt11 (show decode e11.b 1 = .ok (.iload_n 1, 1) by decide +kernel)
theorem s11_2 : wp K (d + 1) 11 2 L [.inl z0, .inr (.inr (.inl a))] h Q = (isO K a 0 ∧ wp K d 3 0 [.inr (.inr (.inl a)), .inl z0] [] h (fun r h' => wp K (d + 1) 11 5 L (r.toList ++ []) h' Q)) := w_callV pt11 (show decode e11.b 2 = .ok (.invokevirtual 59, 3) by decide +kernel) mr_0_59 pt3 rfl rfl (as := [.inl z0]) (rest := []) rfl rfl (Nat.le_of_ble_eq_true rfl) rfl (by decide) rfl
theorem s11_5 : wp K d 11 5 L (.inl x :: st) h Q = if x = 0 then wp K d 11 21 L st h Q else wp K d 11 8 L st h Q := w_ifeq rfl pt11 (show decode e11.b 5 = .ok (.ifCond .eq (16), 3) by decide +kernel)
theorem s11_8 : wp K d 11 8 (.inr (.inr (.inl a)) :: L) st h Q = wp K d 11 9 (.inr (.inr (.inl a)) :: L) (.inr (.inr (.inl a)) :: st) h Q := w_aload_n (j := 0) rfl pt11 (show decode e11.b 8 = .ok (.aload_n 0, 1) by decide +kernel)
theorem s11_9 : wp K d 11 9 (a0 :: a1 :: .inl x :: L) st h Q = wp K d 11 10 (a0 :: a1 :: .inl x :: L) (.inl x :: st) h Q := w_iload_n (j := 2) rfl pt11 (show decode e11.b 9 = .ok (.iload_n 2, 1) by decide +kernel)
theorem s11_10 : wp K (d + 1) 11 10 L [.inl z0, .inr (.inr (.inl a))] h Q = (isO K a 0 ∧ wp K d 3 0 [.inr (.inr (.inl a)), .inl z0] [] h (fun r h' => wp K (d + 1) 11 13 L (r.toList ++ []) h' Q)) := w_callV pt11 (show decode e11.b 10 = .ok (.invokevirtual 59, 3) by decide +kernel) mr_0_59 pt3 rfl rfl (as := [.inl z0]) (rest := []) rfl rfl (Nat.le_of_ble_eq_true rfl) rfl (by decide) rfl
theorem s11_13 : wp K d 11 13 L (.inl x :: st) h Q = if x = 0 then wp K d 11 21 L st h Q else wp K d 11 16 L st h Q := w_ifeq rfl pt11 (show decode e11.b 13 = .ok (.ifCond .eq (8), 3) by decide +kernel)
theorem s11_16 : wp K d 11 16 (a0 :: .inl x :: L) st h Q = wp K d 11 17 (a0 :: .inl x :: L) (.inl x :: st) h Q := w_iload_n (j := 1) rfl pt11 (show decode e11.b 16 = .ok (.iload_n 1, 1) by decide +kernel)
theorem s11_17 : wp K d 11 17 (a0 :: a1 :: .inl x :: L) st h Q = wp K d 11 18 (a0 :: a1 :: .inl x :: L) (.inl x :: st) h Q := w_iload_n (j := 2) rfl pt11 (show decode e11.b 17 = .ok (.iload_n 2, 1) by decide +kernel)
theorem s11_18 : wp K d 11 18 L (.inl y :: .inl x :: st) h Q = if x < y then wp K d 11 23 L st h Q else wp K d 11 21 L st h Q := w_icmplt rfl pt11 (show decode e11.b 18 = .ok (.if_icmp .lt (5), 3) by decide +kernel)
theorem s11_21 : wp K d 11 21 L st h Q = wp K d 11 22 L (.inl (-1) :: st) h Q := w_iconst (z := (-1)) (by decide) pt11 (show decode e11.b 21 = .ok (.iconst (-1), 1) by decide +kernel)
theorem s11_22 : wp K d 11 22 L [.inl x] h Q = Q (some (.inl x)) h := w_ireturn pt11 (show decode e11.b 22 = .ok (.ireturn, 1) by decide +kernel) rfl
theorem s11_23 : wp K d 11 23 (.inr (.inr (.inl a)) :: L) st h Q = wp K d 11 24 (.inr (.inr (.inl a)) :: L) (.inr (.inr (.inl a)) :: st) h Q := w_aload_n (j := 0) rfl pt11 (show decode e11.b 23 = .ok (.aload_n 0, 1) by decide +kernel)
theorem s11_24 : wp K d 11 24 L (.inr (.inr (.inl a)) :: st) h Q = (isO K a 0 ∧ wp K d 11 27 L (.inl (h a 8) :: st) h Q) := w_getI fr_0_50 (by decide) pt11 (show decode e11.b 24 = .ok (.getfield 50, 3) by decide +kernel)
theorem s11_27 : wp K d 11 27 L st h Q = wp K d 11 29 L (.inl (12) :: st) h Q := w_bipush (z := (12)) (by decide) pt11 (show decode e11.b 27 = .ok (.bipush (12), 2) by decide +kernel)
theorem s11_29 : wp K d 11 29 L (.inl y :: .inl x :: st) h Q = if x < y then wp K d 11 37 L st h Q else wp K d 11 32 L st h Q := w_icmplt rfl pt11 (show decode e11.b 29 = .ok (.if_icmp .lt (8), 3) by decide +kernel)
theorem s11_32 : wp K d 11 32 L st h Q = wp K d 11 34 L (.inl (-6) :: st) h Q := w_bipush (z := (-6)) (by decide) pt11 (show decode e11.b 32 = .ok (.bipush (-6), 2) by decide +kernel)
theorem s11_34 : wp K d 11 34 L st h Q = wp K d 11 38 L st h Q := w_goto rfl pt11 (show decode e11.b 34 = .ok (.goto (4), 3) by decide +kernel)
theorem s11_37 : wp K d 11 37 L st h Q = wp K d 11 38 L (.inl (0) :: st) h Q := w_iconst (z := (0)) (by decide) pt11 (show decode e11.b 37 = .ok (.iconst (0), 1) by decide +kernel)
theorem s11_38 : wp K d 11 38 L [.inl x] h Q = Q (some (.inl x)) h := w_ireturn pt11 (show decode e11.b 38 = .ok (.ireturn, 1) by decide +kernel) rfl
theorem s12_0 : wp K d 12 0 (.inr (.inr (.inl a)) :: L) st h Q = wp K d 12 1 (.inr (.inr (.inl a)) :: L) (.inr (.inr (.inl a)) :: st) h Q := w_aload_n (j := 0) rfl pt12 (show decode e12.b 0 = .ok (.aload_n 0, 1) by decide +kernel)
theorem s12_1 : wp K d 12 1 L (.inr (.inr (.inl a)) :: st) h Q = (isO K a 0 ∧ wp K d 12 4 L (.inr (.inr (.inl (rT K a 9))) :: st) h Q) := w_getR fr_0_24 (by decide) pt12 (show decode e12.b 1 = .ok (.getfield 24, 3) by decide +kernel)
theorem s12_4 : wp K d 12 4 (.inr (.inr (.inl a)) :: L) st h Q = wp K d 12 5 (.inr (.inr (.inl a)) :: L) (.inr (.inr (.inl a)) :: st) h Q := w_aload_n (j := 0) rfl pt12 (show decode e12.b 4 = .ok (.aload_n 0, 1) by decide +kernel)
theorem s12_5 : wp K d 12 5 L (.inr (.inr (.inl a)) :: st) h Q = (isO K a 0 ∧ wp K d 12 8 L (.inl (h a 8) :: st) h Q) := w_getI fr_0_50 (by decide) pt12 (show decode e12.b 5 = .ok (.getfield 50, 3) by decide +kernel)
theorem s12_8 : wp K d 12 8 (a0 :: .inl x :: L) st h Q = wp K d 12 9 (a0 :: .inl x :: L) (.inl x :: st) h Q := w_iload_n (j := 1) rfl pt12 (show decode e12.b 8 = .ok (.iload_n 1, 1) by decide +kernel)
theorem s12_9 : wp K d 12 9 L (.inl y :: .inl x :: .inr (.inr (.inl a)) :: st) h Q = ((0 ≤ x ∧ x < aln K a) ∧ wp K d 12 10 L st (hput h a x.toNat y) Q) := w_iastore pt12 (show decode e12.b 9 = .ok (.iastore, 1) by decide +kernel)
theorem s12_10 : wp K d 12 10 (.inr (.inr (.inl a)) :: L) st h Q = wp K d 12 11 (.inr (.inr (.inl a)) :: L) (.inr (.inr (.inl a)) :: st) h Q := w_aload_n (j := 0) rfl pt12 (show decode e12.b 10 = .ok (.aload_n 0, 1) by decide +kernel)
theorem s12_11 : wp K d 12 11 L (.inr (.inr (.inl a)) :: st) h Q = (isO K a 0 ∧ wp K d 12 14 L (.inr (.inr (.inl (rT K a 10))) :: st) h Q) := w_getR fr_0_27 (by decide) pt12 (show decode e12.b 11 = .ok (.getfield 27, 3) by decide +kernel)
theorem s12_14 : wp K d 12 14 (.inr (.inr (.inl a)) :: L) st h Q = wp K d 12 15 (.inr (.inr (.inl a)) :: L) (.inr (.inr (.inl a)) :: st) h Q := w_aload_n (j := 0) rfl pt12 (show decode e12.b 14 = .ok (.aload_n 0, 1) by decide +kernel)
theorem s12_15 : wp K d 12 15 L (.inr (.inr (.inl a)) :: st) h Q = (isO K a 0 ∧ wp K d 12 18 L (.inl (h a 8) :: st) h Q) := w_getI fr_0_50 (by decide) pt12 (show decode e12.b 15 = .ok (.getfield 50, 3) by decide +kernel)
theorem s12_18 : wp K d 12 18 (a0 :: a1 :: .inl x :: L) st h Q = wp K d 12 19 (a0 :: a1 :: .inl x :: L) (.inl x :: st) h Q := w_iload_n (j := 2) rfl pt12 (show decode e12.b 18 = .ok (.iload_n 2, 1) by decide +kernel)
theorem s12_19 : wp K d 12 19 L (.inl y :: .inl x :: .inr (.inr (.inl a)) :: st) h Q = ((0 ≤ x ∧ x < aln K a) ∧ wp K d 12 20 L st (hput h a x.toNat y) Q) := w_iastore pt12 (show decode e12.b 19 = .ok (.iastore, 1) by decide +kernel)
theorem s12_20 : wp K d 12 20 (.inr (.inr (.inl a)) :: L) st h Q = wp K d 12 21 (.inr (.inr (.inl a)) :: L) (.inr (.inr (.inl a)) :: st) h Q := w_aload_n (j := 0) rfl pt12 (show decode e12.b 20 = .ok (.aload_n 0, 1) by decide +kernel)
theorem s12_21 : wp K d 12 21 L (.inr (.inr (.inl a)) :: st) h Q = wp K d 12 22 L (.inr (.inr (.inl a)) :: .inr (.inr (.inl a)) :: st) h Q := w_dup rfl pt12 (show decode e12.b 21 = .ok (.dup, 1) by decide +kernel)
theorem s12_22 : wp K d 12 22 L (.inr (.inr (.inl a)) :: st) h Q = (isO K a 0 ∧ wp K d 12 25 L (.inl (h a 8) :: st) h Q) := w_getI fr_0_50 (by decide) pt12 (show decode e12.b 22 = .ok (.getfield 50, 3) by decide +kernel)
theorem s12_25 : wp K d 12 25 L st h Q = wp K d 12 26 L (.inl (1) :: st) h Q := w_iconst (z := (1)) (by decide) pt12 (show decode e12.b 25 = .ok (.iconst (1), 1) by decide +kernel)
theorem s12_26 : wp K d 12 26 L (.inl y :: .inl x :: st) h Q = wp K d 12 27 L (.inl (w32 (x + y)) :: st) h Q := w_iadd pt12 (show decode e12.b 26 = .ok (.iadd, 1) by decide +kernel)
theorem s12_27 : wp K d 12 27 L (.inl x :: .inr (.inr (.inl a)) :: st) h Q = (isO K a 0 ∧ wp K d 12 30 L st (hput h a 8 x) Q) := w_putI fr_0_50 (by decide) (by decide) pt12 (show decode e12.b 27 = .ok (.putfield 50, 3) by decide +kernel)
theorem s12_30 : wp K d 12 30 (.inr (.inr (.inl a)) :: L) st h Q = wp K d 12 31 (.inr (.inr (.inl a)) :: L) (.inr (.inr (.inl a)) :: st) h Q := w_aload_n (j := 0) rfl pt12 (show decode e12.b 30 = .ok (.aload_n 0, 1) by decide +kernel)
theorem s12_31 : wp K d 12 31 L (.inr (.inr (.inl a)) :: st) h Q = (isO K a 0 ∧ wp K d 12 34 L (.inl (h a 8) :: st) h Q) := w_getI fr_0_50 (by decide) pt12 (show decode e12.b 31 = .ok (.getfield 50, 3) by decide +kernel)
theorem s12_34 : wp K d 12 34 L [.inl x] h Q = Q (some (.inl x)) h := w_ireturn pt12 (show decode e12.b 34 = .ok (.ireturn, 1) by decide +kernel) rfl
theorem s13_0 : wp K d 13 0 (.inr (.inr (.inl a)) :: L) st h Q = wp K d 13 1 (.inr (.inr (.inl a)) :: L) (.inr (.inr (.inl a)) :: st) h Q := w_aload_n (j := 0) rfl pt13 (show decode e13.b 0 = .ok (.aload_n 0, 1) by decide +kernel)
theorem s13_1 : wp K d 13 1 L (.inr (.inr (.inl a)) :: st) h Q = (isO K a 0 ∧ wp K d 13 4 L (.inr (.inr (.inl (rT K a 11))) :: st) h Q) := w_getR fr_0_30 (by decide) pt13 (show decode e13.b 1 = .ok (.getfield 30, 3) by decide +kernel)
theorem s13_4 : wp K d 13 4 (a0 :: .inl x :: L) st h Q = wp K d 13 5 (a0 :: .inl x :: L) (.inl x :: st) h Q := w_iload_n (j := 1) rfl pt13 (show decode e13.b 4 = .ok (.iload_n 1, 1) by decide +kernel)
theorem s13_5 : wp K d 13 5 L (.inl x :: .inr (.inr (.inl a)) :: st) h Q = ((0 ≤ x ∧ x < alen K h a) ∧ wp K d 13 6 L (.inl (h a x.toNat) :: st) h Q) := w_iaload pt13 (show decode e13.b 5 = .ok (.iaload, 1) by decide +kernel)
theorem s13_6 : wp K d 13 6 (a0 :: a1 :: .inl x :: L) st h Q = wp K d 13 7 (a0 :: a1 :: .inl x :: L) (.inl x :: st) h Q := w_iload_n (j := 2) rfl pt13 (show decode e13.b 6 = .ok (.iload_n 2, 1) by decide +kernel)
theorem s13_7 : wp K (d + 1) 13 7 L [.inl z1, .inl z0] h Q = wp K d 142 0 [.inl z0, .inl z1] [] h (fun r h' => wp K (d + 1) 13 10 L (r.toList ++ []) h' Q) := w_callS pt13 (show decode e13.b 7 = .ok (.invokestatic 70, 3) by decide +kernel) mr_0_70 pt142 rfl (by decide) (as := [.inl z1, .inl z0]) (rest := []) rfl rfl (Nat.le_of_ble_eq_true rfl) (Or.inr rfl) (Nat.le_of_ble_eq_true rfl) rfl
theorem s13_10 : wp K d 13 10 L (.inl x :: st) h Q = if x = 0 then wp K d 13 17 L st h Q else wp K d 13 13 L st h Q := w_ifeq rfl pt13 (show decode e13.b 10 = .ok (.ifCond .eq (7), 3) by decide +kernel)
theorem s13_13 : wp K d 13 13 L st h Q = wp K d 13 14 L (.inl (2) :: st) h Q := w_iconst (z := (2)) (by decide) pt13 (show decode e13.b 13 = .ok (.iconst (2), 1) by decide +kernel)
theorem s13_14 : wp K d 13 14 L st h Q = wp K d 13 35 L st h Q := w_goto rfl pt13 (show decode e13.b 14 = .ok (.goto (21), 3) by decide +kernel)
theorem s13_17 : wp K d 13 17 (.inr (.inr (.inl a)) :: L) st h Q = wp K d 13 18 (.inr (.inr (.inl a)) :: L) (.inr (.inr (.inl a)) :: st) h Q := w_aload_n (j := 0) rfl pt13 (show decode e13.b 17 = .ok (.aload_n 0, 1) by decide +kernel)
theorem s13_18 : wp K d 13 18 L (.inr (.inr (.inl a)) :: st) h Q = (isO K a 0 ∧ wp K d 13 21 L (.inr (.inr (.inl (rT K a 11))) :: st) h Q) := w_getR fr_0_30 (by decide) pt13 (show decode e13.b 18 = .ok (.getfield 30, 3) by decide +kernel)
theorem s13_21 : wp K d 13 21 (a0 :: a1 :: .inl x :: L) st h Q = wp K d 13 22 (a0 :: a1 :: .inl x :: L) (.inl x :: st) h Q := w_iload_n (j := 2) rfl pt13 (show decode e13.b 21 = .ok (.iload_n 2, 1) by decide +kernel)
theorem s13_22 : wp K d 13 22 L (.inl x :: .inr (.inr (.inl a)) :: st) h Q = ((0 ≤ x ∧ x < alen K h a) ∧ wp K d 13 23 L (.inl (h a x.toNat) :: st) h Q) := w_iaload pt13 (show decode e13.b 22 = .ok (.iaload, 1) by decide +kernel)
theorem s13_23 : wp K d 13 23 (a0 :: .inl x :: L) st h Q = wp K d 13 24 (a0 :: .inl x :: L) (.inl x :: st) h Q := w_iload_n (j := 1) rfl pt13 (show decode e13.b 23 = .ok (.iload_n 1, 1) by decide +kernel)
theorem s13_24 : wp K (d + 1) 13 24 L [.inl z1, .inl z0] h Q = wp K d 142 0 [.inl z0, .inl z1] [] h (fun r h' => wp K (d + 1) 13 27 L (r.toList ++ []) h' Q) := w_callS pt13 (show decode e13.b 24 = .ok (.invokestatic 70, 3) by decide +kernel) mr_0_70 pt142 rfl (by decide) (as := [.inl z1, .inl z0]) (rest := []) rfl rfl (Nat.le_of_ble_eq_true rfl) (Or.inr rfl) (Nat.le_of_ble_eq_true rfl) rfl
theorem s13_27 : wp K d 13 27 L (.inl x :: st) h Q = if x = 0 then wp K d 13 34 L st h Q else wp K d 13 30 L st h Q := w_ifeq rfl pt13 (show decode e13.b 27 = .ok (.ifCond .eq (7), 3) by decide +kernel)
theorem s13_30 : wp K d 13 30 L st h Q = wp K d 13 31 L (.inl (0) :: st) h Q := w_iconst (z := (0)) (by decide) pt13 (show decode e13.b 30 = .ok (.iconst (0), 1) by decide +kernel)
theorem s13_31 : wp K d 13 31 L st h Q = wp K d 13 35 L st h Q := w_goto rfl pt13 (show decode e13.b 31 = .ok (.goto (4), 3) by decide +kernel)
theorem s13_34 : wp K d 13 34 L st h Q = wp K d 13 35 L (.inl (1) :: st) h Q := w_iconst (z := (1)) (by decide) pt13 (show decode e13.b 34 = .ok (.iconst (1), 1) by decide +kernel)
theorem s13_35 : wp K d 13 35 (a0 :: a1 :: a2 :: w :: L) (.inl x :: st) h Q = wp K d 13 36 (a0 :: a1 :: a2 :: .inl x :: L) st h Q := w_istore_n (j := 3) (ll3 ..) (Or.inl rfl) pt13 (show decode e13.b 35 = .ok (.istore_n 3, 1) by decide +kernel)
theorem s13_36 : wp K d 13 36 (.inr (.inr (.inl a)) :: L) st h Q = wp K d 13 37 (.inr (.inr (.inl a)) :: L) (.inr (.inr (.inl a)) :: st) h Q := w_aload_n (j := 0) rfl pt13 (show decode e13.b 36 = .ok (.aload_n 0, 1) by decide +kernel)
theorem s13_37 : wp K d 13 37 L (.inr (.inr (.inl a)) :: st) h Q = (isO K a 0 ∧ wp K d 13 40 L (.inr (.inr (.inl (rT K a 11))) :: st) h Q) := w_getR fr_0_30 (by decide) pt13 (show decode e13.b 37 = .ok (.getfield 30, 3) by decide +kernel)
theorem s13_40 : wp K d 13 40 (a0 :: .inl x :: L) st h Q = wp K d 13 41 (a0 :: .inl x :: L) (.inl x :: st) h Q := w_iload_n (j := 1) rfl pt13 (show decode e13.b 40 = .ok (.iload_n 1, 1) by decide +kernel)
theorem s13_41 : wp K d 13 41 L (.inl x :: .inr (.inr (.inl b)) :: st) h Q = wp K d 13 42 L (.inl x :: .inr (.inr (.inl b)) :: .inl x :: .inr (.inr (.inl b)) :: st) h Q := w_dup2 rfl rfl pt13 (show decode e13.b 41 = .ok (.dup2, 1) by decide +kernel)
theorem s13_42 : wp K d 13 42 L (.inl x :: .inr (.inr (.inl a)) :: st) h Q = ((0 ≤ x ∧ x < alen K h a) ∧ wp K d 13 43 L (.inl (h a x.toNat) :: st) h Q) := w_iaload pt13 (show decode e13.b 42 = .ok (.iaload, 1) by decide +kernel)
theorem s13_43 : wp K d 13 43 L st h Q = wp K d 13 44 L (.inl (1) :: st) h Q := w_iconst (z := (1)) (by decide) pt13 (show decode e13.b 43 = .ok (.iconst (1), 1) by decide +kernel)
theorem s13_44 : wp K d 13 44 (a0 :: a1 :: .inl x :: L) st h Q = wp K d 13 45 (a0 :: a1 :: .inl x :: L) (.inl x :: st) h Q := w_iload_n (j := 2) rfl pt13 (show decode e13.b 44 = .ok (.iload_n 2, 1) by decide +kernel)
theorem s13_45 : wp K d 13 45 L (.inl y :: .inl x :: st) h Q = ((0 ≤ y ∧ y < 32) ∧ wp K d 13 46 L (.inl (w32 (x * 2 ^ y.toNat)) :: st) h Q) := w_ishl pt13 (show decode e13.b 45 = .ok (.ishl, 1) by decide +kernel)
theorem s13_46 : wp K d 13 46 L (.inl y :: .inl x :: st) h Q = wp K d 13 47 L (.inl (bOr x y) :: st) h Q := w_ior pt13 (show decode e13.b 46 = .ok (.ior, 1) by decide +kernel)
theorem s13_47 : wp K d 13 47 L (.inl y :: .inl x :: .inr (.inr (.inl a)) :: st) h Q = ((0 ≤ x ∧ x < aln K a) ∧ wp K d 13 48 L st (hput h a x.toNat y) Q) := w_iastore pt13 (show decode e13.b 47 = .ok (.iastore, 1) by decide +kernel)
theorem s13_48 : wp K d 13 48 (.inr (.inr (.inl a)) :: L) st h Q = wp K d 13 49 (.inr (.inr (.inl a)) :: L) (.inr (.inr (.inl a)) :: st) h Q := w_aload_n (j := 0) rfl pt13 (show decode e13.b 48 = .ok (.aload_n 0, 1) by decide +kernel)
theorem s13_49 : wp K d 13 49 L (.inr (.inr (.inl a)) :: st) h Q = (isO K a 0 ∧ wp K d 13 52 L (.inr (.inr (.inl (rT K a 11))) :: st) h Q) := w_getR fr_0_30 (by decide) pt13 (show decode e13.b 49 = .ok (.getfield 30, 3) by decide +kernel)
theorem s13_52 : wp K d 13 52 (a0 :: a1 :: .inl x :: L) st h Q = wp K d 13 53 (a0 :: a1 :: .inl x :: L) (.inl x :: st) h Q := w_iload_n (j := 2) rfl pt13 (show decode e13.b 52 = .ok (.iload_n 2, 1) by decide +kernel)
theorem s13_53 : wp K d 13 53 L (.inl x :: .inr (.inr (.inl b)) :: st) h Q = wp K d 13 54 L (.inl x :: .inr (.inr (.inl b)) :: .inl x :: .inr (.inr (.inl b)) :: st) h Q := w_dup2 rfl rfl pt13 (show decode e13.b 53 = .ok (.dup2, 1) by decide +kernel)
theorem s13_54 : wp K d 13 54 L (.inl x :: .inr (.inr (.inl a)) :: st) h Q = ((0 ≤ x ∧ x < alen K h a) ∧ wp K d 13 55 L (.inl (h a x.toNat) :: st) h Q) := w_iaload pt13 (show decode e13.b 54 = .ok (.iaload, 1) by decide +kernel)
theorem s13_55 : wp K d 13 55 L st h Q = wp K d 13 56 L (.inl (1) :: st) h Q := w_iconst (z := (1)) (by decide) pt13 (show decode e13.b 55 = .ok (.iconst (1), 1) by decide +kernel)
theorem s13_56 : wp K d 13 56 (a0 :: .inl x :: L) st h Q = wp K d 13 57 (a0 :: .inl x :: L) (.inl x :: st) h Q := w_iload_n (j := 1) rfl pt13 (show decode e13.b 56 = .ok (.iload_n 1, 1) by decide +kernel)
theorem s13_57 : wp K d 13 57 L (.inl y :: .inl x :: st) h Q = ((0 ≤ y ∧ y < 32) ∧ wp K d 13 58 L (.inl (w32 (x * 2 ^ y.toNat)) :: st) h Q) := w_ishl pt13 (show decode e13.b 57 = .ok (.ishl, 1) by decide +kernel)
theorem s13_58 : wp K d 13 58 L st h Q = wp K d 13 59 L (.inl (-1) :: st) h Q := w_iconst (z := (-1)) (by decide) pt13 (show decode e13.b 58 = .ok (.iconst (-1), 1) by decide +kernel)
theorem s13_59 : wp K d 13 59 L (.inl y :: .inl x :: st) h Q = wp K d 13 60 L (.inl (bXor x y) :: st) h Q := w_ixor pt13 (show decode e13.b 59 = .ok (.ixor, 1) by decide +kernel)
theorem s13_60 : wp K d 13 60 L (.inl y :: .inl x :: st) h Q = wp K d 13 61 L (.inl (bAnd x y) :: st) h Q := w_iand pt13 (show decode e13.b 60 = .ok (.iand, 1) by decide +kernel)
theorem s13_61 : wp K d 13 61 L (.inl y :: .inl x :: .inr (.inr (.inl a)) :: st) h Q = ((0 ≤ x ∧ x < aln K a) ∧ wp K d 13 62 L st (hput h a x.toNat y) Q) := w_iastore pt13 (show decode e13.b 61 = .ok (.iastore, 1) by decide +kernel)
theorem s13_62 : wp K d 13 62 (a0 :: a1 :: a2 :: .inl x :: L) st h Q = wp K d 13 63 (a0 :: a1 :: a2 :: .inl x :: L) (.inl x :: st) h Q := w_iload_n (j := 3) rfl pt13 (show decode e13.b 62 = .ok (.iload_n 3, 1) by decide +kernel)
theorem s13_63 : wp K d 13 63 L [.inl x] h Q = Q (some (.inl x)) h := w_ireturn pt13 (show decode e13.b 63 = .ok (.ireturn, 1) by decide +kernel) rfl
theorem s14_0 : wp K d 14 0 L st h Q = wp K d 14 1 L (.inl (0) :: st) h Q := w_iconst (z := (0)) (by decide) pt14 (show decode e14.b 0 = .ok (.iconst (0), 1) by decide +kernel)
theorem s14_1 : wp K d 14 1 (a0 :: w :: L) (.inl x :: st) h Q = wp K d 14 2 (a0 :: .inl x :: L) st h Q := w_istore_n (j := 1) (ll1 ..) (Or.inl rfl) pt14 (show decode e14.b 1 = .ok (.istore_n 1, 1) by decide +kernel)
theorem s14_2 : wp K d 14 2 L st h Q = wp K d 14 3 L (.inl (0) :: st) h Q := w_iconst (z := (0)) (by decide) pt14 (show decode e14.b 2 = .ok (.iconst (0), 1) by decide +kernel)
theorem s14_3 : wp K d 14 3 (a0 :: a1 :: w :: L) (.inl x :: st) h Q = wp K d 14 4 (a0 :: a1 :: .inl x :: L) st h Q := w_istore_n (j := 2) (ll2 ..) (Or.inl rfl) pt14 (show decode e14.b 3 = .ok (.istore_n 2, 1) by decide +kernel)
theorem s14_4 : wp K d 14 4 (a0 :: a1 :: .inl x :: L) st h Q = wp K d 14 5 (a0 :: a1 :: .inl x :: L) (.inl x :: st) h Q := w_iload_n (j := 2) rfl pt14 (show decode e14.b 4 = .ok (.iload_n 2, 1) by decide +kernel)
theorem s14_5 : wp K d 14 5 (.inr (.inr (.inl a)) :: L) st h Q = wp K d 14 6 (.inr (.inr (.inl a)) :: L) (.inr (.inr (.inl a)) :: st) h Q := w_aload_n (j := 0) rfl pt14 (show decode e14.b 5 = .ok (.aload_n 0, 1) by decide +kernel)
theorem s14_6 : wp K d 14 6 L (.inr (.inr (.inl a)) :: st) h Q = (isO K a 0 ∧ wp K d 14 9 L (.inl (h a 0) :: st) h Q) := w_getI fr_0_44 (by decide) pt14 (show decode e14.b 6 = .ok (.getfield 44, 3) by decide +kernel)
theorem s14_9 : wp K d 14 9 L (.inl y :: .inl x :: st) h Q = if y ≤ x then wp K d 14 30 L st h Q else wp K d 14 12 L st h Q := w_icmpge rfl pt14 (show decode e14.b 9 = .ok (.if_icmp .ge (21), 3) by decide +kernel)
theorem s14_12 : wp K d 14 12 (a0 :: .inl x :: L) st h Q = wp K d 14 13 (a0 :: .inl x :: L) (.inl x :: st) h Q := w_iload_n (j := 1) rfl pt14 (show decode e14.b 12 = .ok (.iload_n 1, 1) by decide +kernel)
theorem s14_13 : wp K d 14 13 (.inr (.inr (.inl a)) :: L) st h Q = wp K d 14 14 (.inr (.inr (.inl a)) :: L) (.inr (.inr (.inl a)) :: st) h Q := w_aload_n (j := 0) rfl pt14 (show decode e14.b 13 = .ok (.aload_n 0, 1) by decide +kernel)
theorem s14_14 : wp K d 14 14 L (.inr (.inr (.inl a)) :: st) h Q = (isO K a 0 ∧ wp K d 14 17 L (.inr (.inr (.inl (rT K a 11))) :: st) h Q) := w_getR fr_0_30 (by decide) pt14 (show decode e14.b 14 = .ok (.getfield 30, 3) by decide +kernel)
theorem s14_17 : wp K d 14 17 (a0 :: a1 :: .inl x :: L) st h Q = wp K d 14 18 (a0 :: a1 :: .inl x :: L) (.inl x :: st) h Q := w_iload_n (j := 2) rfl pt14 (show decode e14.b 17 = .ok (.iload_n 2, 1) by decide +kernel)
theorem s14_18 : wp K d 14 18 L (.inl x :: .inr (.inr (.inl a)) :: st) h Q = ((0 ≤ x ∧ x < alen K h a) ∧ wp K d 14 19 L (.inl (h a x.toNat) :: st) h Q) := w_iaload pt14 (show decode e14.b 18 = .ok (.iaload, 1) by decide +kernel)
theorem s14_19 : wp K (d + 1) 14 19 L [.inl z0, w0] h Q = wp K d 242 0 [.inl z0] [] h (fun r h' => wp K (d + 1) 14 22 L (r.toList ++ [w0]) h' Q) := w_callS pt14 (show decode e14.b 19 = .ok (.invokestatic 73, 3) by decide +kernel) mr_0_73 pt242 rfl (by decide) (as := [.inl z0]) (rest := [w0]) rfl rfl (Nat.le_of_ble_eq_true rfl) (Or.inr rfl) (Nat.le_of_ble_eq_true rfl) rfl
theorem s14_22 : wp K d 14 22 L (.inl y :: .inl x :: st) h Q = wp K d 14 23 L (.inl (w32 (x + y)) :: st) h Q := w_iadd pt14 (show decode e14.b 22 = .ok (.iadd, 1) by decide +kernel)
theorem s14_23 : wp K d 14 23 (a0 :: w :: L) (.inl x :: st) h Q = wp K d 14 24 (a0 :: .inl x :: L) st h Q := w_istore_n (j := 1) (ll1 ..) (Or.inl rfl) pt14 (show decode e14.b 23 = .ok (.istore_n 1, 1) by decide +kernel)
theorem s14_24 : wp K d 14 24 (a0 :: a1 :: .inl x :: L) st h Q = wp K d 14 27 (a0 :: a1 :: .inl (w32 (x + (1))) :: L) st h Q := w_iinc (j := 2) (z := (1)) rfl (Or.inl rfl) (by decide) pt14 (show decode e14.b 24 = .ok (.iinc 2 (1), 3) by decide +kernel)
theorem s14_27 : wp K d 14 27 L st h Q = wp K d 14 4 L st h Q := w_goto rfl pt14 (show decode e14.b 27 = .ok (.goto (-23), 3) by decide +kernel)
theorem s14_30 : wp K d 14 30 (a0 :: .inl x :: L) st h Q = wp K d 14 31 (a0 :: .inl x :: L) (.inl x :: st) h Q := w_iload_n (j := 1) rfl pt14 (show decode e14.b 30 = .ok (.iload_n 1, 1) by decide +kernel)
theorem s14_31 : wp K d 14 31 L [.inl x] h Q = Q (some (.inl x)) h := w_ireturn pt14 (show decode e14.b 31 = .ok (.ireturn, 1) by decide +kernel) rfl
theorem s15_0 : wp K d 15 0 L st h Q = wp K d 15 1 L (.inl (0) :: st) h Q := w_iconst (z := (0)) (by decide) pt15 (show decode e15.b 0 = .ok (.iconst (0), 1) by decide +kernel)
theorem s15_1 : wp K d 15 1 (a0 :: w :: L) (.inl x :: st) h Q = wp K d 15 2 (a0 :: .inl x :: L) st h Q := w_istore_n (j := 1) (ll1 ..) (Or.inl rfl) pt15 (show decode e15.b 1 = .ok (.istore_n 1, 1) by decide +kernel)
theorem s15_2 : wp K d 15 2 L st h Q = wp K d 15 3 L (.inl (0) :: st) h Q := w_iconst (z := (0)) (by decide) pt15 (show decode e15.b 2 = .ok (.iconst (0), 1) by decide +kernel)
theorem s15_3 : wp K d 15 3 (a0 :: a1 :: w :: L) (.inl x :: st) h Q = wp K d 15 4 (a0 :: a1 :: .inl x :: L) st h Q := w_istore_n (j := 2) (ll2 ..) (Or.inl rfl) pt15 (show decode e15.b 3 = .ok (.istore_n 2, 1) by decide +kernel)
theorem s15_4 : wp K d 15 4 (a0 :: a1 :: .inl x :: L) st h Q = wp K d 15 5 (a0 :: a1 :: .inl x :: L) (.inl x :: st) h Q := w_iload_n (j := 2) rfl pt15 (show decode e15.b 4 = .ok (.iload_n 2, 1) by decide +kernel)
theorem s15_5 : wp K d 15 5 (.inr (.inr (.inl a)) :: L) st h Q = wp K d 15 6 (.inr (.inr (.inl a)) :: L) (.inr (.inr (.inl a)) :: st) h Q := w_aload_n (j := 0) rfl pt15 (show decode e15.b 5 = .ok (.aload_n 0, 1) by decide +kernel)
theorem s15_6 : wp K d 15 6 L (.inr (.inr (.inl a)) :: st) h Q = (isO K a 0 ∧ wp K d 15 9 L (.inl (h a 0) :: st) h Q) := w_getI fr_0_44 (by decide) pt15 (show decode e15.b 6 = .ok (.getfield 44, 3) by decide +kernel)
theorem s15_9 : wp K d 15 9 L (.inl y :: .inl x :: st) h Q = if y ≤ x then wp K d 15 27 L st h Q else wp K d 15 12 L st h Q := w_icmpge rfl pt15 (show decode e15.b 9 = .ok (.if_icmp .ge (18), 3) by decide +kernel)
theorem s15_12 : wp K d 15 12 (a0 :: .inl x :: L) st h Q = wp K d 15 13 (a0 :: .inl x :: L) (.inl x :: st) h Q := w_iload_n (j := 1) rfl pt15 (show decode e15.b 12 = .ok (.iload_n 1, 1) by decide +kernel)
theorem s15_13 : wp K d 15 13 (.inr (.inr (.inl a)) :: L) st h Q = wp K d 15 14 (.inr (.inr (.inl a)) :: L) (.inr (.inr (.inl a)) :: st) h Q := w_aload_n (j := 0) rfl pt15 (show decode e15.b 13 = .ok (.aload_n 0, 1) by decide +kernel)
theorem s15_14 : wp K d 15 14 L (.inr (.inr (.inl a)) :: st) h Q = (isO K a 0 ∧ wp K d 15 17 L (.inr (.inr (.inl (rT K a 1))) :: st) h Q) := w_getR fr_0_9 (by decide) pt15 (show decode e15.b 14 = .ok (.getfield 9, 3) by decide +kernel)
theorem s15_17 : wp K d 15 17 (a0 :: a1 :: .inl x :: L) st h Q = wp K d 15 18 (a0 :: a1 :: .inl x :: L) (.inl x :: st) h Q := w_iload_n (j := 2) rfl pt15 (show decode e15.b 17 = .ok (.iload_n 2, 1) by decide +kernel)
theorem s15_18 : wp K d 15 18 L (.inl x :: .inr (.inr (.inl a)) :: st) h Q = ((0 ≤ x ∧ x < alen K h a) ∧ wp K d 15 19 L (.inl (h a x.toNat) :: st) h Q) := w_iaload pt15 (show decode e15.b 18 = .ok (.iaload, 1) by decide +kernel)
theorem s15_19 : wp K d 15 19 L (.inl y :: .inl x :: st) h Q = wp K d 15 20 L (.inl (w32 (x + y)) :: st) h Q := w_iadd pt15 (show decode e15.b 19 = .ok (.iadd, 1) by decide +kernel)
theorem s15_20 : wp K d 15 20 (a0 :: w :: L) (.inl x :: st) h Q = wp K d 15 21 (a0 :: .inl x :: L) st h Q := w_istore_n (j := 1) (ll1 ..) (Or.inl rfl) pt15 (show decode e15.b 20 = .ok (.istore_n 1, 1) by decide +kernel)
theorem s15_21 : wp K d 15 21 (a0 :: a1 :: .inl x :: L) st h Q = wp K d 15 24 (a0 :: a1 :: .inl (w32 (x + (1))) :: L) st h Q := w_iinc (j := 2) (z := (1)) rfl (Or.inl rfl) (by decide) pt15 (show decode e15.b 21 = .ok (.iinc 2 (1), 3) by decide +kernel)
theorem s15_24 : wp K d 15 24 L st h Q = wp K d 15 4 L st h Q := w_goto rfl pt15 (show decode e15.b 24 = .ok (.goto (-20), 3) by decide +kernel)
theorem s15_27 : wp K d 15 27 (a0 :: .inl x :: L) st h Q = wp K d 15 28 (a0 :: .inl x :: L) (.inl x :: st) h Q := w_iload_n (j := 1) rfl pt15 (show decode e15.b 27 = .ok (.iload_n 1, 1) by decide +kernel)
theorem s15_28 : wp K d 15 28 L [.inl x] h Q = Q (some (.inl x)) h := w_ireturn pt15 (show decode e15.b 28 = .ok (.ireturn, 1) by decide +kernel) rfl
theorem s16_0 : wp K d 16 0 (.inr (.inr (.inl a)) :: L) st h Q = wp K d 16 1 (.inr (.inr (.inl a)) :: L) (.inr (.inr (.inl a)) :: st) h Q := w_aload_n (j := 0) rfl pt16 (show decode e16.b 0 = .ok (.aload_n 0, 1) by decide +kernel)
theorem s16_1 : wp K d 16 1 (a0 :: .inl x :: L) st h Q = wp K d 16 2 (a0 :: .inl x :: L) (.inl x :: st) h Q := w_iload_n (j := 1) rfl pt16 (show decode e16.b 1 = .ok (.iload_n 1, 1) by decide +kernel)
theorem s16_2 : wp K d 16 2 (a0 :: a1 :: .inl x :: L) st h Q = wp K d 16 3 (a0 :: a1 :: .inl x :: L) (.inl x :: st) h Q := w_iload_n (j := 2) rfl pt16 (show decode e16.b 2 = .ok (.iload_n 2, 1) by decide +kernel)
theorem s16_3 : wp K d 16 3 L st h Q = wp K d 16 4 L (.inl (0) :: st) h Q := w_iconst (z := (0)) (by decide) pt16 (show decode e16.b 3 = .ok (.iconst (0), 1) by decide +kernel)
theorem s16_4 : wp K (d + 1) 16 4 L [.inl z2, .inl z1, .inl z0, .inr (.inr (.inl a))] h Q = (isO K a 0 ∧ wp K d 17 0 [.inr (.inr (.inl a)), .inl z0, .inl z1, .inl z2, vU] [] h (fun r h' => wp K (d + 1) 16 7 L (r.toList ++ []) h' Q)) := w_callV pt16 (show decode e16.b 4 = .ok (.invokevirtual 79, 3) by decide +kernel) mr_0_79 pt17 rfl rfl (as := [.inl z2, .inl z1, .inl z0]) (rest := []) rfl rfl (Nat.le_of_ble_eq_true rfl) rfl (by decide) rfl
theorem s16_7 : wp K d 16 7 (a0 :: a1 :: a2 :: a3 :: w :: L) (.inl x :: st) h Q = wp K d 16 9 (a0 :: a1 :: a2 :: a3 :: .inl x :: L) st h Q := w_istore (j := 4) (ll4 ..) (Or.inl rfl) pt16 (show decode e16.b 7 = .ok (.istore 4, 2) by decide +kernel)
theorem s16_9 : wp K d 16 9 (a0 :: a1 :: a2 :: .inl x :: L) st h Q = wp K d 16 10 (a0 :: a1 :: a2 :: .inl x :: L) (.inl x :: st) h Q := w_iload_n (j := 3) rfl pt16 (show decode e16.b 9 = .ok (.iload_n 3, 1) by decide +kernel)
theorem s16_10 : wp K d 16 10 L st h Q = wp K d 16 11 L (.inl (1) :: st) h Q := w_iconst (z := (1)) (by decide) pt16 (show decode e16.b 10 = .ok (.iconst (1), 1) by decide +kernel)
theorem s16_11 : wp K d 16 11 L (.inl y :: .inl x :: st) h Q = wp K d 16 12 L (.inl (w32 (x + y)) :: st) h Q := w_iadd pt16 (show decode e16.b 11 = .ok (.iadd, 1) by decide +kernel)
theorem s16_12 : wp K d 16 12 (.inr (.inr (.inl a)) :: L) st h Q = wp K d 16 13 (.inr (.inr (.inl a)) :: L) (.inr (.inr (.inl a)) :: st) h Q := w_aload_n (j := 0) rfl pt16 (show decode e16.b 12 = .ok (.aload_n 0, 1) by decide +kernel)
theorem s16_13 : wp K d 16 13 L (.inr (.inr (.inl a)) :: st) h Q = (isO K a 0 ∧ wp K d 16 16 L (.inl (h a 3) :: st) h Q) := w_getI fr_0_37 (by decide) pt16 (show decode e16.b 13 = .ok (.getfield 37, 3) by decide +kernel)
theorem s16_16 : wp K d 16 16 L st h Q = wp K d 16 17 L (.inl (2) :: st) h Q := w_iconst (z := (2)) (by decide) pt16 (show decode e16.b 16 = .ok (.iconst (2), 1) by decide +kernel)
theorem s16_17 : wp K d 16 17 L (.inl y :: .inl x :: st) h Q = wp K d 16 18 L (.inl (w32 (x + y)) :: st) h Q := w_iadd pt16 (show decode e16.b 17 = .ok (.iadd, 1) by decide +kernel)
theorem s16_18 : wp K d 16 18 L (.inl y :: .inl x :: st) h Q = ((y ≠ 0) ∧ wp K d 16 19 L (.inl (x.tmod y) :: st) h Q) := w_irem pt16 (show decode e16.b 18 = .ok (.irem, 1) by decide +kernel)
theorem s16_19 : wp K d 16 19 L (.inl x :: st) h Q = if x ≠ 0 then wp K d 16 26 L st h Q else wp K d 16 22 L st h Q := w_ifne rfl pt16 (show decode e16.b 19 = .ok (.ifCond .ne (7), 3) by decide +kernel)
theorem s16_22 : wp K d 16 22 L st h Q = wp K d 16 23 L (.inl (1) :: st) h Q := w_iconst (z := (1)) (by decide) pt16 (show decode e16.b 22 = .ok (.iconst (1), 1) by decide +kernel)
theorem s16_23 : wp K d 16 23 L st h Q = wp K d 16 27 L st h Q := w_goto rfl pt16 (show decode e16.b 23 = .ok (.goto (4), 3) by decide +kernel)
theorem s16_26 : wp K d 16 26 L st h Q = wp K d 16 27 L (.inl (0) :: st) h Q := w_iconst (z := (0)) (by decide) pt16 (show decode e16.b 26 = .ok (.iconst (0), 1) by decide +kernel)
theorem s16_27 : wp K d 16 27 (a0 :: a1 :: a2 :: a3 :: a4 :: w :: L) (.inl x :: st) h Q = wp K d 16 29 (a0 :: a1 :: a2 :: a3 :: a4 :: .inl x :: L) st h Q := w_istore (j := 5) (ll5 ..) (Or.inl rfl) pt16 (show decode e16.b 27 = .ok (.istore 5, 2) by decide +kernel)
theorem s16_29 : wp K d 16 29 (.inr (.inr (.inl a)) :: L) st h Q = wp K d 16 30 (.inr (.inr (.inl a)) :: L) (.inr (.inr (.inl a)) :: st) h Q := w_aload_n (j := 0) rfl pt16 (show decode e16.b 29 = .ok (.aload_n 0, 1) by decide +kernel)
theorem s16_30 : wp K d 16 30 L (.inr (.inr (.inl a)) :: st) h Q = (isO K a 0 ∧ wp K d 16 33 L (.inl (h a 2) :: st) h Q) := w_getI fr_0_33 (by decide) pt16 (show decode e16.b 30 = .ok (.getfield 33, 3) by decide +kernel)
theorem s16_33 : wp K d 16 33 L (.inl x :: st) h Q = if x = (1) then wp K d 16 68 L st h Q else if x = (2) then wp K d 16 79 L st h Q else if x = (3) then wp K d 16 95 L st h Q else if x = (4) then wp K d 16 115 L st h Q else if x = (5) then wp K d 16 130 L st h Q else wp K d 16 146 L st h Q := by
  have hd := (show decode e16.b 33 = .ok (.tableswitch (113) (1) (5) #[(35), (46), (62), (82), (97)], 35) by decide +kernel)
  by_cases h0 : x = (1)
  · subst h0
    rw [if_pos rfl]
    exact w_table (t := 68) (by decide) (by decide) pt16 hd
  by_cases h1 : x = (2)
  · subst h1
    rw [if_neg (by decide), if_pos rfl]
    exact w_table (t := 79) (by decide) (by decide) pt16 hd
  by_cases h2 : x = (3)
  · subst h2
    rw [if_neg (by decide), if_neg (by decide), if_pos rfl]
    exact w_table (t := 95) (by decide) (by decide) pt16 hd
  by_cases h3 : x = (4)
  · subst h3
    rw [if_neg (by decide), if_neg (by decide), if_neg (by decide), if_pos rfl]
    exact w_table (t := 115) (by decide) (by decide) pt16 hd
  by_cases h4 : x = (5)
  · subst h4
    rw [if_neg (by decide), if_neg (by decide), if_neg (by decide), if_neg (by decide), if_pos rfl]
    exact w_table (t := 130) (by decide) (by decide) pt16 hd
  rw [if_neg h0, if_neg h1, if_neg h2, if_neg h3, if_neg h4]
  exact w_table (t := 146) (by unfold swT; rw [if_pos (by omega)]; decide) (by decide) pt16 hd
theorem s16_68 : wp K d 16 68 (.inr (.inr (.inl a)) :: L) st h Q = wp K d 16 69 (.inr (.inr (.inl a)) :: L) (.inr (.inr (.inl a)) :: st) h Q := w_aload_n (j := 0) rfl pt16 (show decode e16.b 68 = .ok (.aload_n 0, 1) by decide +kernel)
theorem s16_69 : wp K d 16 69 (a0 :: .inl x :: L) st h Q = wp K d 16 70 (a0 :: .inl x :: L) (.inl x :: st) h Q := w_iload_n (j := 1) rfl pt16 (show decode e16.b 69 = .ok (.iload_n 1, 1) by decide +kernel)
theorem s16_70 : wp K d 16 70 (a0 :: a1 :: .inl x :: L) st h Q = wp K d 16 71 (a0 :: a1 :: .inl x :: L) (.inl x :: st) h Q := w_iload_n (j := 2) rfl pt16 (show decode e16.b 70 = .ok (.iload_n 2, 1) by decide +kernel)
theorem s16_71 : wp K d 16 71 (.inr (.inr (.inl a)) :: L) st h Q = wp K d 16 72 (.inr (.inr (.inl a)) :: L) (.inr (.inr (.inl a)) :: st) h Q := w_aload_n (j := 0) rfl pt16 (show decode e16.b 71 = .ok (.aload_n 0, 1) by decide +kernel)
theorem s16_72 : wp K d 16 72 L (.inr (.inr (.inl a)) :: st) h Q = (isO K a 0 ∧ wp K d 16 75 L (.inl (h a 3) :: st) h Q) := w_getI fr_0_37 (by decide) pt16 (show decode e16.b 72 = .ok (.getfield 37, 3) by decide +kernel)
theorem s16_75 : wp K (d + 1) 16 75 L [.inl z2, .inl z1, .inl z0, .inr (.inr (.inl a))] h Q = (isO K a 0 ∧ wp K d 17 0 [.inr (.inr (.inl a)), .inl z0, .inl z1, .inl z2, vU] [] h (fun r h' => wp K (d + 1) 16 78 L (r.toList ++ []) h' Q)) := w_callV pt16 (show decode e16.b 75 = .ok (.invokevirtual 79, 3) by decide +kernel) mr_0_79 pt17 rfl rfl (as := [.inl z2, .inl z1, .inl z0]) (rest := []) rfl rfl (Nat.le_of_ble_eq_true rfl) rfl (by decide) rfl
theorem s16_78 : wp K d 16 78 L [.inl x] h Q = Q (some (.inl x)) h := w_ireturn pt16 (show decode e16.b 78 = .ok (.ireturn, 1) by decide +kernel) rfl
theorem s16_79 : wp K d 16 79 (a0 :: a1 :: a2 :: a3 :: a4 :: .inl x :: L) st h Q = wp K d 16 81 (a0 :: a1 :: a2 :: a3 :: a4 :: .inl x :: L) (.inl x :: st) h Q := w_iload (j := 5) rfl pt16 (show decode e16.b 79 = .ok (.iload 5, 2) by decide +kernel)
theorem s16_81 : wp K d 16 81 L (.inl x :: st) h Q = if x = 0 then wp K d 16 92 L st h Q else wp K d 16 84 L st h Q := w_ifeq rfl pt16 (show decode e16.b 81 = .ok (.ifCond .eq (11), 3) by decide +kernel)
theorem s16_84 : wp K d 16 84 (a0 :: a1 :: a2 :: a3 :: .inl x :: L) st h Q = wp K d 16 86 (a0 :: a1 :: a2 :: a3 :: .inl x :: L) (.inl x :: st) h Q := w_iload (j := 4) rfl pt16 (show decode e16.b 84 = .ok (.iload 4, 2) by decide +kernel)
theorem s16_86 : wp K (d + 1) 16 86 L [.inl z0] h Q = wp K d 18 0 [.inl z0] [] h (fun r h' => wp K (d + 1) 16 89 L (r.toList ++ []) h' Q) := w_callS pt16 (show decode e16.b 86 = .ok (.invokestatic 83, 3) by decide +kernel) mr_0_83 pt18 rfl (by decide) (as := [.inl z0]) (rest := []) rfl rfl (Nat.le_of_ble_eq_true rfl) (Or.inr rfl) (Nat.le_of_ble_eq_true rfl) rfl
theorem s16_89 : wp K d 16 89 L st h Q = wp K d 16 94 L st h Q := w_goto rfl pt16 (show decode e16.b 89 = .ok (.goto (5), 3) by decide +kernel)
theorem s16_92 : wp K d 16 92 (a0 :: a1 :: a2 :: a3 :: .inl x :: L) st h Q = wp K d 16 94 (a0 :: a1 :: a2 :: a3 :: .inl x :: L) (.inl x :: st) h Q := w_iload (j := 4) rfl pt16 (show decode e16.b 92 = .ok (.iload 4, 2) by decide +kernel)
theorem s16_94 : wp K d 16 94 L [.inl x] h Q = Q (some (.inl x)) h := w_ireturn pt16 (show decode e16.b 94 = .ok (.ireturn, 1) by decide +kernel) rfl
theorem s16_95 : wp K d 16 95 (.inr (.inr (.inl a)) :: L) st h Q = wp K d 16 96 (.inr (.inr (.inl a)) :: L) (.inr (.inr (.inl a)) :: st) h Q := w_aload_n (j := 0) rfl pt16 (show decode e16.b 95 = .ok (.aload_n 0, 1) by decide +kernel)
theorem s16_96 : wp K d 16 96 (a0 :: .inl x :: L) st h Q = wp K d 16 97 (a0 :: .inl x :: L) (.inl x :: st) h Q := w_iload_n (j := 1) rfl pt16 (show decode e16.b 96 = .ok (.iload_n 1, 1) by decide +kernel)
theorem s16_97 : wp K d 16 97 (a0 :: a1 :: .inl x :: L) st h Q = wp K d 16 98 (a0 :: a1 :: .inl x :: L) (.inl x :: st) h Q := w_iload_n (j := 2) rfl pt16 (show decode e16.b 97 = .ok (.iload_n 2, 1) by decide +kernel)
theorem s16_98 : wp K d 16 98 (.inr (.inr (.inl a)) :: L) st h Q = wp K d 16 99 (.inr (.inr (.inl a)) :: L) (.inr (.inr (.inl a)) :: st) h Q := w_aload_n (j := 0) rfl pt16 (show decode e16.b 98 = .ok (.aload_n 0, 1) by decide +kernel)
theorem s16_99 : wp K d 16 99 L (.inr (.inr (.inl a)) :: st) h Q = (isO K a 0 ∧ wp K d 16 102 L (.inl (h a 3) :: st) h Q) := w_getI fr_0_37 (by decide) pt16 (show decode e16.b 99 = .ok (.getfield 37, 3) by decide +kernel)
theorem s16_102 : wp K (d + 1) 16 102 L [.inl z2, .inl z1, .inl z0, .inr (.inr (.inl a))] h Q = (isO K a 0 ∧ wp K d 17 0 [.inr (.inr (.inl a)), .inl z0, .inl z1, .inl z2, vU] [] h (fun r h' => wp K (d + 1) 16 105 L (r.toList ++ []) h' Q)) := w_callV pt16 (show decode e16.b 102 = .ok (.invokevirtual 79, 3) by decide +kernel) mr_0_79 pt17 rfl rfl (as := [.inl z2, .inl z1, .inl z0]) (rest := []) rfl rfl (Nat.le_of_ble_eq_true rfl) rfl (by decide) rfl
theorem s16_105 : wp K d 16 105 L st h Q = wp K d 16 106 L (.inl (1) :: st) h Q := w_iconst (z := (1)) (by decide) pt16 (show decode e16.b 105 = .ok (.iconst (1), 1) by decide +kernel)
theorem s16_106 : wp K d 16 106 L (.inl y :: .inl x :: st) h Q = if x ≠ y then wp K d 16 113 L st h Q else wp K d 16 109 L st h Q := w_icmpne rfl pt16 (show decode e16.b 106 = .ok (.if_icmp .ne (7), 3) by decide +kernel)
theorem s16_109 : wp K d 16 109 L st h Q = wp K d 16 110 L (.inl (1) :: st) h Q := w_iconst (z := (1)) (by decide) pt16 (show decode e16.b 109 = .ok (.iconst (1), 1) by decide +kernel)
theorem s16_110 : wp K d 16 110 L st h Q = wp K d 16 114 L st h Q := w_goto rfl pt16 (show decode e16.b 110 = .ok (.goto (4), 3) by decide +kernel)
theorem s16_113 : wp K d 16 113 L st h Q = wp K d 16 114 L (.inl (2) :: st) h Q := w_iconst (z := (2)) (by decide) pt16 (show decode e16.b 113 = .ok (.iconst (2), 1) by decide +kernel)
theorem s16_114 : wp K d 16 114 L [.inl x] h Q = Q (some (.inl x)) h := w_ireturn pt16 (show decode e16.b 114 = .ok (.ireturn, 1) by decide +kernel) rfl
theorem s16_115 : wp K d 16 115 (.inr (.inr (.inl a)) :: L) st h Q = wp K d 16 116 (.inr (.inr (.inl a)) :: L) (.inr (.inr (.inl a)) :: st) h Q := w_aload_n (j := 0) rfl pt16 (show decode e16.b 115 = .ok (.aload_n 0, 1) by decide +kernel)
theorem s16_116 : wp K d 16 116 (a0 :: .inl x :: L) st h Q = wp K d 16 117 (a0 :: .inl x :: L) (.inl x :: st) h Q := w_iload_n (j := 1) rfl pt16 (show decode e16.b 116 = .ok (.iload_n 1, 1) by decide +kernel)
theorem s16_117 : wp K d 16 117 (a0 :: a1 :: .inl x :: L) st h Q = wp K d 16 118 (a0 :: a1 :: .inl x :: L) (.inl x :: st) h Q := w_iload_n (j := 2) rfl pt16 (show decode e16.b 117 = .ok (.iload_n 2, 1) by decide +kernel)
theorem s16_118 : wp K d 16 118 (.inr (.inr (.inl a)) :: L) st h Q = wp K d 16 119 (.inr (.inr (.inl a)) :: L) (.inr (.inr (.inl a)) :: st) h Q := w_aload_n (j := 0) rfl pt16 (show decode e16.b 118 = .ok (.aload_n 0, 1) by decide +kernel)
theorem s16_119 : wp K d 16 119 L (.inr (.inr (.inl a)) :: st) h Q = (isO K a 0 ∧ wp K d 16 122 L (.inl (h a 3) :: st) h Q) := w_getI fr_0_37 (by decide) pt16 (show decode e16.b 119 = .ok (.getfield 37, 3) by decide +kernel)
theorem s16_122 : wp K d 16 122 (a0 :: a1 :: a2 :: .inl x :: L) st h Q = wp K d 16 123 (a0 :: a1 :: a2 :: .inl x :: L) (.inl x :: st) h Q := w_iload_n (j := 3) rfl pt16 (show decode e16.b 122 = .ok (.iload_n 3, 1) by decide +kernel)
theorem s16_123 : wp K d 16 123 L st h Q = wp K d 16 124 L (.inl (5) :: st) h Q := w_iconst (z := (5)) (by decide) pt16 (show decode e16.b 123 = .ok (.iconst (5), 1) by decide +kernel)
theorem s16_124 : wp K d 16 124 L (.inl y :: .inl x :: st) h Q = ((y ≠ 0) ∧ wp K d 16 125 L (.inl (w32 (x.tdiv y)) :: st) h Q) := w_idiv pt16 (show decode e16.b 124 = .ok (.idiv, 1) by decide +kernel)
theorem s16_125 : wp K d 16 125 L (.inl y :: .inl x :: st) h Q = wp K d 16 126 L (.inl (w32 (x + y)) :: st) h Q := w_iadd pt16 (show decode e16.b 125 = .ok (.iadd, 1) by decide +kernel)
theorem s16_126 : wp K (d + 1) 16 126 L [.inl z2, .inl z1, .inl z0, .inr (.inr (.inl a))] h Q = (isO K a 0 ∧ wp K d 17 0 [.inr (.inr (.inl a)), .inl z0, .inl z1, .inl z2, vU] [] h (fun r h' => wp K (d + 1) 16 129 L (r.toList ++ []) h' Q)) := w_callV pt16 (show decode e16.b 126 = .ok (.invokevirtual 79, 3) by decide +kernel) mr_0_79 pt17 rfl rfl (as := [.inl z2, .inl z1, .inl z0]) (rest := []) rfl rfl (Nat.le_of_ble_eq_true rfl) rfl (by decide) rfl
theorem s16_129 : wp K d 16 129 L [.inl x] h Q = Q (some (.inl x)) h := w_ireturn pt16 (show decode e16.b 129 = .ok (.ireturn, 1) by decide +kernel) rfl
theorem s16_130 : wp K d 16 130 (a0 :: a1 :: a2 :: a3 :: a4 :: .inl x :: L) st h Q = wp K d 16 132 (a0 :: a1 :: a2 :: a3 :: a4 :: .inl x :: L) (.inl x :: st) h Q := w_iload (j := 5) rfl pt16 (show decode e16.b 130 = .ok (.iload 5, 2) by decide +kernel)
theorem s16_132 : wp K d 16 132 L (.inl x :: st) h Q = if x = 0 then wp K d 16 140 L st h Q else wp K d 16 135 L st h Q := w_ifeq rfl pt16 (show decode e16.b 132 = .ok (.ifCond .eq (8), 3) by decide +kernel)
theorem s16_135 : wp K d 16 135 (a0 :: a1 :: a2 :: a3 :: .inl x :: L) st h Q = wp K d 16 137 (a0 :: a1 :: a2 :: a3 :: .inl x :: L) (.inl x :: st) h Q := w_iload (j := 4) rfl pt16 (show decode e16.b 135 = .ok (.iload 4, 2) by decide +kernel)
theorem s16_137 : wp K d 16 137 L st h Q = wp K d 16 145 L st h Q := w_goto rfl pt16 (show decode e16.b 137 = .ok (.goto (8), 3) by decide +kernel)
theorem s16_140 : wp K d 16 140 (a0 :: a1 :: a2 :: a3 :: .inl x :: L) st h Q = wp K d 16 142 (a0 :: a1 :: a2 :: a3 :: .inl x :: L) (.inl x :: st) h Q := w_iload (j := 4) rfl pt16 (show decode e16.b 140 = .ok (.iload 4, 2) by decide +kernel)
theorem s16_142 : wp K (d + 1) 16 142 L [.inl z0] h Q = wp K d 18 0 [.inl z0] [] h (fun r h' => wp K (d + 1) 16 145 L (r.toList ++ []) h' Q) := w_callS pt16 (show decode e16.b 142 = .ok (.invokestatic 83, 3) by decide +kernel) mr_0_83 pt18 rfl (by decide) (as := [.inl z0]) (rest := []) rfl rfl (Nat.le_of_ble_eq_true rfl) (Or.inr rfl) (Nat.le_of_ble_eq_true rfl) rfl
theorem s16_145 : wp K d 16 145 L [.inl x] h Q = Q (some (.inl x)) h := w_ireturn pt16 (show decode e16.b 145 = .ok (.ireturn, 1) by decide +kernel) rfl
theorem s16_146 : wp K d 16 146 (a0 :: a1 :: a2 :: a3 :: .inl x :: L) st h Q = wp K d 16 148 (a0 :: a1 :: a2 :: a3 :: .inl x :: L) (.inl x :: st) h Q := w_iload (j := 4) rfl pt16 (show decode e16.b 146 = .ok (.iload 4, 2) by decide +kernel)
theorem s16_148 : wp K d 16 148 L [.inl x] h Q = Q (some (.inl x)) h := w_ireturn pt16 (show decode e16.b 148 = .ok (.ireturn, 1) by decide +kernel) rfl
theorem s17_0 : wp K d 17 0 (.inr (.inr (.inl a)) :: L) st h Q = wp K d 17 1 (.inr (.inr (.inl a)) :: L) (.inr (.inr (.inl a)) :: st) h Q := w_aload_n (j := 0) rfl pt17 (show decode e17.b 0 = .ok (.aload_n 0, 1) by decide +kernel)
theorem s17_1 : wp K d 17 1 L (.inr (.inr (.inl a)) :: st) h Q = (isO K a 0 ∧ wp K d 17 4 L (.inr (.inr (.inl (rT K a 1))) :: st) h Q) := w_getR fr_0_9 (by decide) pt17 (show decode e17.b 1 = .ok (.getfield 9, 3) by decide +kernel)
theorem s17_4 : wp K d 17 4 (a0 :: .inl x :: L) st h Q = wp K d 17 5 (a0 :: .inl x :: L) (.inl x :: st) h Q := w_iload_n (j := 1) rfl pt17 (show decode e17.b 4 = .ok (.iload_n 1, 1) by decide +kernel)
theorem s17_5 : wp K d 17 5 L (.inl x :: .inr (.inr (.inl a)) :: st) h Q = ((0 ≤ x ∧ x < alen K h a) ∧ wp K d 17 6 L (.inl (h a x.toNat) :: st) h Q) := w_iaload pt17 (show decode e17.b 5 = .ok (.iaload, 1) by decide +kernel)
theorem s17_6 : wp K d 17 6 (.inr (.inr (.inl a)) :: L) st h Q = wp K d 17 7 (.inr (.inr (.inl a)) :: L) (.inr (.inr (.inl a)) :: st) h Q := w_aload_n (j := 0) rfl pt17 (show decode e17.b 6 = .ok (.aload_n 0, 1) by decide +kernel)
theorem s17_7 : wp K d 17 7 L (.inr (.inr (.inl a)) :: st) h Q = (isO K a 0 ∧ wp K d 17 10 L (.inr (.inr (.inl (rT K a 1))) :: st) h Q) := w_getR fr_0_9 (by decide) pt17 (show decode e17.b 7 = .ok (.getfield 9, 3) by decide +kernel)
theorem s17_10 : wp K d 17 10 (a0 :: a1 :: .inl x :: L) st h Q = wp K d 17 11 (a0 :: a1 :: .inl x :: L) (.inl x :: st) h Q := w_iload_n (j := 2) rfl pt17 (show decode e17.b 10 = .ok (.iload_n 2, 1) by decide +kernel)
theorem s17_11 : wp K d 17 11 L (.inl x :: .inr (.inr (.inl a)) :: st) h Q = ((0 ≤ x ∧ x < alen K h a) ∧ wp K d 17 12 L (.inl (h a x.toNat) :: st) h Q) := w_iaload pt17 (show decode e17.b 11 = .ok (.iaload, 1) by decide +kernel)
theorem s17_12 : wp K d 17 12 L (.inl y :: .inl x :: st) h Q = wp K d 17 13 L (.inl (w32 (x - y)) :: st) h Q := w_isub pt17 (show decode e17.b 12 = .ok (.isub, 1) by decide +kernel)
theorem s17_13 : wp K d 17 13 (a0 :: a1 :: a2 :: a3 :: w :: L) (.inl x :: st) h Q = wp K d 17 15 (a0 :: a1 :: a2 :: a3 :: .inl x :: L) st h Q := w_istore (j := 4) (ll4 ..) (Or.inl rfl) pt17 (show decode e17.b 13 = .ok (.istore 4, 2) by decide +kernel)
theorem s17_15 : wp K d 17 15 (a0 :: a1 :: a2 :: a3 :: .inl x :: L) st h Q = wp K d 17 17 (a0 :: a1 :: a2 :: a3 :: .inl x :: L) (.inl x :: st) h Q := w_iload (j := 4) rfl pt17 (show decode e17.b 15 = .ok (.iload 4, 2) by decide +kernel)
theorem s17_17 : wp K d 17 17 L [.inl x] h Q = wp K d 17 20 L [.inl (if 0 ≤ x then x else w32 (0 - x))] h Q := w_abs mr_0_86 pt17 (show decode e17.b 17 = .ok (.invokestatic 86, 3) by decide +kernel)
theorem s17_20 : wp K d 17 20 (a0 :: a1 :: a2 :: .inl x :: L) st h Q = wp K d 17 21 (a0 :: a1 :: a2 :: .inl x :: L) (.inl x :: st) h Q := w_iload_n (j := 3) rfl pt17 (show decode e17.b 20 = .ok (.iload_n 3, 1) by decide +kernel)
theorem s17_21 : wp K d 17 21 L (.inl y :: .inl x :: st) h Q = if y < x then wp K d 17 26 L st h Q else wp K d 17 24 L st h Q := w_icmpgt rfl pt17 (show decode e17.b 21 = .ok (.if_icmp .gt (5), 3) by decide +kernel)
theorem s17_24 : wp K d 17 24 L st h Q = wp K d 17 25 L (.inl (1) :: st) h Q := w_iconst (z := (1)) (by decide) pt17 (show decode e17.b 24 = .ok (.iconst (1), 1) by decide +kernel)
theorem s17_25 : wp K d 17 25 L [.inl x] h Q = Q (some (.inl x)) h := w_ireturn pt17 (show decode e17.b 25 = .ok (.ireturn, 1) by decide +kernel) rfl
theorem s17_26 : wp K d 17 26 (a0 :: a1 :: a2 :: a3 :: .inl x :: L) st h Q = wp K d 17 28 (a0 :: a1 :: a2 :: a3 :: .inl x :: L) (.inl x :: st) h Q := w_iload (j := 4) rfl pt17 (show decode e17.b 26 = .ok (.iload 4, 2) by decide +kernel)
theorem s17_28 : wp K d 17 28 L (.inl x :: st) h Q = if x ≤ 0 then wp K d 17 35 L st h Q else wp K d 17 31 L st h Q := w_ifle rfl pt17 (show decode e17.b 28 = .ok (.ifCond .le (7), 3) by decide +kernel)
theorem s17_31 : wp K d 17 31 L st h Q = wp K d 17 32 L (.inl (2) :: st) h Q := w_iconst (z := (2)) (by decide) pt17 (show decode e17.b 31 = .ok (.iconst (2), 1) by decide +kernel)
theorem s17_32 : wp K d 17 32 L st h Q = wp K d 17 36 L st h Q := w_goto rfl pt17 (show decode e17.b 32 = .ok (.goto (4), 3) by decide +kernel)
theorem s17_35 : wp K d 17 35 L st h Q = wp K d 17 36 L (.inl (0) :: st) h Q := w_iconst (z := (0)) (by decide) pt17 (show decode e17.b 35 = .ok (.iconst (0), 1) by decide +kernel)
theorem s17_36 : wp K d 17 36 L [.inl x] h Q = Q (some (.inl x)) h := w_ireturn pt17 (show decode e17.b 36 = .ok (.ireturn, 1) by decide +kernel) rfl
theorem s18_0 : wp K d 18 0 L st h Q = wp K d 18 1 L (.inl (2) :: st) h Q := w_iconst (z := (2)) (by decide) pt18 (show decode e18.b 0 = .ok (.iconst (2), 1) by decide +kernel)
theorem s18_1 : wp K d 18 1 (.inl x :: L) st h Q = wp K d 18 2 (.inl x :: L) (.inl x :: st) h Q := w_iload_n (j := 0) rfl pt18 (show decode e18.b 1 = .ok (.iload_n 0, 1) by decide +kernel)
theorem s18_2 : wp K d 18 2 L (.inl y :: .inl x :: st) h Q = wp K d 18 3 L (.inl (w32 (x - y)) :: st) h Q := w_isub pt18 (show decode e18.b 2 = .ok (.isub, 1) by decide +kernel)
theorem s18_3 : wp K d 18 3 L [.inl x] h Q = Q (some (.inl x)) h := w_ireturn pt18 (show decode e18.b 3 = .ok (.ireturn, 1) by decide +kernel) rfl
theorem s19_0 : wp K d 19 0 L st h Q = wp K d 19 1 L (.inl (0) :: st) h Q := w_iconst (z := (0)) (by decide) pt19 (show decode e19.b 0 = .ok (.iconst (0), 1) by decide +kernel)
theorem s19_1 : wp K d 19 1 (a0 :: a1 :: a2 :: w :: L) (.inl x :: st) h Q = wp K d 19 2 (a0 :: a1 :: a2 :: .inl x :: L) st h Q := w_istore_n (j := 3) (ll3 ..) (Or.inl rfl) pt19 (show decode e19.b 1 = .ok (.istore_n 3, 1) by decide +kernel)
theorem s19_2 : wp K d 19 2 (a0 :: a1 :: a2 :: .inl x :: L) st h Q = wp K d 19 3 (a0 :: a1 :: a2 :: .inl x :: L) (.inl x :: st) h Q := w_iload_n (j := 3) rfl pt19 (show decode e19.b 2 = .ok (.iload_n 3, 1) by decide +kernel)
theorem s19_3 : wp K d 19 3 (a0 :: a1 :: .inl x :: L) st h Q = wp K d 19 4 (a0 :: a1 :: .inl x :: L) (.inl x :: st) h Q := w_iload_n (j := 2) rfl pt19 (show decode e19.b 3 = .ok (.iload_n 2, 1) by decide +kernel)
theorem s19_4 : wp K d 19 4 L (.inl y :: .inl x :: st) h Q = if y ≤ x then wp K d 19 88 L st h Q else wp K d 19 7 L st h Q := w_icmpge rfl pt19 (show decode e19.b 4 = .ok (.if_icmp .ge (84), 3) by decide +kernel)
theorem s19_7 : wp K d 19 7 (a0 :: a1 :: a2 :: .inl x :: L) st h Q = wp K d 19 8 (a0 :: a1 :: a2 :: .inl x :: L) (.inl x :: st) h Q := w_iload_n (j := 3) rfl pt19 (show decode e19.b 7 = .ok (.iload_n 3, 1) by decide +kernel)
theorem s19_8 : wp K d 19 8 L st h Q = wp K d 19 9 L (.inl (3) :: st) h Q := w_iconst (z := (3)) (by decide) pt19 (show decode e19.b 8 = .ok (.iconst (3), 1) by decide +kernel)
theorem s19_9 : wp K d 19 9 L (.inl y :: .inl x :: st) h Q = wp K d 19 10 L (.inl (w32 (x + y)) :: st) h Q := w_iadd pt19 (show decode e19.b 9 = .ok (.iadd, 1) by decide +kernel)
theorem s19_10 : wp K d 19 10 (a0 :: a1 :: .inl x :: L) st h Q = wp K d 19 11 (a0 :: a1 :: .inl x :: L) (.inl x :: st) h Q := w_iload_n (j := 2) rfl pt19 (show decode e19.b 10 = .ok (.iload_n 2, 1) by decide +kernel)
theorem s19_11 : wp K d 19 11 L (.inl y :: .inl x :: st) h Q = if x ≤ y then wp K d 19 16 L st h Q else wp K d 19 14 L st h Q := w_icmple rfl pt19 (show decode e19.b 11 = .ok (.if_icmp .le (5), 3) by decide +kernel)
theorem s19_14 : wp K d 19 14 (a0 :: a1 :: a2 :: .inl x :: L) st h Q = wp K d 19 15 (a0 :: a1 :: a2 :: .inl x :: L) (.inl x :: st) h Q := w_iload_n (j := 3) rfl pt19 (show decode e19.b 14 = .ok (.iload_n 3, 1) by decide +kernel)
theorem s19_15 : wp K d 19 15 L [.inl x] h Q = Q (some (.inl x)) h := w_ireturn pt19 (show decode e19.b 15 = .ok (.ireturn, 1) by decide +kernel) rfl
theorem s19_16 : wp K d 19 16 (a0 :: .inr (.inr (.inl a)) :: L) st h Q = wp K d 19 17 (a0 :: .inr (.inr (.inl a)) :: L) (.inr (.inr (.inl a)) :: st) h Q := w_aload_n (j := 1) rfl pt19 (show decode e19.b 16 = .ok (.aload_n 1, 1) by decide +kernel)
theorem s19_17 : wp K d 19 17 (a0 :: a1 :: a2 :: .inl x :: L) st h Q = wp K d 19 18 (a0 :: a1 :: a2 :: .inl x :: L) (.inl x :: st) h Q := w_iload_n (j := 3) rfl pt19 (show decode e19.b 17 = .ok (.iload_n 3, 1) by decide +kernel)
theorem s19_18 : wp K d 19 18 L (.inl x :: .inr (.inr (.inl a)) :: st) h Q = ((0 ≤ x ∧ x < alen K h a) ∧ wp K d 19 19 L (.inl (h a x.toNat) :: st) h Q) := w_iaload pt19 (show decode e19.b 18 = .ok (.iaload, 1) by decide +kernel)
theorem s19_19 : wp K d 19 19 (a0 :: a1 :: a2 :: a3 :: w :: L) (.inl x :: st) h Q = wp K d 19 21 (a0 :: a1 :: a2 :: a3 :: .inl x :: L) st h Q := w_istore (j := 4) (ll4 ..) (Or.inl rfl) pt19 (show decode e19.b 19 = .ok (.istore 4, 2) by decide +kernel)
theorem s19_21 : wp K d 19 21 (a0 :: .inr (.inr (.inl a)) :: L) st h Q = wp K d 19 22 (a0 :: .inr (.inr (.inl a)) :: L) (.inr (.inr (.inl a)) :: st) h Q := w_aload_n (j := 1) rfl pt19 (show decode e19.b 21 = .ok (.aload_n 1, 1) by decide +kernel)
theorem s19_22 : wp K d 19 22 (a0 :: a1 :: a2 :: .inl x :: L) st h Q = wp K d 19 23 (a0 :: a1 :: a2 :: .inl x :: L) (.inl x :: st) h Q := w_iload_n (j := 3) rfl pt19 (show decode e19.b 22 = .ok (.iload_n 3, 1) by decide +kernel)
theorem s19_23 : wp K d 19 23 L st h Q = wp K d 19 24 L (.inl (1) :: st) h Q := w_iconst (z := (1)) (by decide) pt19 (show decode e19.b 23 = .ok (.iconst (1), 1) by decide +kernel)
theorem s19_24 : wp K d 19 24 L (.inl y :: .inl x :: st) h Q = wp K d 19 25 L (.inl (w32 (x + y)) :: st) h Q := w_iadd pt19 (show decode e19.b 24 = .ok (.iadd, 1) by decide +kernel)
theorem s19_25 : wp K d 19 25 L (.inl x :: .inr (.inr (.inl a)) :: st) h Q = ((0 ≤ x ∧ x < alen K h a) ∧ wp K d 19 26 L (.inl (h a x.toNat) :: st) h Q) := w_iaload pt19 (show decode e19.b 25 = .ok (.iaload, 1) by decide +kernel)
theorem s19_26 : wp K d 19 26 (a0 :: a1 :: a2 :: a3 :: a4 :: w :: L) (.inl x :: st) h Q = wp K d 19 28 (a0 :: a1 :: a2 :: a3 :: a4 :: .inl x :: L) st h Q := w_istore (j := 5) (ll5 ..) (Or.inl rfl) pt19 (show decode e19.b 26 = .ok (.istore 5, 2) by decide +kernel)
theorem s19_28 : wp K d 19 28 (.inr (.inr (.inl a)) :: L) st h Q = wp K d 19 29 (.inr (.inr (.inl a)) :: L) (.inr (.inr (.inl a)) :: st) h Q := w_aload_n (j := 0) rfl pt19 (show decode e19.b 28 = .ok (.aload_n 0, 1) by decide +kernel)
theorem s19_29 : wp K d 19 29 (a0 :: a1 :: a2 :: a3 :: .inl x :: L) st h Q = wp K d 19 31 (a0 :: a1 :: a2 :: a3 :: .inl x :: L) (.inl x :: st) h Q := w_iload (j := 4) rfl pt19 (show decode e19.b 29 = .ok (.iload 4, 2) by decide +kernel)
theorem s19_31 : wp K (d + 1) 19 31 L [.inl z0, .inr (.inr (.inl a))] h Q = (isO K a 0 ∧ wp K d 3 0 [.inr (.inr (.inl a)), .inl z0] [] h (fun r h' => wp K (d + 1) 19 34 L (r.toList ++ []) h' Q)) := w_callV pt19 (show decode e19.b 31 = .ok (.invokevirtual 59, 3) by decide +kernel) mr_0_59 pt3 rfl rfl (as := [.inl z0]) (rest := []) rfl rfl (Nat.le_of_ble_eq_true rfl) rfl (by decide) rfl
theorem s19_34 : wp K d 19 34 L (.inl x :: st) h Q = if x ≠ 0 then wp K d 19 39 L st h Q else wp K d 19 37 L st h Q := w_ifne rfl pt19 (show decode e19.b 34 = .ok (.ifCond .ne (5), 3) by decide +kernel)
theorem s19_37 : wp K d 19 37 (a0 :: a1 :: a2 :: .inl x :: L) st h Q = wp K d 19 38 (a0 :: a1 :: a2 :: .inl x :: L) (.inl x :: st) h Q := w_iload_n (j := 3) rfl pt19 (show decode e19.b 37 = .ok (.iload_n 3, 1) by decide +kernel)
theorem s19_38 : wp K d 19 38 L [.inl x] h Q = Q (some (.inl x)) h := w_ireturn pt19 (show decode e19.b 38 = .ok (.ireturn, 1) by decide +kernel) rfl
theorem s19_39 : wp K d 19 39 (.inr (.inr (.inl a)) :: L) st h Q = wp K d 19 40 (.inr (.inr (.inl a)) :: L) (.inr (.inr (.inl a)) :: st) h Q := w_aload_n (j := 0) rfl pt19 (show decode e19.b 39 = .ok (.aload_n 0, 1) by decide +kernel)
theorem s19_40 : wp K d 19 40 (a0 :: a1 :: a2 :: a3 :: .inl x :: L) st h Q = wp K d 19 42 (a0 :: a1 :: a2 :: a3 :: .inl x :: L) (.inl x :: st) h Q := w_iload (j := 4) rfl pt19 (show decode e19.b 40 = .ok (.iload 4, 2) by decide +kernel)
theorem s19_42 : wp K d 19 42 (a0 :: a1 :: a2 :: a3 :: a4 :: .inl x :: L) st h Q = wp K d 19 44 (a0 :: a1 :: a2 :: a3 :: a4 :: .inl x :: L) (.inl x :: st) h Q := w_iload (j := 5) rfl pt19 (show decode e19.b 42 = .ok (.iload 5, 2) by decide +kernel)
theorem s19_44 : wp K (d + 1) 19 44 L [.inl z1, .inl z0, .inr (.inr (.inl a))] h Q = (isO K a 0 ∧ wp K d 4 0 [.inr (.inr (.inl a)), .inl z0, .inl z1] [] h (fun r h' => wp K (d + 1) 19 47 L (r.toList ++ []) h' Q)) := w_callV pt19 (show decode e19.b 44 = .ok (.invokevirtual 66, 3) by decide +kernel) mr_0_66 pt4 rfl rfl (as := [.inl z1, .inl z0]) (rest := []) rfl rfl (Nat.le_of_ble_eq_true rfl) rfl (by decide) rfl
theorem s19_47 : wp K d 19 47 L (.inl x :: st) h Q = if x ≠ 0 then wp K d 19 54 L st h Q else wp K d 19 50 L st h Q := w_ifne rfl pt19 (show decode e19.b 47 = .ok (.ifCond .ne (7), 3) by decide +kernel)
theorem s19_50 : wp K d 19 50 (a0 :: a1 :: a2 :: .inl x :: L) st h Q = wp K d 19 51 (a0 :: a1 :: a2 :: .inl x :: L) (.inl x :: st) h Q := w_iload_n (j := 3) rfl pt19 (show decode e19.b 50 = .ok (.iload_n 3, 1) by decide +kernel)
theorem s19_51 : wp K d 19 51 L st h Q = wp K d 19 52 L (.inl (1) :: st) h Q := w_iconst (z := (1)) (by decide) pt19 (show decode e19.b 51 = .ok (.iconst (1), 1) by decide +kernel)
theorem s19_52 : wp K d 19 52 L (.inl y :: .inl x :: st) h Q = wp K d 19 53 L (.inl (w32 (x + y)) :: st) h Q := w_iadd pt19 (show decode e19.b 52 = .ok (.iadd, 1) by decide +kernel)
theorem s19_53 : wp K d 19 53 L [.inl x] h Q = Q (some (.inl x)) h := w_ireturn pt19 (show decode e19.b 53 = .ok (.ireturn, 1) by decide +kernel) rfl
theorem s19_54 : wp K d 19 54 (a0 :: .inr (.inr (.inl a)) :: L) st h Q = wp K d 19 55 (a0 :: .inr (.inr (.inl a)) :: L) (.inr (.inr (.inl a)) :: st) h Q := w_aload_n (j := 1) rfl pt19 (show decode e19.b 54 = .ok (.aload_n 1, 1) by decide +kernel)
theorem s19_55 : wp K d 19 55 (a0 :: a1 :: a2 :: .inl x :: L) st h Q = wp K d 19 56 (a0 :: a1 :: a2 :: .inl x :: L) (.inl x :: st) h Q := w_iload_n (j := 3) rfl pt19 (show decode e19.b 55 = .ok (.iload_n 3, 1) by decide +kernel)
theorem s19_56 : wp K d 19 56 L st h Q = wp K d 19 57 L (.inl (2) :: st) h Q := w_iconst (z := (2)) (by decide) pt19 (show decode e19.b 56 = .ok (.iconst (2), 1) by decide +kernel)
theorem s19_57 : wp K d 19 57 L (.inl y :: .inl x :: st) h Q = wp K d 19 58 L (.inl (w32 (x + y)) :: st) h Q := w_iadd pt19 (show decode e19.b 57 = .ok (.iadd, 1) by decide +kernel)
theorem s19_58 : wp K d 19 58 L (.inl x :: .inr (.inr (.inl a)) :: st) h Q = ((0 ≤ x ∧ x < alen K h a) ∧ wp K d 19 59 L (.inl (h a x.toNat) :: st) h Q) := w_iaload pt19 (show decode e19.b 58 = .ok (.iaload, 1) by decide +kernel)
theorem s19_59 : wp K d 19 59 (.inr (.inr (.inl a)) :: L) st h Q = wp K d 19 60 (.inr (.inr (.inl a)) :: L) (.inr (.inr (.inl a)) :: st) h Q := w_aload_n (j := 0) rfl pt19 (show decode e19.b 59 = .ok (.aload_n 0, 1) by decide +kernel)
theorem s19_60 : wp K d 19 60 (a0 :: a1 :: a2 :: a3 :: .inl x :: L) st h Q = wp K d 19 62 (a0 :: a1 :: a2 :: a3 :: .inl x :: L) (.inl x :: st) h Q := w_iload (j := 4) rfl pt19 (show decode e19.b 60 = .ok (.iload 4, 2) by decide +kernel)
theorem s19_62 : wp K d 19 62 (a0 :: a1 :: a2 :: a3 :: a4 :: .inl x :: L) st h Q = wp K d 19 64 (a0 :: a1 :: a2 :: a3 :: a4 :: .inl x :: L) (.inl x :: st) h Q := w_iload (j := 5) rfl pt19 (show decode e19.b 62 = .ok (.iload 5, 2) by decide +kernel)
theorem s19_64 : wp K d 19 64 (.inr (.inr (.inl a)) :: L) st h Q = wp K d 19 65 (.inr (.inr (.inl a)) :: L) (.inr (.inr (.inl a)) :: st) h Q := w_aload_n (j := 0) rfl pt19 (show decode e19.b 64 = .ok (.aload_n 0, 1) by decide +kernel)
theorem s19_65 : wp K d 19 65 L (.inr (.inr (.inl a)) :: st) h Q = (isO K a 0 ∧ wp K d 19 68 L (.inl (h a 4) :: st) h Q) := w_getI fr_0_47 (by decide) pt19 (show decode e19.b 65 = .ok (.getfield 47, 3) by decide +kernel)
theorem s19_68 : wp K d 19 68 (a0 :: a1 :: a2 :: .inl x :: L) st h Q = wp K d 19 69 (a0 :: a1 :: a2 :: .inl x :: L) (.inl x :: st) h Q := w_iload_n (j := 3) rfl pt19 (show decode e19.b 68 = .ok (.iload_n 3, 1) by decide +kernel)
theorem s19_69 : wp K d 19 69 L st h Q = wp K d 19 70 L (.inl (3) :: st) h Q := w_iconst (z := (3)) (by decide) pt19 (show decode e19.b 69 = .ok (.iconst (3), 1) by decide +kernel)
theorem s19_70 : wp K d 19 70 L (.inl y :: .inl x :: st) h Q = ((y ≠ 0) ∧ wp K d 19 71 L (.inl (w32 (x.tdiv y)) :: st) h Q) := w_idiv pt19 (show decode e19.b 70 = .ok (.idiv, 1) by decide +kernel)
theorem s19_71 : wp K d 19 71 L (.inl y :: .inl x :: st) h Q = wp K d 19 72 L (.inl (w32 (x + y)) :: st) h Q := w_iadd pt19 (show decode e19.b 71 = .ok (.iadd, 1) by decide +kernel)
theorem s19_72 : wp K (d + 1) 19 72 L [.inl z2, .inl z1, .inl z0, .inr (.inr (.inl a)), w0] h Q = (isO K a 0 ∧ wp K d 16 0 [.inr (.inr (.inl a)), .inl z0, .inl z1, .inl z2, vU, vU] [] h (fun r h' => wp K (d + 1) 19 75 L (r.toList ++ [w0]) h' Q)) := w_callV pt19 (show decode e19.b 72 = .ok (.invokevirtual 91, 3) by decide +kernel) mr_0_91 pt16 rfl rfl (as := [.inl z2, .inl z1, .inl z0]) (rest := [w0]) rfl rfl (Nat.le_of_ble_eq_true rfl) rfl (by decide) rfl
theorem s19_75 : wp K d 19 75 L (.inl y :: .inl x :: st) h Q = if x = y then wp K d 19 82 L st h Q else wp K d 19 78 L st h Q := w_icmpeq rfl pt19 (show decode e19.b 75 = .ok (.if_icmp .eq (7), 3) by decide +kernel)
theorem s19_78 : wp K d 19 78 (a0 :: a1 :: a2 :: .inl x :: L) st h Q = wp K d 19 79 (a0 :: a1 :: a2 :: .inl x :: L) (.inl x :: st) h Q := w_iload_n (j := 3) rfl pt19 (show decode e19.b 78 = .ok (.iload_n 3, 1) by decide +kernel)
theorem s19_79 : wp K d 19 79 L st h Q = wp K d 19 80 L (.inl (2) :: st) h Q := w_iconst (z := (2)) (by decide) pt19 (show decode e19.b 79 = .ok (.iconst (2), 1) by decide +kernel)
theorem s19_80 : wp K d 19 80 L (.inl y :: .inl x :: st) h Q = wp K d 19 81 L (.inl (w32 (x + y)) :: st) h Q := w_iadd pt19 (show decode e19.b 80 = .ok (.iadd, 1) by decide +kernel)
theorem s19_81 : wp K d 19 81 L [.inl x] h Q = Q (some (.inl x)) h := w_ireturn pt19 (show decode e19.b 81 = .ok (.ireturn, 1) by decide +kernel) rfl
theorem s19_82 : wp K d 19 82 (a0 :: a1 :: a2 :: .inl x :: L) st h Q = wp K d 19 85 (a0 :: a1 :: a2 :: .inl (w32 (x + (3))) :: L) st h Q := w_iinc (j := 3) (z := (3)) rfl (Or.inl rfl) (by decide) pt19 (show decode e19.b 82 = .ok (.iinc 3 (3), 3) by decide +kernel)
theorem s19_85 : wp K d 19 85 L st h Q = wp K d 19 2 L st h Q := w_goto rfl pt19 (show decode e19.b 85 = .ok (.goto (-83), 3) by decide +kernel)
theorem s19_88 : wp K d 19 88 L st h Q = wp K d 19 90 L (.inl (-9) :: st) h Q := w_bipush (z := (-9)) (by decide) pt19 (show decode e19.b 88 = .ok (.bipush (-9), 2) by decide +kernel)
theorem s19_90 : wp K d 19 90 L [.inl x] h Q = Q (some (.inl x)) h := w_ireturn pt19 (show decode e19.b 90 = .ok (.ireturn, 1) by decide +kernel) rfl
theorem s21_0 : wp K d 21 0 (.inr (.inr (.inl a)) :: L) st h Q = wp K d 21 1 (.inr (.inr (.inl a)) :: L) (.inr (.inr (.inl a)) :: st) h Q := w_aload_n (j := 0) rfl pt21 (show decode e21.b 0 = .ok (.aload_n 0, 1) by decide +kernel)
theorem s21_1 : wp K d 21 1 (a0 :: .inr (.inr (.inl a)) :: L) st h Q = wp K d 21 2 (a0 :: .inr (.inr (.inl a)) :: L) (.inr (.inr (.inl a)) :: st) h Q := w_aload_n (j := 1) rfl pt21 (show decode e21.b 1 = .ok (.aload_n 1, 1) by decide +kernel)
theorem s21_2 : wp K d 21 2 L st h Q = wp K d 21 3 L (.inl (-1) :: st) h Q := w_iconst (z := (-1)) (by decide) pt21 (show decode e21.b 2 = .ok (.iconst (-1), 1) by decide +kernel)
theorem s21_3 : wp K (d + 1) 21 3 L [.inl z1, .inr (.inr (.inl b0)), .inr (.inr (.inl a))] h Q = (isO K a 1 ∧ wp K d 22 0 [.inr (.inr (.inl a)), .inr (.inr (.inl b0)), .inl z1, vU, vU] [] h (fun r h' => wp K (d + 1) 21 6 L (r.toList ++ []) h' Q)) := w_callV pt21 (show decode e21.b 3 = .ok (.invokevirtual 25, 3) by decide +kernel) mr_1_25 pt22 rfl rfl (as := [.inl z1, .inr (.inr (.inl b0))]) (rest := []) rfl rfl (Nat.le_of_ble_eq_true rfl) rfl (by decide) rfl
theorem s21_6 : wp K d 21 6 L [] h Q = Q none h := w_return pt21 (show decode e21.b 6 = .ok (.return_, 1) by decide +kernel) rfl
theorem s22_0 : wp K d 22 0 (.inr (.inr (.inl a)) :: L) st h Q = wp K d 22 1 (.inr (.inr (.inl a)) :: L) (.inr (.inr (.inl a)) :: st) h Q := w_aload_n (j := 0) rfl pt22 (show decode e22.b 0 = .ok (.aload_n 0, 1) by decide +kernel)
theorem s22_1 : wp K d 22 1 (a0 :: .inr (.inr (.inl a)) :: L) st h Q = wp K d 22 2 (a0 :: .inr (.inr (.inl a)) :: L) (.inr (.inr (.inl a)) :: st) h Q := w_aload_n (j := 1) rfl pt22 (show decode e22.b 1 = .ok (.aload_n 1, 1) by decide +kernel)
theorem s22_2 : wp K d 22 2 L (.inr (.inr (.inl a)) :: st) h Q = (isO K a 0 ∧ wp K d 22 5 L (.inl (h a 0) :: st) h Q) := w_getI fr_1_29 (by decide) pt22 (show decode e22.b 2 = .ok (.getfield 29, 3) by decide +kernel)
theorem s22_5 : wp K d 22 5 L (.inl x :: .inr (.inr (.inl a)) :: st) h Q = (isO K a 1 ∧ wp K d 22 8 L st (hput h a 0 x) Q) := w_putI fr_1_9 (by decide) (by decide) pt22 (show decode e22.b 5 = .ok (.putfield 9, 3) by decide +kernel)
theorem s22_8 : wp K d 22 8 L st h Q = wp K d 22 9 L (.inl (0) :: st) h Q := w_iconst (z := (0)) (by decide) pt22 (show decode e22.b 8 = .ok (.iconst (0), 1) by decide +kernel)
theorem s22_9 : wp K d 22 9 (a0 :: a1 :: a2 :: w :: L) (.inl x :: st) h Q = wp K d 22 10 (a0 :: a1 :: a2 :: .inl x :: L) st h Q := w_istore_n (j := 3) (ll3 ..) (Or.inl rfl) pt22 (show decode e22.b 9 = .ok (.istore_n 3, 1) by decide +kernel)
theorem s22_10 : wp K d 22 10 (a0 :: a1 :: a2 :: .inl x :: L) st h Q = wp K d 22 11 (a0 :: a1 :: a2 :: .inl x :: L) (.inl x :: st) h Q := w_iload_n (j := 3) rfl pt22 (show decode e22.b 10 = .ok (.iload_n 3, 1) by decide +kernel)
theorem s22_11 : wp K d 22 11 L st h Q = wp K d 22 13 L (.inl (6) :: st) h Q := w_bipush (z := (6)) (by decide) pt22 (show decode e22.b 11 = .ok (.bipush (6), 2) by decide +kernel)
theorem s22_13 : wp K d 22 13 L (.inl y :: .inl x :: st) h Q = if y ≤ x then wp K d 22 36 L st h Q else wp K d 22 16 L st h Q := w_icmpge rfl pt22 (show decode e22.b 13 = .ok (.if_icmp .ge (23), 3) by decide +kernel)
theorem s22_16 : wp K d 22 16 (.inr (.inr (.inl a)) :: L) st h Q = wp K d 22 17 (.inr (.inr (.inl a)) :: L) (.inr (.inr (.inl a)) :: st) h Q := w_aload_n (j := 0) rfl pt22 (show decode e22.b 16 = .ok (.aload_n 0, 1) by decide +kernel)
theorem s22_17 : wp K d 22 17 L (.inr (.inr (.inl a)) :: st) h Q = (isO K a 1 ∧ wp K d 22 20 L (.inr (.inr (.inl (rT K a 1))) :: st) h Q) := w_getR fr_1_15 (by decide) pt22 (show decode e22.b 17 = .ok (.getfield 15, 3) by decide +kernel)
theorem s22_20 : wp K d 22 20 (a0 :: a1 :: a2 :: .inl x :: L) st h Q = wp K d 22 21 (a0 :: a1 :: a2 :: .inl x :: L) (.inl x :: st) h Q := w_iload_n (j := 3) rfl pt22 (show decode e22.b 20 = .ok (.iload_n 3, 1) by decide +kernel)
theorem s22_21 : wp K d 22 21 L st h Q = wp K d 22 22 L (.inl (0) :: st) h Q := w_iconst (z := (0)) (by decide) pt22 (show decode e22.b 21 = .ok (.iconst (0), 1) by decide +kernel)
theorem s22_22 : wp K d 22 22 L (.inl y :: .inl x :: .inr (.inr (.inl a)) :: st) h Q = ((0 ≤ x ∧ x < aln K a) ∧ wp K d 22 23 L st (hput h a x.toNat y) Q) := w_iastore pt22 (show decode e22.b 22 = .ok (.iastore, 1) by decide +kernel)
theorem s22_23 : wp K d 22 23 (.inr (.inr (.inl a)) :: L) st h Q = wp K d 22 24 (.inr (.inr (.inl a)) :: L) (.inr (.inr (.inl a)) :: st) h Q := w_aload_n (j := 0) rfl pt22 (show decode e22.b 23 = .ok (.aload_n 0, 1) by decide +kernel)
theorem s22_24 : wp K d 22 24 L (.inr (.inr (.inl a)) :: st) h Q = (isO K a 1 ∧ wp K d 22 27 L (.inr (.inr (.inl (rT K a 2))) :: st) h Q) := w_getR fr_1_19 (by decide) pt22 (show decode e22.b 24 = .ok (.getfield 19, 3) by decide +kernel)
theorem s22_27 : wp K d 22 27 (a0 :: a1 :: a2 :: .inl x :: L) st h Q = wp K d 22 28 (a0 :: a1 :: a2 :: .inl x :: L) (.inl x :: st) h Q := w_iload_n (j := 3) rfl pt22 (show decode e22.b 27 = .ok (.iload_n 3, 1) by decide +kernel)
theorem s22_28 : wp K d 22 28 L st h Q = wp K d 22 29 L (.inl (0) :: st) h Q := w_iconst (z := (0)) (by decide) pt22 (show decode e22.b 28 = .ok (.iconst (0), 1) by decide +kernel)
theorem s22_29 : wp K d 22 29 L (.inl y :: .inl x :: .inr (.inr (.inl a)) :: st) h Q = ((0 ≤ x ∧ x < aln K a) ∧ wp K d 22 30 L st (hput h a x.toNat y) Q) := w_iastore pt22 (show decode e22.b 29 = .ok (.iastore, 1) by decide +kernel)
theorem s22_30 : wp K d 22 30 (a0 :: a1 :: a2 :: .inl x :: L) st h Q = wp K d 22 33 (a0 :: a1 :: a2 :: .inl (w32 (x + (1))) :: L) st h Q := w_iinc (j := 3) (z := (1)) rfl (Or.inl rfl) (by decide) pt22 (show decode e22.b 30 = .ok (.iinc 3 (1), 3) by decide +kernel)
theorem s22_33 : wp K d 22 33 L st h Q = wp K d 22 10 L st h Q := w_goto rfl pt22 (show decode e22.b 33 = .ok (.goto (-23), 3) by decide +kernel)
theorem s22_36 : wp K d 22 36 L st h Q = wp K d 22 37 L (.inl (0) :: st) h Q := w_iconst (z := (0)) (by decide) pt22 (show decode e22.b 36 = .ok (.iconst (0), 1) by decide +kernel)
theorem s22_37 : wp K d 22 37 (a0 :: a1 :: a2 :: w :: L) (.inl x :: st) h Q = wp K d 22 38 (a0 :: a1 :: a2 :: .inl x :: L) st h Q := w_istore_n (j := 3) (ll3 ..) (Or.inl rfl) pt22 (show decode e22.b 37 = .ok (.istore_n 3, 1) by decide +kernel)
theorem s22_38 : wp K d 22 38 (a0 :: a1 :: a2 :: .inl x :: L) st h Q = wp K d 22 39 (a0 :: a1 :: a2 :: .inl x :: L) (.inl x :: st) h Q := w_iload_n (j := 3) rfl pt22 (show decode e22.b 38 = .ok (.iload_n 3, 1) by decide +kernel)
theorem s22_39 : wp K d 22 39 (a0 :: .inr (.inr (.inl a)) :: L) st h Q = wp K d 22 40 (a0 :: .inr (.inr (.inl a)) :: L) (.inr (.inr (.inl a)) :: st) h Q := w_aload_n (j := 1) rfl pt22 (show decode e22.b 39 = .ok (.aload_n 1, 1) by decide +kernel)
theorem s22_40 : wp K d 22 40 L (.inr (.inr (.inl a)) :: st) h Q = (isO K a 0 ∧ wp K d 22 43 L (.inl (h a 4) :: st) h Q) := w_getI fr_1_32 (by decide) pt22 (show decode e22.b 40 = .ok (.getfield 32, 3) by decide +kernel)
theorem s22_43 : wp K d 22 43 L (.inl y :: .inl x :: st) h Q = if y ≤ x then wp K d 22 135 L st h Q else wp K d 22 46 L st h Q := w_icmpge rfl pt22 (show decode e22.b 43 = .ok (.if_icmp .ge (92), 3) by decide +kernel)
theorem s22_46 : wp K d 22 46 (a0 :: a1 :: a2 :: .inl x :: L) st h Q = wp K d 22 47 (a0 :: a1 :: a2 :: .inl x :: L) (.inl x :: st) h Q := w_iload_n (j := 3) rfl pt22 (show decode e22.b 46 = .ok (.iload_n 3, 1) by decide +kernel)
theorem s22_47 : wp K d 22 47 (a0 :: a1 :: .inl x :: L) st h Q = wp K d 22 48 (a0 :: a1 :: .inl x :: L) (.inl x :: st) h Q := w_iload_n (j := 2) rfl pt22 (show decode e22.b 47 = .ok (.iload_n 2, 1) by decide +kernel)
theorem s22_48 : wp K d 22 48 L (.inl y :: .inl x :: st) h Q = if x ≠ y then wp K d 22 63 L st h Q else wp K d 22 51 L st h Q := w_icmpne rfl pt22 (show decode e22.b 48 = .ok (.if_icmp .ne (15), 3) by decide +kernel)
theorem s22_51 : wp K d 22 51 (a0 :: .inr (.inr (.inl a)) :: L) st h Q = wp K d 22 52 (a0 :: .inr (.inr (.inl a)) :: L) (.inr (.inr (.inl a)) :: st) h Q := w_aload_n (j := 1) rfl pt22 (show decode e22.b 51 = .ok (.aload_n 1, 1) by decide +kernel)
theorem s22_52 : wp K d 22 52 L (.inr (.inr (.inl a)) :: st) h Q = (isO K a 0 ∧ wp K d 22 55 L (.inr (.inr (.inl (rT K a 7))) :: st) h Q) := w_getR fr_1_35 (by decide) pt22 (show decode e22.b 52 = .ok (.getfield 35, 3) by decide +kernel)
theorem s22_55 : wp K d 22 55 (a0 :: a1 :: a2 :: .inl x :: L) st h Q = wp K d 22 56 (a0 :: a1 :: a2 :: .inl x :: L) (.inl x :: st) h Q := w_iload_n (j := 3) rfl pt22 (show decode e22.b 55 = .ok (.iload_n 3, 1) by decide +kernel)
theorem s22_56 : wp K d 22 56 L (.inl x :: .inr (.inr (.inl a)) :: st) h Q = ((0 ≤ x ∧ x < alen K h a) ∧ wp K d 22 57 L (.inl (h a x.toNat) :: st) h Q) := w_iaload pt22 (show decode e22.b 56 = .ok (.iaload, 1) by decide +kernel)
theorem s22_57 : wp K (d + 1) 22 57 L [.inl z0] h Q = wp K d 18 0 [.inl z0] [] h (fun r h' => wp K (d + 1) 22 60 L (r.toList ++ []) h' Q) := w_callS pt22 (show decode e22.b 57 = .ok (.invokestatic 38, 3) by decide +kernel) mr_1_38 pt18 rfl (by decide) (as := [.inl z0]) (rest := []) rfl rfl (Nat.le_of_ble_eq_true rfl) (Or.inr rfl) (Nat.le_of_ble_eq_true rfl) rfl
theorem s22_60 : wp K d 22 60 L st h Q = wp K d 22 69 L st h Q := w_goto rfl pt22 (show decode e22.b 60 = .ok (.goto (9), 3) by decide +kernel)
theorem s22_63 : wp K d 22 63 (a0 :: .inr (.inr (.inl a)) :: L) st h Q = wp K d 22 64 (a0 :: .inr (.inr (.inl a)) :: L) (.inr (.inr (.inl a)) :: st) h Q := w_aload_n (j := 1) rfl pt22 (show decode e22.b 63 = .ok (.aload_n 1, 1) by decide +kernel)
theorem s22_64 : wp K d 22 64 L (.inr (.inr (.inl a)) :: st) h Q = (isO K a 0 ∧ wp K d 22 67 L (.inr (.inr (.inl (rT K a 7))) :: st) h Q) := w_getR fr_1_35 (by decide) pt22 (show decode e22.b 64 = .ok (.getfield 35, 3) by decide +kernel)
theorem s22_67 : wp K d 22 67 (a0 :: a1 :: a2 :: .inl x :: L) st h Q = wp K d 22 68 (a0 :: a1 :: a2 :: .inl x :: L) (.inl x :: st) h Q := w_iload_n (j := 3) rfl pt22 (show decode e22.b 67 = .ok (.iload_n 3, 1) by decide +kernel)
theorem s22_68 : wp K d 22 68 L (.inl x :: .inr (.inr (.inl a)) :: st) h Q = ((0 ≤ x ∧ x < alen K h a) ∧ wp K d 22 69 L (.inl (h a x.toNat) :: st) h Q) := w_iaload pt22 (show decode e22.b 68 = .ok (.iaload, 1) by decide +kernel)
theorem s22_69 : wp K d 22 69 (a0 :: a1 :: a2 :: a3 :: w :: L) (.inl x :: st) h Q = wp K d 22 71 (a0 :: a1 :: a2 :: a3 :: .inl x :: L) st h Q := w_istore (j := 4) (ll4 ..) (Or.inl rfl) pt22 (show decode e22.b 69 = .ok (.istore 4, 2) by decide +kernel)
theorem s22_71 : wp K d 22 71 (a0 :: a1 :: a2 :: a3 :: .inl x :: L) st h Q = wp K d 22 73 (a0 :: a1 :: a2 :: a3 :: .inl x :: L) (.inl x :: st) h Q := w_iload (j := 4) rfl pt22 (show decode e22.b 71 = .ok (.iload 4, 2) by decide +kernel)
theorem s22_73 : wp K d 22 73 L st h Q = wp K d 22 74 L (.inl (2) :: st) h Q := w_iconst (z := (2)) (by decide) pt22 (show decode e22.b 73 = .ok (.iconst (2), 1) by decide +kernel)
theorem s22_74 : wp K d 22 74 L (.inl y :: .inl x :: st) h Q = if x ≠ y then wp K d 22 102 L st h Q else wp K d 22 77 L st h Q := w_icmpne rfl pt22 (show decode e22.b 74 = .ok (.if_icmp .ne (28), 3) by decide +kernel)
theorem s22_77 : wp K d 22 77 (.inr (.inr (.inl a)) :: L) st h Q = wp K d 22 78 (.inr (.inr (.inl a)) :: L) (.inr (.inr (.inl a)) :: st) h Q := w_aload_n (j := 0) rfl pt22 (show decode e22.b 77 = .ok (.aload_n 0, 1) by decide +kernel)
theorem s22_78 : wp K d 22 78 L (.inr (.inr (.inl a)) :: st) h Q = (isO K a 1 ∧ wp K d 22 81 L (.inr (.inr (.inl (rT K a 1))) :: st) h Q) := w_getR fr_1_15 (by decide) pt22 (show decode e22.b 78 = .ok (.getfield 15, 3) by decide +kernel)
theorem s22_81 : wp K d 22 81 (a0 :: .inr (.inr (.inl a)) :: L) st h Q = wp K d 22 82 (a0 :: .inr (.inr (.inl a)) :: L) (.inr (.inr (.inl a)) :: st) h Q := w_aload_n (j := 1) rfl pt22 (show decode e22.b 81 = .ok (.aload_n 1, 1) by decide +kernel)
theorem s22_82 : wp K d 22 82 L (.inr (.inr (.inl a)) :: st) h Q = (isO K a 0 ∧ wp K d 22 85 L (.inr (.inr (.inl (rT K a 5))) :: st) h Q) := w_getR fr_1_42 (by decide) pt22 (show decode e22.b 82 = .ok (.getfield 42, 3) by decide +kernel)
theorem s22_85 : wp K d 22 85 (a0 :: a1 :: a2 :: .inl x :: L) st h Q = wp K d 22 86 (a0 :: a1 :: a2 :: .inl x :: L) (.inl x :: st) h Q := w_iload_n (j := 3) rfl pt22 (show decode e22.b 85 = .ok (.iload_n 3, 1) by decide +kernel)
theorem s22_86 : wp K d 22 86 L (.inl x :: .inr (.inr (.inl a)) :: st) h Q = ((0 ≤ x ∧ x < alen K h a) ∧ wp K d 22 87 L (.inl (h a x.toNat) :: st) h Q) := w_iaload pt22 (show decode e22.b 86 = .ok (.iaload, 1) by decide +kernel)
theorem s22_87 : wp K d 22 87 L (.inl x :: .inr (.inr (.inl b)) :: st) h Q = wp K d 22 88 L (.inl x :: .inr (.inr (.inl b)) :: .inl x :: .inr (.inr (.inl b)) :: st) h Q := w_dup2 rfl rfl pt22 (show decode e22.b 87 = .ok (.dup2, 1) by decide +kernel)
theorem s22_88 : wp K d 22 88 L (.inl x :: .inr (.inr (.inl a)) :: st) h Q = ((0 ≤ x ∧ x < alen K h a) ∧ wp K d 22 89 L (.inl (h a x.toNat) :: st) h Q) := w_iaload pt22 (show decode e22.b 88 = .ok (.iaload, 1) by decide +kernel)
theorem s22_89 : wp K d 22 89 L st h Q = wp K d 22 90 L (.inl (1) :: st) h Q := w_iconst (z := (1)) (by decide) pt22 (show decode e22.b 89 = .ok (.iconst (1), 1) by decide +kernel)
theorem s22_90 : wp K d 22 90 (a0 :: .inr (.inr (.inl a)) :: L) st h Q = wp K d 22 91 (a0 :: .inr (.inr (.inl a)) :: L) (.inr (.inr (.inl a)) :: st) h Q := w_aload_n (j := 1) rfl pt22 (show decode e22.b 90 = .ok (.aload_n 1, 1) by decide +kernel)
theorem s22_91 : wp K d 22 91 L (.inr (.inr (.inl a)) :: st) h Q = (isO K a 0 ∧ wp K d 22 94 L (.inr (.inr (.inl (rT K a 6))) :: st) h Q) := w_getR fr_1_45 (by decide) pt22 (show decode e22.b 91 = .ok (.getfield 45, 3) by decide +kernel)
theorem s22_94 : wp K d 22 94 (a0 :: a1 :: a2 :: .inl x :: L) st h Q = wp K d 22 95 (a0 :: a1 :: a2 :: .inl x :: L) (.inl x :: st) h Q := w_iload_n (j := 3) rfl pt22 (show decode e22.b 94 = .ok (.iload_n 3, 1) by decide +kernel)
theorem s22_95 : wp K d 22 95 L (.inl x :: .inr (.inr (.inl a)) :: st) h Q = ((0 ≤ x ∧ x < alen K h a) ∧ wp K d 22 96 L (.inl (h a x.toNat) :: st) h Q) := w_iaload pt22 (show decode e22.b 95 = .ok (.iaload, 1) by decide +kernel)
theorem s22_96 : wp K d 22 96 L (.inl y :: .inl x :: st) h Q = ((0 ≤ y ∧ y < 32) ∧ wp K d 22 97 L (.inl (w32 (x * 2 ^ y.toNat)) :: st) h Q) := w_ishl pt22 (show decode e22.b 96 = .ok (.ishl, 1) by decide +kernel)
theorem s22_97 : wp K d 22 97 L (.inl y :: .inl x :: st) h Q = wp K d 22 98 L (.inl (bOr x y) :: st) h Q := w_ior pt22 (show decode e22.b 97 = .ok (.ior, 1) by decide +kernel)
theorem s22_98 : wp K d 22 98 L (.inl y :: .inl x :: .inr (.inr (.inl a)) :: st) h Q = ((0 ≤ x ∧ x < aln K a) ∧ wp K d 22 99 L st (hput h a x.toNat y) Q) := w_iastore pt22 (show decode e22.b 98 = .ok (.iastore, 1) by decide +kernel)
theorem s22_99 : wp K d 22 99 L st h Q = wp K d 22 129 L st h Q := w_goto rfl pt22 (show decode e22.b 99 = .ok (.goto (30), 3) by decide +kernel)
theorem s22_102 : wp K d 22 102 (a0 :: a1 :: a2 :: a3 :: .inl x :: L) st h Q = wp K d 22 104 (a0 :: a1 :: a2 :: a3 :: .inl x :: L) (.inl x :: st) h Q := w_iload (j := 4) rfl pt22 (show decode e22.b 102 = .ok (.iload 4, 2) by decide +kernel)
theorem s22_104 : wp K d 22 104 L (.inl x :: st) h Q = if x ≠ 0 then wp K d 22 129 L st h Q else wp K d 22 107 L st h Q := w_ifne rfl pt22 (show decode e22.b 104 = .ok (.ifCond .ne (25), 3) by decide +kernel)
theorem s22_107 : wp K d 22 107 (.inr (.inr (.inl a)) :: L) st h Q = wp K d 22 108 (.inr (.inr (.inl a)) :: L) (.inr (.inr (.inl a)) :: st) h Q := w_aload_n (j := 0) rfl pt22 (show decode e22.b 107 = .ok (.aload_n 0, 1) by decide +kernel)
theorem s22_108 : wp K d 22 108 L (.inr (.inr (.inl a)) :: st) h Q = (isO K a 1 ∧ wp K d 22 111 L (.inr (.inr (.inl (rT K a 1))) :: st) h Q) := w_getR fr_1_15 (by decide) pt22 (show decode e22.b 108 = .ok (.getfield 15, 3) by decide +kernel)
theorem s22_111 : wp K d 22 111 (a0 :: .inr (.inr (.inl a)) :: L) st h Q = wp K d 22 112 (a0 :: .inr (.inr (.inl a)) :: L) (.inr (.inr (.inl a)) :: st) h Q := w_aload_n (j := 1) rfl pt22 (show decode e22.b 111 = .ok (.aload_n 1, 1) by decide +kernel)
theorem s22_112 : wp K d 22 112 L (.inr (.inr (.inl a)) :: st) h Q = (isO K a 0 ∧ wp K d 22 115 L (.inr (.inr (.inl (rT K a 6))) :: st) h Q) := w_getR fr_1_45 (by decide) pt22 (show decode e22.b 112 = .ok (.getfield 45, 3) by decide +kernel)
theorem s22_115 : wp K d 22 115 (a0 :: a1 :: a2 :: .inl x :: L) st h Q = wp K d 22 116 (a0 :: a1 :: a2 :: .inl x :: L) (.inl x :: st) h Q := w_iload_n (j := 3) rfl pt22 (show decode e22.b 115 = .ok (.iload_n 3, 1) by decide +kernel)
theorem s22_116 : wp K d 22 116 L (.inl x :: .inr (.inr (.inl a)) :: st) h Q = ((0 ≤ x ∧ x < alen K h a) ∧ wp K d 22 117 L (.inl (h a x.toNat) :: st) h Q) := w_iaload pt22 (show decode e22.b 116 = .ok (.iaload, 1) by decide +kernel)
theorem s22_117 : wp K d 22 117 L (.inl x :: .inr (.inr (.inl b)) :: st) h Q = wp K d 22 118 L (.inl x :: .inr (.inr (.inl b)) :: .inl x :: .inr (.inr (.inl b)) :: st) h Q := w_dup2 rfl rfl pt22 (show decode e22.b 117 = .ok (.dup2, 1) by decide +kernel)
theorem s22_118 : wp K d 22 118 L (.inl x :: .inr (.inr (.inl a)) :: st) h Q = ((0 ≤ x ∧ x < alen K h a) ∧ wp K d 22 119 L (.inl (h a x.toNat) :: st) h Q) := w_iaload pt22 (show decode e22.b 118 = .ok (.iaload, 1) by decide +kernel)
theorem s22_119 : wp K d 22 119 L st h Q = wp K d 22 120 L (.inl (1) :: st) h Q := w_iconst (z := (1)) (by decide) pt22 (show decode e22.b 119 = .ok (.iconst (1), 1) by decide +kernel)
theorem s22_120 : wp K d 22 120 (a0 :: .inr (.inr (.inl a)) :: L) st h Q = wp K d 22 121 (a0 :: .inr (.inr (.inl a)) :: L) (.inr (.inr (.inl a)) :: st) h Q := w_aload_n (j := 1) rfl pt22 (show decode e22.b 120 = .ok (.aload_n 1, 1) by decide +kernel)
theorem s22_121 : wp K d 22 121 L (.inr (.inr (.inl a)) :: st) h Q = (isO K a 0 ∧ wp K d 22 124 L (.inr (.inr (.inl (rT K a 5))) :: st) h Q) := w_getR fr_1_42 (by decide) pt22 (show decode e22.b 121 = .ok (.getfield 42, 3) by decide +kernel)
theorem s22_124 : wp K d 22 124 (a0 :: a1 :: a2 :: .inl x :: L) st h Q = wp K d 22 125 (a0 :: a1 :: a2 :: .inl x :: L) (.inl x :: st) h Q := w_iload_n (j := 3) rfl pt22 (show decode e22.b 124 = .ok (.iload_n 3, 1) by decide +kernel)
theorem s22_125 : wp K d 22 125 L (.inl x :: .inr (.inr (.inl a)) :: st) h Q = ((0 ≤ x ∧ x < alen K h a) ∧ wp K d 22 126 L (.inl (h a x.toNat) :: st) h Q) := w_iaload pt22 (show decode e22.b 125 = .ok (.iaload, 1) by decide +kernel)
theorem s22_126 : wp K d 22 126 L (.inl y :: .inl x :: st) h Q = ((0 ≤ y ∧ y < 32) ∧ wp K d 22 127 L (.inl (w32 (x * 2 ^ y.toNat)) :: st) h Q) := w_ishl pt22 (show decode e22.b 126 = .ok (.ishl, 1) by decide +kernel)
theorem s22_127 : wp K d 22 127 L (.inl y :: .inl x :: st) h Q = wp K d 22 128 L (.inl (bOr x y) :: st) h Q := w_ior pt22 (show decode e22.b 127 = .ok (.ior, 1) by decide +kernel)
theorem s22_128 : wp K d 22 128 L (.inl y :: .inl x :: .inr (.inr (.inl a)) :: st) h Q = ((0 ≤ x ∧ x < aln K a) ∧ wp K d 22 129 L st (hput h a x.toNat y) Q) := w_iastore pt22 (show decode e22.b 128 = .ok (.iastore, 1) by decide +kernel)
theorem s22_129 : wp K d 22 129 (a0 :: a1 :: a2 :: .inl x :: L) st h Q = wp K d 22 132 (a0 :: a1 :: a2 :: .inl (w32 (x + (1))) :: L) st h Q := w_iinc (j := 3) (z := (1)) rfl (Or.inl rfl) (by decide) pt22 (show decode e22.b 129 = .ok (.iinc 3 (1), 3) by decide +kernel)
theorem s22_132 : wp K d 22 132 L st h Q = wp K d 22 38 L st h Q := w_goto rfl pt22 (show decode e22.b 132 = .ok (.goto (-94), 3) by decide +kernel)
theorem s22_135 : wp K d 22 135 (.inr (.inr (.inl a)) :: L) st h Q = wp K d 22 136 (.inr (.inr (.inl a)) :: L) (.inr (.inr (.inl a)) :: st) h Q := w_aload_n (j := 0) rfl pt22 (show decode e22.b 135 = .ok (.aload_n 0, 1) by decide +kernel)
theorem s22_136 : wp K (d + 1) 22 136 L [.inr (.inr (.inl a))] h Q = (isO K a 1 ∧ wp K d 23 0 [.inr (.inr (.inl a)), vU, vU] [] h (fun r h' => wp K (d + 1) 22 139 L (r.toList ++ []) h' Q)) := w_callV pt22 (show decode e22.b 136 = .ok (.invokevirtual 48, 3) by decide +kernel) mr_1_48 pt23 rfl rfl (as := []) (rest := []) rfl rfl (Nat.le_of_ble_eq_true rfl) rfl (by decide) rfl
theorem s22_139 : wp K d 22 139 L [] h Q = Q none h := w_return pt22 (show decode e22.b 139 = .ok (.return_, 1) by decide +kernel) rfl
theorem s23_0 : wp K d 23 0 L st h Q = wp K d 23 1 L (.inl (0) :: st) h Q := w_iconst (z := (0)) (by decide) pt23 (show decode e23.b 0 = .ok (.iconst (0), 1) by decide +kernel)
theorem s23_1 : wp K d 23 1 (a0 :: w :: L) (.inl x :: st) h Q = wp K d 23 2 (a0 :: .inl x :: L) st h Q := w_istore_n (j := 1) (ll1 ..) (Or.inl rfl) pt23 (show decode e23.b 1 = .ok (.istore_n 1, 1) by decide +kernel)
theorem s23_2 : wp K d 23 2 (a0 :: .inl x :: L) st h Q = wp K d 23 3 (a0 :: .inl x :: L) (.inl x :: st) h Q := w_iload_n (j := 1) rfl pt23 (show decode e23.b 2 = .ok (.iload_n 1, 1) by decide +kernel)
theorem s23_3 : wp K d 23 3 (.inr (.inr (.inl a)) :: L) st h Q = wp K d 23 4 (.inr (.inr (.inl a)) :: L) (.inr (.inr (.inl a)) :: st) h Q := w_aload_n (j := 0) rfl pt23 (show decode e23.b 3 = .ok (.aload_n 0, 1) by decide +kernel)
theorem s23_4 : wp K d 23 4 L (.inr (.inr (.inl a)) :: st) h Q = (isO K a 1 ∧ wp K d 23 7 L (.inl (h a 0) :: st) h Q) := w_getI fr_1_9 (by decide) pt23 (show decode e23.b 4 = .ok (.getfield 9, 3) by decide +kernel)
theorem s23_7 : wp K d 23 7 L (.inl y :: .inl x :: st) h Q = if y ≤ x then wp K d 23 60 L st h Q else wp K d 23 10 L st h Q := w_icmpge rfl pt23 (show decode e23.b 7 = .ok (.if_icmp .ge (53), 3) by decide +kernel)
theorem s23_10 : wp K d 23 10 L st h Q = wp K d 23 11 L (.inl (0) :: st) h Q := w_iconst (z := (0)) (by decide) pt23 (show decode e23.b 10 = .ok (.iconst (0), 1) by decide +kernel)
theorem s23_11 : wp K d 23 11 (a0 :: a1 :: w :: L) (.inl x :: st) h Q = wp K d 23 12 (a0 :: a1 :: .inl x :: L) st h Q := w_istore_n (j := 2) (ll2 ..) (Or.inl rfl) pt23 (show decode e23.b 11 = .ok (.istore_n 2, 1) by decide +kernel)
theorem s23_12 : wp K d 23 12 (a0 :: a1 :: .inl x :: L) st h Q = wp K d 23 13 (a0 :: a1 :: .inl x :: L) (.inl x :: st) h Q := w_iload_n (j := 2) rfl pt23 (show decode e23.b 12 = .ok (.iload_n 2, 1) by decide +kernel)
theorem s23_13 : wp K d 23 13 (.inr (.inr (.inl a)) :: L) st h Q = wp K d 23 14 (.inr (.inr (.inl a)) :: L) (.inr (.inr (.inl a)) :: st) h Q := w_aload_n (j := 0) rfl pt23 (show decode e23.b 13 = .ok (.aload_n 0, 1) by decide +kernel)
theorem s23_14 : wp K d 23 14 L (.inr (.inr (.inl a)) :: st) h Q = (isO K a 1 ∧ wp K d 23 17 L (.inl (h a 0) :: st) h Q) := w_getI fr_1_9 (by decide) pt23 (show decode e23.b 14 = .ok (.getfield 9, 3) by decide +kernel)
theorem s23_17 : wp K d 23 17 L (.inl y :: .inl x :: st) h Q = if y ≤ x then wp K d 23 54 L st h Q else wp K d 23 20 L st h Q := w_icmpge rfl pt23 (show decode e23.b 17 = .ok (.if_icmp .ge (37), 3) by decide +kernel)
theorem s23_20 : wp K d 23 20 (.inr (.inr (.inl a)) :: L) st h Q = wp K d 23 21 (.inr (.inr (.inl a)) :: L) (.inr (.inr (.inl a)) :: st) h Q := w_aload_n (j := 0) rfl pt23 (show decode e23.b 20 = .ok (.aload_n 0, 1) by decide +kernel)
theorem s23_21 : wp K d 23 21 L (.inr (.inr (.inl a)) :: st) h Q = (isO K a 1 ∧ wp K d 23 24 L (.inr (.inr (.inl (rT K a 1))) :: st) h Q) := w_getR fr_1_15 (by decide) pt23 (show decode e23.b 21 = .ok (.getfield 15, 3) by decide +kernel)
theorem s23_24 : wp K d 23 24 (a0 :: a1 :: .inl x :: L) st h Q = wp K d 23 25 (a0 :: a1 :: .inl x :: L) (.inl x :: st) h Q := w_iload_n (j := 2) rfl pt23 (show decode e23.b 24 = .ok (.iload_n 2, 1) by decide +kernel)
theorem s23_25 : wp K d 23 25 L (.inl x :: .inr (.inr (.inl a)) :: st) h Q = ((0 ≤ x ∧ x < alen K h a) ∧ wp K d 23 26 L (.inl (h a x.toNat) :: st) h Q) := w_iaload pt23 (show decode e23.b 25 = .ok (.iaload, 1) by decide +kernel)
theorem s23_26 : wp K d 23 26 (a0 :: .inl x :: L) st h Q = wp K d 23 27 (a0 :: .inl x :: L) (.inl x :: st) h Q := w_iload_n (j := 1) rfl pt23 (show decode e23.b 26 = .ok (.iload_n 1, 1) by decide +kernel)
theorem s23_27 : wp K (d + 1) 23 27 L [.inl z1, .inl z0] h Q = wp K d 142 0 [.inl z0, .inl z1] [] h (fun r h' => wp K (d + 1) 23 30 L (r.toList ++ []) h' Q) := w_callS pt23 (show decode e23.b 27 = .ok (.invokestatic 51, 3) by decide +kernel) mr_1_51 pt142 rfl (by decide) (as := [.inl z1, .inl z0]) (rest := []) rfl rfl (Nat.le_of_ble_eq_true rfl) (Or.inr rfl) (Nat.le_of_ble_eq_true rfl) rfl
theorem s23_30 : wp K d 23 30 L (.inl x :: st) h Q = if x = 0 then wp K d 23 48 L st h Q else wp K d 23 33 L st h Q := w_ifeq rfl pt23 (show decode e23.b 30 = .ok (.ifCond .eq (18), 3) by decide +kernel)
theorem s23_33 : wp K d 23 33 (.inr (.inr (.inl a)) :: L) st h Q = wp K d 23 34 (.inr (.inr (.inl a)) :: L) (.inr (.inr (.inl a)) :: st) h Q := w_aload_n (j := 0) rfl pt23 (show decode e23.b 33 = .ok (.aload_n 0, 1) by decide +kernel)
theorem s23_34 : wp K d 23 34 L (.inr (.inr (.inl a)) :: st) h Q = (isO K a 1 ∧ wp K d 23 37 L (.inr (.inr (.inl (rT K a 1))) :: st) h Q) := w_getR fr_1_15 (by decide) pt23 (show decode e23.b 34 = .ok (.getfield 15, 3) by decide +kernel)
theorem s23_37 : wp K d 23 37 (a0 :: a1 :: .inl x :: L) st h Q = wp K d 23 38 (a0 :: a1 :: .inl x :: L) (.inl x :: st) h Q := w_iload_n (j := 2) rfl pt23 (show decode e23.b 37 = .ok (.iload_n 2, 1) by decide +kernel)
theorem s23_38 : wp K d 23 38 L (.inl x :: .inr (.inr (.inl b)) :: st) h Q = wp K d 23 39 L (.inl x :: .inr (.inr (.inl b)) :: .inl x :: .inr (.inr (.inl b)) :: st) h Q := w_dup2 rfl rfl pt23 (show decode e23.b 38 = .ok (.dup2, 1) by decide +kernel)
theorem s23_39 : wp K d 23 39 L (.inl x :: .inr (.inr (.inl a)) :: st) h Q = ((0 ≤ x ∧ x < alen K h a) ∧ wp K d 23 40 L (.inl (h a x.toNat) :: st) h Q) := w_iaload pt23 (show decode e23.b 39 = .ok (.iaload, 1) by decide +kernel)
theorem s23_40 : wp K d 23 40 (.inr (.inr (.inl a)) :: L) st h Q = wp K d 23 41 (.inr (.inr (.inl a)) :: L) (.inr (.inr (.inl a)) :: st) h Q := w_aload_n (j := 0) rfl pt23 (show decode e23.b 40 = .ok (.aload_n 0, 1) by decide +kernel)
theorem s23_41 : wp K d 23 41 L (.inr (.inr (.inl a)) :: st) h Q = (isO K a 1 ∧ wp K d 23 44 L (.inr (.inr (.inl (rT K a 1))) :: st) h Q) := w_getR fr_1_15 (by decide) pt23 (show decode e23.b 41 = .ok (.getfield 15, 3) by decide +kernel)
theorem s23_44 : wp K d 23 44 (a0 :: .inl x :: L) st h Q = wp K d 23 45 (a0 :: .inl x :: L) (.inl x :: st) h Q := w_iload_n (j := 1) rfl pt23 (show decode e23.b 44 = .ok (.iload_n 1, 1) by decide +kernel)
theorem s23_45 : wp K d 23 45 L (.inl x :: .inr (.inr (.inl a)) :: st) h Q = ((0 ≤ x ∧ x < alen K h a) ∧ wp K d 23 46 L (.inl (h a x.toNat) :: st) h Q) := w_iaload pt23 (show decode e23.b 45 = .ok (.iaload, 1) by decide +kernel)
theorem s23_46 : wp K d 23 46 L (.inl y :: .inl x :: st) h Q = wp K d 23 47 L (.inl (bOr x y) :: st) h Q := w_ior pt23 (show decode e23.b 46 = .ok (.ior, 1) by decide +kernel)
theorem s23_47 : wp K d 23 47 L (.inl y :: .inl x :: .inr (.inr (.inl a)) :: st) h Q = ((0 ≤ x ∧ x < aln K a) ∧ wp K d 23 48 L st (hput h a x.toNat y) Q) := w_iastore pt23 (show decode e23.b 47 = .ok (.iastore, 1) by decide +kernel)
theorem s23_48 : wp K d 23 48 (a0 :: a1 :: .inl x :: L) st h Q = wp K d 23 51 (a0 :: a1 :: .inl (w32 (x + (1))) :: L) st h Q := w_iinc (j := 2) (z := (1)) rfl (Or.inl rfl) (by decide) pt23 (show decode e23.b 48 = .ok (.iinc 2 (1), 3) by decide +kernel)
theorem s23_51 : wp K d 23 51 L st h Q = wp K d 23 12 L st h Q := w_goto rfl pt23 (show decode e23.b 51 = .ok (.goto (-39), 3) by decide +kernel)
theorem s23_54 : wp K d 23 54 (a0 :: .inl x :: L) st h Q = wp K d 23 57 (a0 :: .inl (w32 (x + (1))) :: L) st h Q := w_iinc (j := 1) (z := (1)) rfl (Or.inl rfl) (by decide) pt23 (show decode e23.b 54 = .ok (.iinc 1 (1), 3) by decide +kernel)
theorem s23_57 : wp K d 23 57 L st h Q = wp K d 23 2 L st h Q := w_goto rfl pt23 (show decode e23.b 57 = .ok (.goto (-55), 3) by decide +kernel)
theorem s23_60 : wp K d 23 60 L st h Q = wp K d 23 61 L (.inl (0) :: st) h Q := w_iconst (z := (0)) (by decide) pt23 (show decode e23.b 60 = .ok (.iconst (0), 1) by decide +kernel)
theorem s23_61 : wp K d 23 61 (a0 :: w :: L) (.inl x :: st) h Q = wp K d 23 62 (a0 :: .inl x :: L) st h Q := w_istore_n (j := 1) (ll1 ..) (Or.inl rfl) pt23 (show decode e23.b 61 = .ok (.istore_n 1, 1) by decide +kernel)
theorem s23_62 : wp K d 23 62 (a0 :: .inl x :: L) st h Q = wp K d 23 63 (a0 :: .inl x :: L) (.inl x :: st) h Q := w_iload_n (j := 1) rfl pt23 (show decode e23.b 62 = .ok (.iload_n 1, 1) by decide +kernel)
theorem s23_63 : wp K d 23 63 (.inr (.inr (.inl a)) :: L) st h Q = wp K d 23 64 (.inr (.inr (.inl a)) :: L) (.inr (.inr (.inl a)) :: st) h Q := w_aload_n (j := 0) rfl pt23 (show decode e23.b 63 = .ok (.aload_n 0, 1) by decide +kernel)
theorem s23_64 : wp K d 23 64 L (.inr (.inr (.inl a)) :: st) h Q = (isO K a 1 ∧ wp K d 23 67 L (.inl (h a 0) :: st) h Q) := w_getI fr_1_9 (by decide) pt23 (show decode e23.b 64 = .ok (.getfield 9, 3) by decide +kernel)
theorem s23_67 : wp K d 23 67 L (.inl y :: .inl x :: st) h Q = if y ≤ x then wp K d 23 117 L st h Q else wp K d 23 70 L st h Q := w_icmpge rfl pt23 (show decode e23.b 67 = .ok (.if_icmp .ge (50), 3) by decide +kernel)
theorem s23_70 : wp K d 23 70 L st h Q = wp K d 23 71 L (.inl (0) :: st) h Q := w_iconst (z := (0)) (by decide) pt23 (show decode e23.b 70 = .ok (.iconst (0), 1) by decide +kernel)
theorem s23_71 : wp K d 23 71 (a0 :: a1 :: w :: L) (.inl x :: st) h Q = wp K d 23 72 (a0 :: a1 :: .inl x :: L) st h Q := w_istore_n (j := 2) (ll2 ..) (Or.inl rfl) pt23 (show decode e23.b 71 = .ok (.istore_n 2, 1) by decide +kernel)
theorem s23_72 : wp K d 23 72 (a0 :: a1 :: .inl x :: L) st h Q = wp K d 23 73 (a0 :: a1 :: .inl x :: L) (.inl x :: st) h Q := w_iload_n (j := 2) rfl pt23 (show decode e23.b 72 = .ok (.iload_n 2, 1) by decide +kernel)
theorem s23_73 : wp K d 23 73 (.inr (.inr (.inl a)) :: L) st h Q = wp K d 23 74 (.inr (.inr (.inl a)) :: L) (.inr (.inr (.inl a)) :: st) h Q := w_aload_n (j := 0) rfl pt23 (show decode e23.b 73 = .ok (.aload_n 0, 1) by decide +kernel)
theorem s23_74 : wp K d 23 74 L (.inr (.inr (.inl a)) :: st) h Q = (isO K a 1 ∧ wp K d 23 77 L (.inl (h a 0) :: st) h Q) := w_getI fr_1_9 (by decide) pt23 (show decode e23.b 74 = .ok (.getfield 9, 3) by decide +kernel)
theorem s23_77 : wp K d 23 77 L (.inl y :: .inl x :: st) h Q = if y ≤ x then wp K d 23 111 L st h Q else wp K d 23 80 L st h Q := w_icmpge rfl pt23 (show decode e23.b 77 = .ok (.if_icmp .ge (34), 3) by decide +kernel)
theorem s23_80 : wp K d 23 80 (.inr (.inr (.inl a)) :: L) st h Q = wp K d 23 81 (.inr (.inr (.inl a)) :: L) (.inr (.inr (.inl a)) :: st) h Q := w_aload_n (j := 0) rfl pt23 (show decode e23.b 80 = .ok (.aload_n 0, 1) by decide +kernel)
theorem s23_81 : wp K d 23 81 L (.inr (.inr (.inl a)) :: st) h Q = (isO K a 1 ∧ wp K d 23 84 L (.inr (.inr (.inl (rT K a 1))) :: st) h Q) := w_getR fr_1_15 (by decide) pt23 (show decode e23.b 81 = .ok (.getfield 15, 3) by decide +kernel)
theorem s23_84 : wp K d 23 84 (a0 :: .inl x :: L) st h Q = wp K d 23 85 (a0 :: .inl x :: L) (.inl x :: st) h Q := w_iload_n (j := 1) rfl pt23 (show decode e23.b 84 = .ok (.iload_n 1, 1) by decide +kernel)
theorem s23_85 : wp K d 23 85 L (.inl x :: .inr (.inr (.inl a)) :: st) h Q = ((0 ≤ x ∧ x < alen K h a) ∧ wp K d 23 86 L (.inl (h a x.toNat) :: st) h Q) := w_iaload pt23 (show decode e23.b 85 = .ok (.iaload, 1) by decide +kernel)
theorem s23_86 : wp K d 23 86 (a0 :: a1 :: .inl x :: L) st h Q = wp K d 23 87 (a0 :: a1 :: .inl x :: L) (.inl x :: st) h Q := w_iload_n (j := 2) rfl pt23 (show decode e23.b 86 = .ok (.iload_n 2, 1) by decide +kernel)
theorem s23_87 : wp K (d + 1) 23 87 L [.inl z1, .inl z0] h Q = wp K d 142 0 [.inl z0, .inl z1] [] h (fun r h' => wp K (d + 1) 23 90 L (r.toList ++ []) h' Q) := w_callS pt23 (show decode e23.b 87 = .ok (.invokestatic 51, 3) by decide +kernel) mr_1_51 pt142 rfl (by decide) (as := [.inl z1, .inl z0]) (rest := []) rfl rfl (Nat.le_of_ble_eq_true rfl) (Or.inr rfl) (Nat.le_of_ble_eq_true rfl) rfl
theorem s23_90 : wp K d 23 90 L (.inl x :: st) h Q = if x = 0 then wp K d 23 105 L st h Q else wp K d 23 93 L st h Q := w_ifeq rfl pt23 (show decode e23.b 90 = .ok (.ifCond .eq (15), 3) by decide +kernel)
theorem s23_93 : wp K d 23 93 (.inr (.inr (.inl a)) :: L) st h Q = wp K d 23 94 (.inr (.inr (.inl a)) :: L) (.inr (.inr (.inl a)) :: st) h Q := w_aload_n (j := 0) rfl pt23 (show decode e23.b 93 = .ok (.aload_n 0, 1) by decide +kernel)
theorem s23_94 : wp K d 23 94 L (.inr (.inr (.inl a)) :: st) h Q = (isO K a 1 ∧ wp K d 23 97 L (.inr (.inr (.inl (rT K a 2))) :: st) h Q) := w_getR fr_1_19 (by decide) pt23 (show decode e23.b 94 = .ok (.getfield 19, 3) by decide +kernel)
theorem s23_97 : wp K d 23 97 (a0 :: a1 :: .inl x :: L) st h Q = wp K d 23 98 (a0 :: a1 :: .inl x :: L) (.inl x :: st) h Q := w_iload_n (j := 2) rfl pt23 (show decode e23.b 97 = .ok (.iload_n 2, 1) by decide +kernel)
theorem s23_98 : wp K d 23 98 L (.inl x :: .inr (.inr (.inl b)) :: st) h Q = wp K d 23 99 L (.inl x :: .inr (.inr (.inl b)) :: .inl x :: .inr (.inr (.inl b)) :: st) h Q := w_dup2 rfl rfl pt23 (show decode e23.b 98 = .ok (.dup2, 1) by decide +kernel)
theorem s23_99 : wp K d 23 99 L (.inl x :: .inr (.inr (.inl a)) :: st) h Q = ((0 ≤ x ∧ x < alen K h a) ∧ wp K d 23 100 L (.inl (h a x.toNat) :: st) h Q) := w_iaload pt23 (show decode e23.b 99 = .ok (.iaload, 1) by decide +kernel)
theorem s23_100 : wp K d 23 100 L st h Q = wp K d 23 101 L (.inl (1) :: st) h Q := w_iconst (z := (1)) (by decide) pt23 (show decode e23.b 100 = .ok (.iconst (1), 1) by decide +kernel)
theorem s23_101 : wp K d 23 101 (a0 :: .inl x :: L) st h Q = wp K d 23 102 (a0 :: .inl x :: L) (.inl x :: st) h Q := w_iload_n (j := 1) rfl pt23 (show decode e23.b 101 = .ok (.iload_n 1, 1) by decide +kernel)
theorem s23_102 : wp K d 23 102 L (.inl y :: .inl x :: st) h Q = ((0 ≤ y ∧ y < 32) ∧ wp K d 23 103 L (.inl (w32 (x * 2 ^ y.toNat)) :: st) h Q) := w_ishl pt23 (show decode e23.b 102 = .ok (.ishl, 1) by decide +kernel)
theorem s23_103 : wp K d 23 103 L (.inl y :: .inl x :: st) h Q = wp K d 23 104 L (.inl (bOr x y) :: st) h Q := w_ior pt23 (show decode e23.b 103 = .ok (.ior, 1) by decide +kernel)
theorem s23_104 : wp K d 23 104 L (.inl y :: .inl x :: .inr (.inr (.inl a)) :: st) h Q = ((0 ≤ x ∧ x < aln K a) ∧ wp K d 23 105 L st (hput h a x.toNat y) Q) := w_iastore pt23 (show decode e23.b 104 = .ok (.iastore, 1) by decide +kernel)
theorem s23_105 : wp K d 23 105 (a0 :: a1 :: .inl x :: L) st h Q = wp K d 23 108 (a0 :: a1 :: .inl (w32 (x + (1))) :: L) st h Q := w_iinc (j := 2) (z := (1)) rfl (Or.inl rfl) (by decide) pt23 (show decode e23.b 105 = .ok (.iinc 2 (1), 3) by decide +kernel)
theorem s23_108 : wp K d 23 108 L st h Q = wp K d 23 72 L st h Q := w_goto rfl pt23 (show decode e23.b 108 = .ok (.goto (-36), 3) by decide +kernel)
theorem s23_111 : wp K d 23 111 (a0 :: .inl x :: L) st h Q = wp K d 23 114 (a0 :: .inl (w32 (x + (1))) :: L) st h Q := w_iinc (j := 1) (z := (1)) rfl (Or.inl rfl) (by decide) pt23 (show decode e23.b 111 = .ok (.iinc 1 (1), 3) by decide +kernel)
theorem s23_114 : wp K d 23 114 L st h Q = wp K d 23 62 L st h Q := w_goto rfl pt23 (show decode e23.b 114 = .ok (.goto (-52), 3) by decide +kernel)
theorem s23_117 : wp K d 23 117 L [] h Q = Q none h := w_return pt23 (show decode e23.b 117 = .ok (.return_, 1) by decide +kernel) rfl
theorem s24_0 : wp K d 24 0 L st h Q = wp K d 24 1 L (.inl (0) :: st) h Q := w_iconst (z := (0)) (by decide) pt24 (show decode e24.b 0 = .ok (.iconst (0), 1) by decide +kernel)
theorem s24_1 : wp K d 24 1 (a0 :: w :: L) (.inl x :: st) h Q = wp K d 24 2 (a0 :: .inl x :: L) st h Q := w_istore_n (j := 1) (ll1 ..) (Or.inl rfl) pt24 (show decode e24.b 1 = .ok (.istore_n 1, 1) by decide +kernel)
theorem s24_2 : wp K d 24 2 L st h Q = wp K d 24 3 L (.inl (0) :: st) h Q := w_iconst (z := (0)) (by decide) pt24 (show decode e24.b 2 = .ok (.iconst (0), 1) by decide +kernel)
theorem s24_3 : wp K d 24 3 (a0 :: a1 :: w :: L) (.inl x :: st) h Q = wp K d 24 4 (a0 :: a1 :: .inl x :: L) st h Q := w_istore_n (j := 2) (ll2 ..) (Or.inl rfl) pt24 (show decode e24.b 3 = .ok (.istore_n 2, 1) by decide +kernel)
theorem s24_4 : wp K d 24 4 (a0 :: a1 :: .inl x :: L) st h Q = wp K d 24 5 (a0 :: a1 :: .inl x :: L) (.inl x :: st) h Q := w_iload_n (j := 2) rfl pt24 (show decode e24.b 4 = .ok (.iload_n 2, 1) by decide +kernel)
theorem s24_5 : wp K d 24 5 (.inr (.inr (.inl a)) :: L) st h Q = wp K d 24 6 (.inr (.inr (.inl a)) :: L) (.inr (.inr (.inl a)) :: st) h Q := w_aload_n (j := 0) rfl pt24 (show decode e24.b 5 = .ok (.aload_n 0, 1) by decide +kernel)
theorem s24_6 : wp K d 24 6 L (.inr (.inr (.inl a)) :: st) h Q = (isO K a 1 ∧ wp K d 24 9 L (.inl (h a 0) :: st) h Q) := w_getI fr_1_9 (by decide) pt24 (show decode e24.b 6 = .ok (.getfield 9, 3) by decide +kernel)
theorem s24_9 : wp K d 24 9 L (.inl y :: .inl x :: st) h Q = if y ≤ x then wp K d 24 31 L st h Q else wp K d 24 12 L st h Q := w_icmpge rfl pt24 (show decode e24.b 9 = .ok (.if_icmp .ge (22), 3) by decide +kernel)
theorem s24_12 : wp K d 24 12 (a0 :: .inl x :: L) st h Q = wp K d 24 13 (a0 :: .inl x :: L) (.inl x :: st) h Q := w_iload_n (j := 1) rfl pt24 (show decode e24.b 12 = .ok (.iload_n 1, 1) by decide +kernel)
theorem s24_13 : wp K d 24 13 (.inr (.inr (.inl a)) :: L) st h Q = wp K d 24 14 (.inr (.inr (.inl a)) :: L) (.inr (.inr (.inl a)) :: st) h Q := w_aload_n (j := 0) rfl pt24 (show decode e24.b 13 = .ok (.aload_n 0, 1) by decide +kernel)
theorem s24_14 : wp K d 24 14 L (.inr (.inr (.inl a)) :: st) h Q = (isO K a 1 ∧ wp K d 24 17 L (.inr (.inr (.inl (rT K a 1))) :: st) h Q) := w_getR fr_1_15 (by decide) pt24 (show decode e24.b 14 = .ok (.getfield 15, 3) by decide +kernel)
theorem s24_17 : wp K d 24 17 (a0 :: a1 :: .inl x :: L) st h Q = wp K d 24 18 (a0 :: a1 :: .inl x :: L) (.inl x :: st) h Q := w_iload_n (j := 2) rfl pt24 (show decode e24.b 17 = .ok (.iload_n 2, 1) by decide +kernel)
theorem s24_18 : wp K d 24 18 L (.inl x :: .inr (.inr (.inl a)) :: st) h Q = ((0 ≤ x ∧ x < alen K h a) ∧ wp K d 24 19 L (.inl (h a x.toNat) :: st) h Q) := w_iaload pt24 (show decode e24.b 18 = .ok (.iaload, 1) by decide +kernel)
theorem s24_19 : wp K d 24 19 L st h Q = wp K d 24 20 L (.inl (1) :: st) h Q := w_iconst (z := (1)) (by decide) pt24 (show decode e24.b 19 = .ok (.iconst (1), 1) by decide +kernel)
theorem s24_20 : wp K d 24 20 (a0 :: a1 :: .inl x :: L) st h Q = wp K d 24 21 (a0 :: a1 :: .inl x :: L) (.inl x :: st) h Q := w_iload_n (j := 2) rfl pt24 (show decode e24.b 20 = .ok (.iload_n 2, 1) by decide +kernel)
theorem s24_21 : wp K d 24 21 L (.inl y :: .inl x :: st) h Q = ((0 ≤ y ∧ y < 32) ∧ wp K d 24 22 L (.inl (w32 (x * 2 ^ y.toNat)) :: st) h Q) := w_ishl pt24 (show decode e24.b 21 = .ok (.ishl, 1) by decide +kernel)
theorem s24_22 : wp K d 24 22 L (.inl y :: .inl x :: st) h Q = wp K d 24 23 L (.inl (bAnd x y) :: st) h Q := w_iand pt24 (show decode e24.b 22 = .ok (.iand, 1) by decide +kernel)
theorem s24_23 : wp K d 24 23 L (.inl y :: .inl x :: st) h Q = wp K d 24 24 L (.inl (bOr x y) :: st) h Q := w_ior pt24 (show decode e24.b 23 = .ok (.ior, 1) by decide +kernel)
theorem s24_24 : wp K d 24 24 (a0 :: w :: L) (.inl x :: st) h Q = wp K d 24 25 (a0 :: .inl x :: L) st h Q := w_istore_n (j := 1) (ll1 ..) (Or.inl rfl) pt24 (show decode e24.b 24 = .ok (.istore_n 1, 1) by decide +kernel)
theorem s24_25 : wp K d 24 25 (a0 :: a1 :: .inl x :: L) st h Q = wp K d 24 28 (a0 :: a1 :: .inl (w32 (x + (1))) :: L) st h Q := w_iinc (j := 2) (z := (1)) rfl (Or.inl rfl) (by decide) pt24 (show decode e24.b 25 = .ok (.iinc 2 (1), 3) by decide +kernel)
theorem s24_28 : wp K d 24 28 L st h Q = wp K d 24 4 L st h Q := w_goto rfl pt24 (show decode e24.b 28 = .ok (.goto (-24), 3) by decide +kernel)
theorem s24_31 : wp K d 24 31 (a0 :: .inl x :: L) st h Q = wp K d 24 32 (a0 :: .inl x :: L) (.inl x :: st) h Q := w_iload_n (j := 1) rfl pt24 (show decode e24.b 31 = .ok (.iload_n 1, 1) by decide +kernel)
theorem s24_32 : wp K d 24 32 L [.inl x] h Q = Q (some (.inl x)) h := w_ireturn pt24 (show decode e24.b 32 = .ok (.ireturn, 1) by decide +kernel) rfl
theorem s25_0 : wp K d 25 0 (.inr (.inr (.inl a)) :: L) st h Q = wp K d 25 1 (.inr (.inr (.inl a)) :: L) (.inr (.inr (.inl a)) :: st) h Q := w_aload_n (j := 0) rfl pt25 (show decode e25.b 0 = .ok (.aload_n 0, 1) by decide +kernel)
theorem s25_1 : wp K d 25 1 (a0 :: .inr (.inr (.inl a)) :: L) st h Q = wp K d 25 2 (a0 :: .inr (.inr (.inl a)) :: L) (.inr (.inr (.inl a)) :: st) h Q := w_aload_n (j := 1) rfl pt25 (show decode e25.b 1 = .ok (.aload_n 1, 1) by decide +kernel)
theorem s25_2 : wp K (d + 1) 25 2 L [.inr (.inr (.inl b0)), .inr (.inr (.inl a))] h Q = (isO K a 1 ∧ wp K d 21 0 [.inr (.inr (.inl a)), .inr (.inr (.inl b0))] [] h (fun r h' => wp K (d + 1) 25 5 L (r.toList ++ []) h' Q)) := w_callV pt25 (show decode e25.b 2 = .ok (.invokevirtual 55, 3) by decide +kernel) mr_1_55 pt21 rfl rfl (as := [.inr (.inr (.inl b0))]) (rest := []) rfl rfl (Nat.le_of_ble_eq_true rfl) rfl (by decide) rfl
theorem s25_5 : wp K d 25 5 (.inr (.inr (.inl a)) :: L) st h Q = wp K d 25 6 (.inr (.inr (.inl a)) :: L) (.inr (.inr (.inl a)) :: st) h Q := w_aload_n (j := 0) rfl pt25 (show decode e25.b 5 = .ok (.aload_n 0, 1) by decide +kernel)
theorem s25_6 : wp K (d + 1) 25 6 L [.inr (.inr (.inl a))] h Q = (isO K a 1 ∧ wp K d 24 0 [.inr (.inr (.inl a)), vU, vU] [] h (fun r h' => wp K (d + 1) 25 9 L (r.toList ++ []) h' Q)) := w_callV pt25 (show decode e25.b 6 = .ok (.invokevirtual 59, 3) by decide +kernel) mr_1_59 pt24 rfl rfl (as := []) (rest := []) rfl rfl (Nat.le_of_ble_eq_true rfl) rfl (by decide) rfl
theorem s25_9 : wp K d 25 9 L (.inl x :: st) h Q = if x ≠ 0 then wp K d 25 14 L st h Q else wp K d 25 12 L st h Q := w_ifne rfl pt25 (show decode e25.b 9 = .ok (.ifCond .ne (5), 3) by decide +kernel)
theorem s25_12 : wp K d 25 12 L st h Q = wp K d 25 13 L (.inl (0) :: st) h Q := w_iconst (z := (0)) (by decide) pt25 (show decode e25.b 12 = .ok (.iconst (0), 1) by decide +kernel)
theorem s25_13 : wp K d 25 13 L [.inl x] h Q = Q (some (.inl x)) h := w_ireturn pt25 (show decode e25.b 13 = .ok (.ireturn, 1) by decide +kernel) rfl
theorem s25_14 : wp K d 25 14 L st h Q = wp K d 25 15 L (.inl (0) :: st) h Q := w_iconst (z := (0)) (by decide) pt25 (show decode e25.b 14 = .ok (.iconst (0), 1) by decide +kernel)
theorem s25_15 : wp K d 25 15 (a0 :: a1 :: w :: L) (.inl x :: st) h Q = wp K d 25 16 (a0 :: a1 :: .inl x :: L) st h Q := w_istore_n (j := 2) (ll2 ..) (Or.inl rfl) pt25 (show decode e25.b 15 = .ok (.istore_n 2, 1) by decide +kernel)
theorem s25_16 : wp K d 25 16 L st h Q = wp K d 25 17 L (.inl (0) :: st) h Q := w_iconst (z := (0)) (by decide) pt25 (show decode e25.b 16 = .ok (.iconst (0), 1) by decide +kernel)
theorem s25_17 : wp K d 25 17 (a0 :: a1 :: a2 :: w :: L) (.inl x :: st) h Q = wp K d 25 18 (a0 :: a1 :: a2 :: .inl x :: L) st h Q := w_istore_n (j := 3) (ll3 ..) (Or.inl rfl) pt25 (show decode e25.b 17 = .ok (.istore_n 3, 1) by decide +kernel)
theorem s25_18 : wp K d 25 18 (a0 :: a1 :: a2 :: .inl x :: L) st h Q = wp K d 25 19 (a0 :: a1 :: a2 :: .inl x :: L) (.inl x :: st) h Q := w_iload_n (j := 3) rfl pt25 (show decode e25.b 18 = .ok (.iload_n 3, 1) by decide +kernel)
theorem s25_19 : wp K d 25 19 (a0 :: .inr (.inr (.inl a)) :: L) st h Q = wp K d 25 20 (a0 :: .inr (.inr (.inl a)) :: L) (.inr (.inr (.inl a)) :: st) h Q := w_aload_n (j := 1) rfl pt25 (show decode e25.b 19 = .ok (.aload_n 1, 1) by decide +kernel)
theorem s25_20 : wp K d 25 20 L (.inr (.inr (.inl a)) :: st) h Q = (isO K a 0 ∧ wp K d 25 23 L (.inl (h a 4) :: st) h Q) := w_getI fr_1_32 (by decide) pt25 (show decode e25.b 20 = .ok (.getfield 32, 3) by decide +kernel)
theorem s25_23 : wp K d 25 23 L (.inl y :: .inl x :: st) h Q = if y ≤ x then wp K d 25 61 L st h Q else wp K d 25 26 L st h Q := w_icmpge rfl pt25 (show decode e25.b 23 = .ok (.if_icmp .ge (38), 3) by decide +kernel)
theorem s25_26 : wp K d 25 26 (.inr (.inr (.inl a)) :: L) st h Q = wp K d 25 27 (.inr (.inr (.inl a)) :: L) (.inr (.inr (.inl a)) :: st) h Q := w_aload_n (j := 0) rfl pt25 (show decode e25.b 26 = .ok (.aload_n 0, 1) by decide +kernel)
theorem s25_27 : wp K d 25 27 (a0 :: .inr (.inr (.inl a)) :: L) st h Q = wp K d 25 28 (a0 :: .inr (.inr (.inl a)) :: L) (.inr (.inr (.inl a)) :: st) h Q := w_aload_n (j := 1) rfl pt25 (show decode e25.b 27 = .ok (.aload_n 1, 1) by decide +kernel)
theorem s25_28 : wp K d 25 28 (a0 :: a1 :: a2 :: .inl x :: L) st h Q = wp K d 25 29 (a0 :: a1 :: a2 :: .inl x :: L) (.inl x :: st) h Q := w_iload_n (j := 3) rfl pt25 (show decode e25.b 28 = .ok (.iload_n 3, 1) by decide +kernel)
theorem s25_29 : wp K (d + 1) 25 29 L [.inl z1, .inr (.inr (.inl b0)), .inr (.inr (.inl a))] h Q = (isO K a 1 ∧ wp K d 22 0 [.inr (.inr (.inl a)), .inr (.inr (.inl b0)), .inl z1, vU, vU] [] h (fun r h' => wp K (d + 1) 25 32 L (r.toList ++ []) h' Q)) := w_callV pt25 (show decode e25.b 29 = .ok (.invokevirtual 25, 3) by decide +kernel) mr_1_25 pt22 rfl rfl (as := [.inl z1, .inr (.inr (.inl b0))]) (rest := []) rfl rfl (Nat.le_of_ble_eq_true rfl) rfl (by decide) rfl
theorem s25_32 : wp K d 25 32 (a0 :: .inr (.inr (.inl a)) :: L) st h Q = wp K d 25 33 (a0 :: .inr (.inr (.inl a)) :: L) (.inr (.inr (.inl a)) :: st) h Q := w_aload_n (j := 1) rfl pt25 (show decode e25.b 32 = .ok (.aload_n 1, 1) by decide +kernel)
theorem s25_33 : wp K d 25 33 L (.inr (.inr (.inl a)) :: st) h Q = (isO K a 0 ∧ wp K d 25 36 L (.inr (.inr (.inl (rT K a 7))) :: st) h Q) := w_getR fr_1_35 (by decide) pt25 (show decode e25.b 33 = .ok (.getfield 35, 3) by decide +kernel)
theorem s25_36 : wp K d 25 36 (a0 :: a1 :: a2 :: .inl x :: L) st h Q = wp K d 25 37 (a0 :: a1 :: a2 :: .inl x :: L) (.inl x :: st) h Q := w_iload_n (j := 3) rfl pt25 (show decode e25.b 36 = .ok (.iload_n 3, 1) by decide +kernel)
theorem s25_37 : wp K d 25 37 L (.inl x :: .inr (.inr (.inl a)) :: st) h Q = ((0 ≤ x ∧ x < alen K h a) ∧ wp K d 25 38 L (.inl (h a x.toNat) :: st) h Q) := w_iaload pt25 (show decode e25.b 37 = .ok (.iaload, 1) by decide +kernel)
theorem s25_38 : wp K d 25 38 L st h Q = wp K d 25 39 L (.inl (1) :: st) h Q := w_iconst (z := (1)) (by decide) pt25 (show decode e25.b 38 = .ok (.iconst (1), 1) by decide +kernel)
theorem s25_39 : wp K d 25 39 L (.inl y :: .inl x :: st) h Q = if x = y then wp K d 25 55 L st h Q else wp K d 25 42 L st h Q := w_icmpeq rfl pt25 (show decode e25.b 39 = .ok (.if_icmp .eq (16), 3) by decide +kernel)
theorem s25_42 : wp K d 25 42 (.inr (.inr (.inl a)) :: L) st h Q = wp K d 25 43 (.inr (.inr (.inl a)) :: L) (.inr (.inr (.inl a)) :: st) h Q := w_aload_n (j := 0) rfl pt25 (show decode e25.b 42 = .ok (.aload_n 0, 1) by decide +kernel)
theorem s25_43 : wp K (d + 1) 25 43 L [.inr (.inr (.inl a))] h Q = (isO K a 1 ∧ wp K d 24 0 [.inr (.inr (.inl a)), vU, vU] [] h (fun r h' => wp K (d + 1) 25 46 L (r.toList ++ []) h' Q)) := w_callV pt25 (show decode e25.b 43 = .ok (.invokevirtual 59, 3) by decide +kernel) mr_1_59 pt24 rfl rfl (as := []) (rest := []) rfl rfl (Nat.le_of_ble_eq_true rfl) rfl (by decide) rfl
theorem s25_46 : wp K d 25 46 L (.inl x :: st) h Q = if x ≠ 0 then wp K d 25 55 L st h Q else wp K d 25 49 L st h Q := w_ifne rfl pt25 (show decode e25.b 46 = .ok (.ifCond .ne (9), 3) by decide +kernel)
theorem s25_49 : wp K d 25 49 (a0 :: a1 :: .inl x :: L) st h Q = wp K d 25 50 (a0 :: a1 :: .inl x :: L) (.inl x :: st) h Q := w_iload_n (j := 2) rfl pt25 (show decode e25.b 49 = .ok (.iload_n 2, 1) by decide +kernel)
theorem s25_50 : wp K d 25 50 L st h Q = wp K d 25 51 L (.inl (1) :: st) h Q := w_iconst (z := (1)) (by decide) pt25 (show decode e25.b 50 = .ok (.iconst (1), 1) by decide +kernel)
theorem s25_51 : wp K d 25 51 (a0 :: a1 :: a2 :: .inl x :: L) st h Q = wp K d 25 52 (a0 :: a1 :: a2 :: .inl x :: L) (.inl x :: st) h Q := w_iload_n (j := 3) rfl pt25 (show decode e25.b 51 = .ok (.iload_n 3, 1) by decide +kernel)
theorem s25_52 : wp K d 25 52 L (.inl y :: .inl x :: st) h Q = ((0 ≤ y ∧ y < 32) ∧ wp K d 25 53 L (.inl (w32 (x * 2 ^ y.toNat)) :: st) h Q) := w_ishl pt25 (show decode e25.b 52 = .ok (.ishl, 1) by decide +kernel)
theorem s25_53 : wp K d 25 53 L (.inl y :: .inl x :: st) h Q = wp K d 25 54 L (.inl (bOr x y) :: st) h Q := w_ior pt25 (show decode e25.b 53 = .ok (.ior, 1) by decide +kernel)
theorem s25_54 : wp K d 25 54 (a0 :: a1 :: w :: L) (.inl x :: st) h Q = wp K d 25 55 (a0 :: a1 :: .inl x :: L) st h Q := w_istore_n (j := 2) (ll2 ..) (Or.inl rfl) pt25 (show decode e25.b 54 = .ok (.istore_n 2, 1) by decide +kernel)
theorem s25_55 : wp K d 25 55 (a0 :: a1 :: a2 :: .inl x :: L) st h Q = wp K d 25 58 (a0 :: a1 :: a2 :: .inl (w32 (x + (1))) :: L) st h Q := w_iinc (j := 3) (z := (1)) rfl (Or.inl rfl) (by decide) pt25 (show decode e25.b 55 = .ok (.iinc 3 (1), 3) by decide +kernel)
theorem s25_58 : wp K d 25 58 L st h Q = wp K d 25 18 L st h Q := w_goto rfl pt25 (show decode e25.b 58 = .ok (.goto (-40), 3) by decide +kernel)
theorem s25_61 : wp K d 25 61 (a0 :: a1 :: .inl x :: L) st h Q = wp K d 25 62 (a0 :: a1 :: .inl x :: L) (.inl x :: st) h Q := w_iload_n (j := 2) rfl pt25 (show decode e25.b 61 = .ok (.iload_n 2, 1) by decide +kernel)
theorem s25_62 : wp K d 25 62 L [.inl x] h Q = Q (some (.inl x)) h := w_ireturn pt25 (show decode e25.b 62 = .ok (.ireturn, 1) by decide +kernel) rfl
theorem s26_0 : wp K d 26 0 (.inr (.inr (.inl a)) :: L) st h Q = wp K d 26 1 (.inr (.inr (.inl a)) :: L) (.inr (.inr (.inl a)) :: st) h Q := w_aload_n (j := 0) rfl pt26 (show decode e26.b 0 = .ok (.aload_n 0, 1) by decide +kernel)
theorem s26_1 : wp K d 26 1 L (.inr (.inr (.inl a)) :: st) h Q = (isO K a 1 ∧ wp K d 26 4 L (.inr (.inr (.inl (rT K a 1))) :: st) h Q) := w_getR fr_1_15 (by decide) pt26 (show decode e26.b 1 = .ok (.getfield 15, 3) by decide +kernel)
theorem s26_4 : wp K d 26 4 (a0 :: .inl x :: L) st h Q = wp K d 26 5 (a0 :: .inl x :: L) (.inl x :: st) h Q := w_iload_n (j := 1) rfl pt26 (show decode e26.b 4 = .ok (.iload_n 1, 1) by decide +kernel)
theorem s26_5 : wp K d 26 5 L (.inl x :: .inr (.inr (.inl a)) :: st) h Q = ((0 ≤ x ∧ x < alen K h a) ∧ wp K d 26 6 L (.inl (h a x.toNat) :: st) h Q) := w_iaload pt26 (show decode e26.b 5 = .ok (.iaload, 1) by decide +kernel)
theorem s26_6 : wp K d 26 6 (a0 :: a1 :: .inl x :: L) st h Q = wp K d 26 7 (a0 :: a1 :: .inl x :: L) (.inl x :: st) h Q := w_iload_n (j := 2) rfl pt26 (show decode e26.b 6 = .ok (.iload_n 2, 1) by decide +kernel)
theorem s26_7 : wp K (d + 1) 26 7 L [.inl z1, .inl z0] h Q = wp K d 142 0 [.inl z0, .inl z1] [] h (fun r h' => wp K (d + 1) 26 10 L (r.toList ++ []) h' Q) := w_callS pt26 (show decode e26.b 7 = .ok (.invokestatic 51, 3) by decide +kernel) mr_1_51 pt142 rfl (by decide) (as := [.inl z1, .inl z0]) (rest := []) rfl rfl (Nat.le_of_ble_eq_true rfl) (Or.inr rfl) (Nat.le_of_ble_eq_true rfl) rfl
theorem s26_10 : wp K d 26 10 L (.inl x :: st) h Q = if x ≠ 0 then wp K d 26 30 L st h Q else wp K d 26 13 L st h Q := w_ifne rfl pt26 (show decode e26.b 10 = .ok (.ifCond .ne (20), 3) by decide +kernel)
theorem s26_13 : wp K d 26 13 (.inr (.inr (.inl a)) :: L) st h Q = wp K d 26 14 (.inr (.inr (.inl a)) :: L) (.inr (.inr (.inl a)) :: st) h Q := w_aload_n (j := 0) rfl pt26 (show decode e26.b 13 = .ok (.aload_n 0, 1) by decide +kernel)
theorem s26_14 : wp K d 26 14 L (.inr (.inr (.inl a)) :: st) h Q = (isO K a 1 ∧ wp K d 26 17 L (.inr (.inr (.inl (rT K a 1))) :: st) h Q) := w_getR fr_1_15 (by decide) pt26 (show decode e26.b 14 = .ok (.getfield 15, 3) by decide +kernel)
theorem s26_17 : wp K d 26 17 (a0 :: a1 :: .inl x :: L) st h Q = wp K d 26 18 (a0 :: a1 :: .inl x :: L) (.inl x :: st) h Q := w_iload_n (j := 2) rfl pt26 (show decode e26.b 17 = .ok (.iload_n 2, 1) by decide +kernel)
theorem s26_18 : wp K d 26 18 L (.inl x :: .inr (.inr (.inl a)) :: st) h Q = ((0 ≤ x ∧ x < alen K h a) ∧ wp K d 26 19 L (.inl (h a x.toNat) :: st) h Q) := w_iaload pt26 (show decode e26.b 18 = .ok (.iaload, 1) by decide +kernel)
theorem s26_19 : wp K d 26 19 (a0 :: .inl x :: L) st h Q = wp K d 26 20 (a0 :: .inl x :: L) (.inl x :: st) h Q := w_iload_n (j := 1) rfl pt26 (show decode e26.b 19 = .ok (.iload_n 1, 1) by decide +kernel)
theorem s26_20 : wp K (d + 1) 26 20 L [.inl z1, .inl z0] h Q = wp K d 142 0 [.inl z0, .inl z1] [] h (fun r h' => wp K (d + 1) 26 23 L (r.toList ++ []) h' Q) := w_callS pt26 (show decode e26.b 20 = .ok (.invokestatic 51, 3) by decide +kernel) mr_1_51 pt142 rfl (by decide) (as := [.inl z1, .inl z0]) (rest := []) rfl rfl (Nat.le_of_ble_eq_true rfl) (Or.inr rfl) (Nat.le_of_ble_eq_true rfl) rfl
theorem s26_23 : wp K d 26 23 L (.inl x :: st) h Q = if x ≠ 0 then wp K d 26 30 L st h Q else wp K d 26 26 L st h Q := w_ifne rfl pt26 (show decode e26.b 23 = .ok (.ifCond .ne (7), 3) by decide +kernel)
theorem s26_26 : wp K d 26 26 L st h Q = wp K d 26 27 L (.inl (1) :: st) h Q := w_iconst (z := (1)) (by decide) pt26 (show decode e26.b 26 = .ok (.iconst (1), 1) by decide +kernel)
theorem s26_27 : wp K d 26 27 L st h Q = wp K d 26 31 L st h Q := w_goto rfl pt26 (show decode e26.b 27 = .ok (.goto (4), 3) by decide +kernel)
theorem s26_30 : wp K d 26 30 L st h Q = wp K d 26 31 L (.inl (0) :: st) h Q := w_iconst (z := (0)) (by decide) pt26 (show decode e26.b 30 = .ok (.iconst (0), 1) by decide +kernel)
theorem s26_31 : wp K d 26 31 L [.inl x] h Q = ((x = 0 ∨ x = 1) ∧ Q (some (.inl x)) h) := w_zreturn pt26 (show decode e26.b 31 = .ok (.ireturn, 1) by decide +kernel) rfl
theorem s27_0 : wp K d 27 0 L st h Q = wp K d 27 1 L (.inl (0) :: st) h Q := w_iconst (z := (0)) (by decide) pt27 (show decode e27.b 0 = .ok (.iconst (0), 1) by decide +kernel)
theorem s27_1 : wp K d 27 1 (a0 :: w :: L) (.inl x :: st) h Q = wp K d 27 2 (a0 :: .inl x :: L) st h Q := w_istore_n (j := 1) (ll1 ..) (Or.inl rfl) pt27 (show decode e27.b 1 = .ok (.istore_n 1, 1) by decide +kernel)
theorem s27_2 : wp K d 27 2 L st h Q = wp K d 27 3 L (.inl (0) :: st) h Q := w_iconst (z := (0)) (by decide) pt27 (show decode e27.b 2 = .ok (.iconst (0), 1) by decide +kernel)
theorem s27_3 : wp K d 27 3 (a0 :: a1 :: w :: L) (.inl x :: st) h Q = wp K d 27 4 (a0 :: a1 :: .inl x :: L) st h Q := w_istore_n (j := 2) (ll2 ..) (Or.inl rfl) pt27 (show decode e27.b 3 = .ok (.istore_n 2, 1) by decide +kernel)
theorem s27_4 : wp K d 27 4 (a0 :: a1 :: .inl x :: L) st h Q = wp K d 27 5 (a0 :: a1 :: .inl x :: L) (.inl x :: st) h Q := w_iload_n (j := 2) rfl pt27 (show decode e27.b 4 = .ok (.iload_n 2, 1) by decide +kernel)
theorem s27_5 : wp K d 27 5 (.inr (.inr (.inl a)) :: L) st h Q = wp K d 27 6 (.inr (.inr (.inl a)) :: L) (.inr (.inr (.inl a)) :: st) h Q := w_aload_n (j := 0) rfl pt27 (show decode e27.b 5 = .ok (.aload_n 0, 1) by decide +kernel)
theorem s27_6 : wp K d 27 6 L (.inr (.inr (.inl a)) :: st) h Q = (isO K a 1 ∧ wp K d 27 9 L (.inl (h a 0) :: st) h Q) := w_getI fr_1_9 (by decide) pt27 (show decode e27.b 6 = .ok (.getfield 9, 3) by decide +kernel)
theorem s27_9 : wp K d 27 9 L (.inl y :: .inl x :: st) h Q = if y ≤ x then wp K d 27 48 L st h Q else wp K d 27 12 L st h Q := w_icmpge rfl pt27 (show decode e27.b 9 = .ok (.if_icmp .ge (39), 3) by decide +kernel)
theorem s27_12 : wp K d 27 12 (a0 :: a1 :: .inl x :: L) st h Q = wp K d 27 13 (a0 :: a1 :: .inl x :: L) (.inl x :: st) h Q := w_iload_n (j := 2) rfl pt27 (show decode e27.b 12 = .ok (.iload_n 2, 1) by decide +kernel)
theorem s27_13 : wp K d 27 13 L st h Q = wp K d 27 14 L (.inl (1) :: st) h Q := w_iconst (z := (1)) (by decide) pt27 (show decode e27.b 13 = .ok (.iconst (1), 1) by decide +kernel)
theorem s27_14 : wp K d 27 14 L (.inl y :: .inl x :: st) h Q = wp K d 27 15 L (.inl (w32 (x + y)) :: st) h Q := w_iadd pt27 (show decode e27.b 14 = .ok (.iadd, 1) by decide +kernel)
theorem s27_15 : wp K d 27 15 (a0 :: a1 :: a2 :: w :: L) (.inl x :: st) h Q = wp K d 27 16 (a0 :: a1 :: a2 :: .inl x :: L) st h Q := w_istore_n (j := 3) (ll3 ..) (Or.inl rfl) pt27 (show decode e27.b 15 = .ok (.istore_n 3, 1) by decide +kernel)
theorem s27_16 : wp K d 27 16 (a0 :: a1 :: a2 :: .inl x :: L) st h Q = wp K d 27 17 (a0 :: a1 :: a2 :: .inl x :: L) (.inl x :: st) h Q := w_iload_n (j := 3) rfl pt27 (show decode e27.b 16 = .ok (.iload_n 3, 1) by decide +kernel)
theorem s27_17 : wp K d 27 17 (.inr (.inr (.inl a)) :: L) st h Q = wp K d 27 18 (.inr (.inr (.inl a)) :: L) (.inr (.inr (.inl a)) :: st) h Q := w_aload_n (j := 0) rfl pt27 (show decode e27.b 17 = .ok (.aload_n 0, 1) by decide +kernel)
theorem s27_18 : wp K d 27 18 L (.inr (.inr (.inl a)) :: st) h Q = (isO K a 1 ∧ wp K d 27 21 L (.inl (h a 0) :: st) h Q) := w_getI fr_1_9 (by decide) pt27 (show decode e27.b 18 = .ok (.getfield 9, 3) by decide +kernel)
theorem s27_21 : wp K d 27 21 L (.inl y :: .inl x :: st) h Q = if y ≤ x then wp K d 27 42 L st h Q else wp K d 27 24 L st h Q := w_icmpge rfl pt27 (show decode e27.b 21 = .ok (.if_icmp .ge (21), 3) by decide +kernel)
theorem s27_24 : wp K d 27 24 (.inr (.inr (.inl a)) :: L) st h Q = wp K d 27 25 (.inr (.inr (.inl a)) :: L) (.inr (.inr (.inl a)) :: st) h Q := w_aload_n (j := 0) rfl pt27 (show decode e27.b 24 = .ok (.aload_n 0, 1) by decide +kernel)
theorem s27_25 : wp K d 27 25 (a0 :: a1 :: .inl x :: L) st h Q = wp K d 27 26 (a0 :: a1 :: .inl x :: L) (.inl x :: st) h Q := w_iload_n (j := 2) rfl pt27 (show decode e27.b 25 = .ok (.iload_n 2, 1) by decide +kernel)
theorem s27_26 : wp K d 27 26 (a0 :: a1 :: a2 :: .inl x :: L) st h Q = wp K d 27 27 (a0 :: a1 :: a2 :: .inl x :: L) (.inl x :: st) h Q := w_iload_n (j := 3) rfl pt27 (show decode e27.b 26 = .ok (.iload_n 3, 1) by decide +kernel)
theorem s27_27 : wp K (d + 1) 27 27 L [.inl z1, .inl z0, .inr (.inr (.inl a))] h Q = (isO K a 1 ∧ wp K d 26 0 [.inr (.inr (.inl a)), .inl z0, .inl z1] [] h (fun r h' => wp K (d + 1) 27 30 L (r.toList ++ []) h' Q)) := w_callV pt27 (show decode e27.b 27 = .ok (.invokevirtual 63, 3) by decide +kernel) mr_1_63 pt26 rfl rfl (as := [.inl z1, .inl z0]) (rest := []) rfl rfl (Nat.le_of_ble_eq_true rfl) rfl (by decide) rfl
theorem s27_30 : wp K d 27 30 L (.inl x :: st) h Q = if x = 0 then wp K d 27 36 L st h Q else wp K d 27 33 L st h Q := w_ifeq rfl pt27 (show decode e27.b 30 = .ok (.ifCond .eq (6), 3) by decide +kernel)
theorem s27_33 : wp K d 27 33 (a0 :: .inl x :: L) st h Q = wp K d 27 36 (a0 :: .inl (w32 (x + (1))) :: L) st h Q := w_iinc (j := 1) (z := (1)) rfl (Or.inl rfl) (by decide) pt27 (show decode e27.b 33 = .ok (.iinc 1 (1), 3) by decide +kernel)
theorem s27_36 : wp K d 27 36 (a0 :: a1 :: a2 :: .inl x :: L) st h Q = wp K d 27 39 (a0 :: a1 :: a2 :: .inl (w32 (x + (1))) :: L) st h Q := w_iinc (j := 3) (z := (1)) rfl (Or.inl rfl) (by decide) pt27 (show decode e27.b 36 = .ok (.iinc 3 (1), 3) by decide +kernel)
theorem s27_39 : wp K d 27 39 L st h Q = wp K d 27 16 L st h Q := w_goto rfl pt27 (show decode e27.b 39 = .ok (.goto (-23), 3) by decide +kernel)
theorem s27_42 : wp K d 27 42 (a0 :: a1 :: .inl x :: L) st h Q = wp K d 27 45 (a0 :: a1 :: .inl (w32 (x + (1))) :: L) st h Q := w_iinc (j := 2) (z := (1)) rfl (Or.inl rfl) (by decide) pt27 (show decode e27.b 42 = .ok (.iinc 2 (1), 3) by decide +kernel)
theorem s27_45 : wp K d 27 45 L st h Q = wp K d 27 4 L st h Q := w_goto rfl pt27 (show decode e27.b 45 = .ok (.goto (-41), 3) by decide +kernel)
theorem s27_48 : wp K d 27 48 (a0 :: .inl x :: L) st h Q = wp K d 27 49 (a0 :: .inl x :: L) (.inl x :: st) h Q := w_iload_n (j := 1) rfl pt27 (show decode e27.b 48 = .ok (.iload_n 1, 1) by decide +kernel)
theorem s27_49 : wp K d 27 49 L [.inl x] h Q = Q (some (.inl x)) h := w_ireturn pt27 (show decode e27.b 49 = .ok (.ireturn, 1) by decide +kernel) rfl
theorem s28_0 : wp K d 28 0 L st h Q = wp K d 28 1 L (.inl (1) :: st) h Q := w_iconst (z := (1)) (by decide) pt28 (show decode e28.b 0 = .ok (.iconst (1), 1) by decide +kernel)
theorem s28_1 : wp K d 28 1 (.inr (.inr (.inl a)) :: L) st h Q = wp K d 28 2 (.inr (.inr (.inl a)) :: L) (.inr (.inr (.inl a)) :: st) h Q := w_aload_n (j := 0) rfl pt28 (show decode e28.b 1 = .ok (.aload_n 0, 1) by decide +kernel)
theorem s28_2 : wp K d 28 2 L (.inr (.inr (.inl a)) :: st) h Q = (isO K a 1 ∧ wp K d 28 5 L (.inl (h a 0) :: st) h Q) := w_getI fr_1_9 (by decide) pt28 (show decode e28.b 2 = .ok (.getfield 9, 3) by decide +kernel)
theorem s28_5 : wp K d 28 5 L (.inl y :: .inl x :: st) h Q = ((0 ≤ y ∧ y < 32) ∧ wp K d 28 6 L (.inl (w32 (x * 2 ^ y.toNat)) :: st) h Q) := w_ishl pt28 (show decode e28.b 5 = .ok (.ishl, 1) by decide +kernel)
theorem s28_6 : wp K d 28 6 L st h Q = wp K d 28 7 L (.inl (1) :: st) h Q := w_iconst (z := (1)) (by decide) pt28 (show decode e28.b 6 = .ok (.iconst (1), 1) by decide +kernel)
theorem s28_7 : wp K d 28 7 L (.inl y :: .inl x :: st) h Q = wp K d 28 8 L (.inl (w32 (x - y)) :: st) h Q := w_isub pt28 (show decode e28.b 7 = .ok (.isub, 1) by decide +kernel)
theorem s28_8 : wp K d 28 8 (a0 :: w :: L) (.inl x :: st) h Q = wp K d 28 9 (a0 :: .inl x :: L) st h Q := w_istore_n (j := 1) (ll1 ..) (Or.inl rfl) pt28 (show decode e28.b 8 = .ok (.istore_n 1, 1) by decide +kernel)
theorem s28_9 : wp K d 28 9 (.inr (.inr (.inl a)) :: L) st h Q = wp K d 28 10 (.inr (.inr (.inl a)) :: L) (.inr (.inr (.inl a)) :: st) h Q := w_aload_n (j := 0) rfl pt28 (show decode e28.b 9 = .ok (.aload_n 0, 1) by decide +kernel)
theorem s28_10 : wp K d 28 10 L (.inr (.inr (.inl a)) :: st) h Q = (isO K a 1 ∧ wp K d 28 13 L (.inr (.inr (.inl (rT K a 3))) :: st) h Q) := w_getR fr_1_22 (by decide) pt28 (show decode e28.b 10 = .ok (.getfield 22, 3) by decide +kernel)
theorem s28_13 : wp K d 28 13 L st h Q = wp K d 28 14 L (.inl (0) :: st) h Q := w_iconst (z := (0)) (by decide) pt28 (show decode e28.b 13 = .ok (.iconst (0), 1) by decide +kernel)
theorem s28_14 : wp K d 28 14 L st h Q = wp K d 28 15 L (.inl (1) :: st) h Q := w_iconst (z := (1)) (by decide) pt28 (show decode e28.b 14 = .ok (.iconst (1), 1) by decide +kernel)
theorem s28_15 : wp K d 28 15 L (.inl y :: .inl x :: .inr (.inr (.inl a)) :: st) h Q = ((0 ≤ x ∧ x < aln K a) ∧ wp K d 28 16 L st (hput h a x.toNat y) Q) := w_iastore pt28 (show decode e28.b 15 = .ok (.iastore, 1) by decide +kernel)
theorem s28_16 : wp K d 28 16 L st h Q = wp K d 28 17 L (.inl (1) :: st) h Q := w_iconst (z := (1)) (by decide) pt28 (show decode e28.b 16 = .ok (.iconst (1), 1) by decide +kernel)
theorem s28_17 : wp K d 28 17 (a0 :: a1 :: w :: L) (.inl x :: st) h Q = wp K d 28 18 (a0 :: a1 :: .inl x :: L) st h Q := w_istore_n (j := 2) (ll2 ..) (Or.inl rfl) pt28 (show decode e28.b 17 = .ok (.istore_n 2, 1) by decide +kernel)
theorem s28_18 : wp K d 28 18 (a0 :: a1 :: .inl x :: L) st h Q = wp K d 28 19 (a0 :: a1 :: .inl x :: L) (.inl x :: st) h Q := w_iload_n (j := 2) rfl pt28 (show decode e28.b 18 = .ok (.iload_n 2, 1) by decide +kernel)
theorem s28_19 : wp K d 28 19 (a0 :: .inl x :: L) st h Q = wp K d 28 20 (a0 :: .inl x :: L) (.inl x :: st) h Q := w_iload_n (j := 1) rfl pt28 (show decode e28.b 19 = .ok (.iload_n 1, 1) by decide +kernel)
theorem s28_20 : wp K d 28 20 L (.inl y :: .inl x :: st) h Q = if y < x then wp K d 28 97 L st h Q else wp K d 28 23 L st h Q := w_icmpgt rfl pt28 (show decode e28.b 20 = .ok (.if_icmp .gt (77), 3) by decide +kernel)
theorem s28_23 : wp K d 28 23 (.inr (.inr (.inl a)) :: L) st h Q = wp K d 28 24 (.inr (.inr (.inl a)) :: L) (.inr (.inr (.inl a)) :: st) h Q := w_aload_n (j := 0) rfl pt28 (show decode e28.b 23 = .ok (.aload_n 0, 1) by decide +kernel)
theorem s28_24 : wp K d 28 24 L (.inr (.inr (.inl a)) :: st) h Q = (isO K a 1 ∧ wp K d 28 27 L (.inr (.inr (.inl (rT K a 3))) :: st) h Q) := w_getR fr_1_22 (by decide) pt28 (show decode e28.b 24 = .ok (.getfield 22, 3) by decide +kernel)
theorem s28_27 : wp K d 28 27 (a0 :: a1 :: .inl x :: L) st h Q = wp K d 28 28 (a0 :: a1 :: .inl x :: L) (.inl x :: st) h Q := w_iload_n (j := 2) rfl pt28 (show decode e28.b 27 = .ok (.iload_n 2, 1) by decide +kernel)
theorem s28_28 : wp K d 28 28 L st h Q = wp K d 28 29 L (.inl (0) :: st) h Q := w_iconst (z := (0)) (by decide) pt28 (show decode e28.b 28 = .ok (.iconst (0), 1) by decide +kernel)
theorem s28_29 : wp K d 28 29 L (.inl y :: .inl x :: .inr (.inr (.inl a)) :: st) h Q = ((0 ≤ x ∧ x < aln K a) ∧ wp K d 28 30 L st (hput h a x.toNat y) Q) := w_iastore pt28 (show decode e28.b 29 = .ok (.iastore, 1) by decide +kernel)
theorem s28_30 : wp K d 28 30 L st h Q = wp K d 28 31 L (.inl (0) :: st) h Q := w_iconst (z := (0)) (by decide) pt28 (show decode e28.b 30 = .ok (.iconst (0), 1) by decide +kernel)
theorem s28_31 : wp K d 28 31 (a0 :: a1 :: a2 :: w :: L) (.inl x :: st) h Q = wp K d 28 32 (a0 :: a1 :: a2 :: .inl x :: L) st h Q := w_istore_n (j := 3) (ll3 ..) (Or.inl rfl) pt28 (show decode e28.b 31 = .ok (.istore_n 3, 1) by decide +kernel)
theorem s28_32 : wp K d 28 32 (a0 :: a1 :: a2 :: .inl x :: L) st h Q = wp K d 28 33 (a0 :: a1 :: a2 :: .inl x :: L) (.inl x :: st) h Q := w_iload_n (j := 3) rfl pt28 (show decode e28.b 32 = .ok (.iload_n 3, 1) by decide +kernel)
theorem s28_33 : wp K d 28 33 (.inr (.inr (.inl a)) :: L) st h Q = wp K d 28 34 (.inr (.inr (.inl a)) :: L) (.inr (.inr (.inl a)) :: st) h Q := w_aload_n (j := 0) rfl pt28 (show decode e28.b 33 = .ok (.aload_n 0, 1) by decide +kernel)
theorem s28_34 : wp K d 28 34 L (.inr (.inr (.inl a)) :: st) h Q = (isO K a 1 ∧ wp K d 28 37 L (.inl (h a 0) :: st) h Q) := w_getI fr_1_9 (by decide) pt28 (show decode e28.b 34 = .ok (.getfield 9, 3) by decide +kernel)
theorem s28_37 : wp K d 28 37 L (.inl y :: .inl x :: st) h Q = if y ≤ x then wp K d 28 91 L st h Q else wp K d 28 40 L st h Q := w_icmpge rfl pt28 (show decode e28.b 37 = .ok (.if_icmp .ge (54), 3) by decide +kernel)
theorem s28_40 : wp K d 28 40 (a0 :: a1 :: .inl x :: L) st h Q = wp K d 28 41 (a0 :: a1 :: .inl x :: L) (.inl x :: st) h Q := w_iload_n (j := 2) rfl pt28 (show decode e28.b 40 = .ok (.iload_n 2, 1) by decide +kernel)
theorem s28_41 : wp K d 28 41 L st h Q = wp K d 28 42 L (.inl (1) :: st) h Q := w_iconst (z := (1)) (by decide) pt28 (show decode e28.b 41 = .ok (.iconst (1), 1) by decide +kernel)
theorem s28_42 : wp K d 28 42 (a0 :: a1 :: a2 :: .inl x :: L) st h Q = wp K d 28 43 (a0 :: a1 :: a2 :: .inl x :: L) (.inl x :: st) h Q := w_iload_n (j := 3) rfl pt28 (show decode e28.b 42 = .ok (.iload_n 3, 1) by decide +kernel)
theorem s28_43 : wp K d 28 43 L (.inl y :: .inl x :: st) h Q = ((0 ≤ y ∧ y < 32) ∧ wp K d 28 44 L (.inl (w32 (x * 2 ^ y.toNat)) :: st) h Q) := w_ishl pt28 (show decode e28.b 43 = .ok (.ishl, 1) by decide +kernel)
theorem s28_44 : wp K d 28 44 L st h Q = wp K d 28 45 L (.inl (-1) :: st) h Q := w_iconst (z := (-1)) (by decide) pt28 (show decode e28.b 44 = .ok (.iconst (-1), 1) by decide +kernel)
theorem s28_45 : wp K d 28 45 L (.inl y :: .inl x :: st) h Q = wp K d 28 46 L (.inl (bXor x y) :: st) h Q := w_ixor pt28 (show decode e28.b 45 = .ok (.ixor, 1) by decide +kernel)
theorem s28_46 : wp K d 28 46 L (.inl y :: .inl x :: st) h Q = wp K d 28 47 L (.inl (bAnd x y) :: st) h Q := w_iand pt28 (show decode e28.b 46 = .ok (.iand, 1) by decide +kernel)
theorem s28_47 : wp K d 28 47 (a0 :: a1 :: a2 :: a3 :: w :: L) (.inl x :: st) h Q = wp K d 28 49 (a0 :: a1 :: a2 :: a3 :: .inl x :: L) st h Q := w_istore (j := 4) (ll4 ..) (Or.inl rfl) pt28 (show decode e28.b 47 = .ok (.istore 4, 2) by decide +kernel)
theorem s28_49 : wp K d 28 49 (a0 :: a1 :: a2 :: a3 :: .inl x :: L) st h Q = wp K d 28 51 (a0 :: a1 :: a2 :: a3 :: .inl x :: L) (.inl x :: st) h Q := w_iload (j := 4) rfl pt28 (show decode e28.b 49 = .ok (.iload 4, 2) by decide +kernel)
theorem s28_51 : wp K d 28 51 (a0 :: a1 :: .inl x :: L) st h Q = wp K d 28 52 (a0 :: a1 :: .inl x :: L) (.inl x :: st) h Q := w_iload_n (j := 2) rfl pt28 (show decode e28.b 51 = .ok (.iload_n 2, 1) by decide +kernel)
theorem s28_52 : wp K d 28 52 L (.inl y :: .inl x :: st) h Q = if x = y then wp K d 28 85 L st h Q else wp K d 28 55 L st h Q := w_icmpeq rfl pt28 (show decode e28.b 52 = .ok (.if_icmp .eq (33), 3) by decide +kernel)
theorem s28_55 : wp K d 28 55 (.inr (.inr (.inl a)) :: L) st h Q = wp K d 28 56 (.inr (.inr (.inl a)) :: L) (.inr (.inr (.inl a)) :: st) h Q := w_aload_n (j := 0) rfl pt28 (show decode e28.b 55 = .ok (.aload_n 0, 1) by decide +kernel)
theorem s28_56 : wp K d 28 56 L (.inr (.inr (.inl a)) :: st) h Q = (isO K a 1 ∧ wp K d 28 59 L (.inr (.inr (.inl (rT K a 2))) :: st) h Q) := w_getR fr_1_19 (by decide) pt28 (show decode e28.b 56 = .ok (.getfield 19, 3) by decide +kernel)
theorem s28_59 : wp K d 28 59 (a0 :: a1 :: a2 :: .inl x :: L) st h Q = wp K d 28 60 (a0 :: a1 :: a2 :: .inl x :: L) (.inl x :: st) h Q := w_iload_n (j := 3) rfl pt28 (show decode e28.b 59 = .ok (.iload_n 3, 1) by decide +kernel)
theorem s28_60 : wp K d 28 60 L (.inl x :: .inr (.inr (.inl a)) :: st) h Q = ((0 ≤ x ∧ x < alen K h a) ∧ wp K d 28 61 L (.inl (h a x.toNat) :: st) h Q) := w_iaload pt28 (show decode e28.b 60 = .ok (.iaload, 1) by decide +kernel)
theorem s28_61 : wp K d 28 61 (a0 :: a1 :: a2 :: a3 :: .inl x :: L) st h Q = wp K d 28 63 (a0 :: a1 :: a2 :: a3 :: .inl x :: L) (.inl x :: st) h Q := w_iload (j := 4) rfl pt28 (show decode e28.b 61 = .ok (.iload 4, 2) by decide +kernel)
theorem s28_63 : wp K d 28 63 L st h Q = wp K d 28 64 L (.inl (-1) :: st) h Q := w_iconst (z := (-1)) (by decide) pt28 (show decode e28.b 63 = .ok (.iconst (-1), 1) by decide +kernel)
theorem s28_64 : wp K d 28 64 L (.inl y :: .inl x :: st) h Q = wp K d 28 65 L (.inl (bXor x y) :: st) h Q := w_ixor pt28 (show decode e28.b 64 = .ok (.ixor, 1) by decide +kernel)
theorem s28_65 : wp K d 28 65 L (.inl y :: .inl x :: st) h Q = wp K d 28 66 L (.inl (bAnd x y) :: st) h Q := w_iand pt28 (show decode e28.b 65 = .ok (.iand, 1) by decide +kernel)
theorem s28_66 : wp K d 28 66 L (.inl x :: st) h Q = if x ≠ 0 then wp K d 28 85 L st h Q else wp K d 28 69 L st h Q := w_ifne rfl pt28 (show decode e28.b 66 = .ok (.ifCond .ne (19), 3) by decide +kernel)
theorem s28_69 : wp K d 28 69 (.inr (.inr (.inl a)) :: L) st h Q = wp K d 28 70 (.inr (.inr (.inl a)) :: L) (.inr (.inr (.inl a)) :: st) h Q := w_aload_n (j := 0) rfl pt28 (show decode e28.b 69 = .ok (.aload_n 0, 1) by decide +kernel)
theorem s28_70 : wp K d 28 70 L (.inr (.inr (.inl a)) :: st) h Q = (isO K a 1 ∧ wp K d 28 73 L (.inr (.inr (.inl (rT K a 3))) :: st) h Q) := w_getR fr_1_22 (by decide) pt28 (show decode e28.b 70 = .ok (.getfield 22, 3) by decide +kernel)
theorem s28_73 : wp K d 28 73 (a0 :: a1 :: .inl x :: L) st h Q = wp K d 28 74 (a0 :: a1 :: .inl x :: L) (.inl x :: st) h Q := w_iload_n (j := 2) rfl pt28 (show decode e28.b 73 = .ok (.iload_n 2, 1) by decide +kernel)
theorem s28_74 : wp K d 28 74 L (.inl x :: .inr (.inr (.inl b)) :: st) h Q = wp K d 28 75 L (.inl x :: .inr (.inr (.inl b)) :: .inl x :: .inr (.inr (.inl b)) :: st) h Q := w_dup2 rfl rfl pt28 (show decode e28.b 74 = .ok (.dup2, 1) by decide +kernel)
theorem s28_75 : wp K d 28 75 L (.inl x :: .inr (.inr (.inl a)) :: st) h Q = ((0 ≤ x ∧ x < alen K h a) ∧ wp K d 28 76 L (.inl (h a x.toNat) :: st) h Q) := w_iaload pt28 (show decode e28.b 75 = .ok (.iaload, 1) by decide +kernel)
theorem s28_76 : wp K d 28 76 (.inr (.inr (.inl a)) :: L) st h Q = wp K d 28 77 (.inr (.inr (.inl a)) :: L) (.inr (.inr (.inl a)) :: st) h Q := w_aload_n (j := 0) rfl pt28 (show decode e28.b 76 = .ok (.aload_n 0, 1) by decide +kernel)
theorem s28_77 : wp K d 28 77 L (.inr (.inr (.inl a)) :: st) h Q = (isO K a 1 ∧ wp K d 28 80 L (.inr (.inr (.inl (rT K a 3))) :: st) h Q) := w_getR fr_1_22 (by decide) pt28 (show decode e28.b 77 = .ok (.getfield 22, 3) by decide +kernel)
theorem s28_80 : wp K d 28 80 (a0 :: a1 :: a2 :: a3 :: .inl x :: L) st h Q = wp K d 28 82 (a0 :: a1 :: a2 :: a3 :: .inl x :: L) (.inl x :: st) h Q := w_iload (j := 4) rfl pt28 (show decode e28.b 80 = .ok (.iload 4, 2) by decide +kernel)
theorem s28_82 : wp K d 28 82 L (.inl x :: .inr (.inr (.inl a)) :: st) h Q = ((0 ≤ x ∧ x < alen K h a) ∧ wp K d 28 83 L (.inl (h a x.toNat) :: st) h Q) := w_iaload pt28 (show decode e28.b 82 = .ok (.iaload, 1) by decide +kernel)
theorem s28_83 : wp K d 28 83 L (.inl y :: .inl x :: st) h Q = wp K d 28 84 L (.inl (w32 (x + y)) :: st) h Q := w_iadd pt28 (show decode e28.b 83 = .ok (.iadd, 1) by decide +kernel)
theorem s28_84 : wp K d 28 84 L (.inl y :: .inl x :: .inr (.inr (.inl a)) :: st) h Q = ((0 ≤ x ∧ x < aln K a) ∧ wp K d 28 85 L st (hput h a x.toNat y) Q) := w_iastore pt28 (show decode e28.b 84 = .ok (.iastore, 1) by decide +kernel)
theorem s28_85 : wp K d 28 85 (a0 :: a1 :: a2 :: .inl x :: L) st h Q = wp K d 28 88 (a0 :: a1 :: a2 :: .inl (w32 (x + (1))) :: L) st h Q := w_iinc (j := 3) (z := (1)) rfl (Or.inl rfl) (by decide) pt28 (show decode e28.b 85 = .ok (.iinc 3 (1), 3) by decide +kernel)
theorem s28_88 : wp K d 28 88 L st h Q = wp K d 28 32 L st h Q := w_goto rfl pt28 (show decode e28.b 88 = .ok (.goto (-56), 3) by decide +kernel)
theorem s28_91 : wp K d 28 91 (a0 :: a1 :: .inl x :: L) st h Q = wp K d 28 94 (a0 :: a1 :: .inl (w32 (x + (1))) :: L) st h Q := w_iinc (j := 2) (z := (1)) rfl (Or.inl rfl) (by decide) pt28 (show decode e28.b 91 = .ok (.iinc 2 (1), 3) by decide +kernel)
theorem s28_94 : wp K d 28 94 L st h Q = wp K d 28 18 L st h Q := w_goto rfl pt28 (show decode e28.b 94 = .ok (.goto (-76), 3) by decide +kernel)
theorem s28_97 : wp K d 28 97 (.inr (.inr (.inl a)) :: L) st h Q = wp K d 28 98 (.inr (.inr (.inl a)) :: L) (.inr (.inr (.inl a)) :: st) h Q := w_aload_n (j := 0) rfl pt28 (show decode e28.b 97 = .ok (.aload_n 0, 1) by decide +kernel)
theorem s28_98 : wp K d 28 98 L (.inr (.inr (.inl a)) :: st) h Q = (isO K a 1 ∧ wp K d 28 101 L (.inr (.inr (.inl (rT K a 3))) :: st) h Q) := w_getR fr_1_22 (by decide) pt28 (show decode e28.b 98 = .ok (.getfield 22, 3) by decide +kernel)
theorem s28_101 : wp K d 28 101 (a0 :: .inl x :: L) st h Q = wp K d 28 102 (a0 :: .inl x :: L) (.inl x :: st) h Q := w_iload_n (j := 1) rfl pt28 (show decode e28.b 101 = .ok (.iload_n 1, 1) by decide +kernel)
theorem s28_102 : wp K d 28 102 L (.inl x :: .inr (.inr (.inl a)) :: st) h Q = ((0 ≤ x ∧ x < alen K h a) ∧ wp K d 28 103 L (.inl (h a x.toNat) :: st) h Q) := w_iaload pt28 (show decode e28.b 102 = .ok (.iaload, 1) by decide +kernel)
theorem s28_103 : wp K d 28 103 L [.inl x] h Q = Q (some (.inl x)) h := w_ireturn pt28 (show decode e28.b 103 = .ok (.ireturn, 1) by decide +kernel) rfl
theorem s29_0 : wp K d 29 0 (.inr (.inr (.inl a)) :: L) st h Q = wp K d 29 1 (.inr (.inr (.inl a)) :: L) (.inr (.inr (.inl a)) :: st) h Q := w_aload_n (j := 0) rfl pt29 (show decode e29.b 0 = .ok (.aload_n 0, 1) by decide +kernel)
theorem s29_1 : wp K d 29 1 L (.inr (.inr (.inl a)) :: st) h Q = (isO K a 1 ∧ wp K d 29 4 L (.inr (.inr (.inl (rT K a 2))) :: st) h Q) := w_getR fr_1_19 (by decide) pt29 (show decode e29.b 1 = .ok (.getfield 19, 3) by decide +kernel)
theorem s29_4 : wp K d 29 4 (a0 :: a1 :: .inl x :: L) st h Q = wp K d 29 5 (a0 :: a1 :: .inl x :: L) (.inl x :: st) h Q := w_iload_n (j := 2) rfl pt29 (show decode e29.b 4 = .ok (.iload_n 2, 1) by decide +kernel)
theorem s29_5 : wp K d 29 5 L (.inl x :: .inr (.inr (.inl a)) :: st) h Q = ((0 ≤ x ∧ x < alen K h a) ∧ wp K d 29 6 L (.inl (h a x.toNat) :: st) h Q) := w_iaload pt29 (show decode e29.b 5 = .ok (.iaload, 1) by decide +kernel)
theorem s29_6 : wp K d 29 6 (a0 :: a1 :: a2 :: w :: L) (.inl x :: st) h Q = wp K d 29 7 (a0 :: a1 :: a2 :: .inl x :: L) st h Q := w_istore_n (j := 3) (ll3 ..) (Or.inl rfl) pt29 (show decode e29.b 6 = .ok (.istore_n 3, 1) by decide +kernel)
theorem s29_7 : wp K d 29 7 (.inr (.inr (.inl a)) :: L) st h Q = wp K d 29 8 (.inr (.inr (.inl a)) :: L) (.inr (.inr (.inl a)) :: st) h Q := w_aload_n (j := 0) rfl pt29 (show decode e29.b 7 = .ok (.aload_n 0, 1) by decide +kernel)
theorem s29_8 : wp K d 29 8 L (.inr (.inr (.inl a)) :: st) h Q = (isO K a 1 ∧ wp K d 29 11 L (.inr (.inr (.inl (rT K a 2))) :: st) h Q) := w_getR fr_1_19 (by decide) pt29 (show decode e29.b 8 = .ok (.getfield 19, 3) by decide +kernel)
theorem s29_11 : wp K d 29 11 (a0 :: a1 :: .inl x :: L) st h Q = wp K d 29 12 (a0 :: a1 :: .inl x :: L) (.inl x :: st) h Q := w_iload_n (j := 2) rfl pt29 (show decode e29.b 11 = .ok (.iload_n 2, 1) by decide +kernel)
theorem s29_12 : wp K d 29 12 L (.inl x :: .inr (.inr (.inl b)) :: st) h Q = wp K d 29 13 L (.inl x :: .inr (.inr (.inl b)) :: .inl x :: .inr (.inr (.inl b)) :: st) h Q := w_dup2 rfl rfl pt29 (show decode e29.b 12 = .ok (.dup2, 1) by decide +kernel)
theorem s29_13 : wp K d 29 13 L (.inl x :: .inr (.inr (.inl a)) :: st) h Q = ((0 ≤ x ∧ x < alen K h a) ∧ wp K d 29 14 L (.inl (h a x.toNat) :: st) h Q) := w_iaload pt29 (show decode e29.b 13 = .ok (.iaload, 1) by decide +kernel)
theorem s29_14 : wp K d 29 14 L st h Q = wp K d 29 15 L (.inl (1) :: st) h Q := w_iconst (z := (1)) (by decide) pt29 (show decode e29.b 14 = .ok (.iconst (1), 1) by decide +kernel)
theorem s29_15 : wp K d 29 15 (a0 :: .inl x :: L) st h Q = wp K d 29 16 (a0 :: .inl x :: L) (.inl x :: st) h Q := w_iload_n (j := 1) rfl pt29 (show decode e29.b 15 = .ok (.iload_n 1, 1) by decide +kernel)
theorem s29_16 : wp K d 29 16 L (.inl y :: .inl x :: st) h Q = ((0 ≤ y ∧ y < 32) ∧ wp K d 29 17 L (.inl (w32 (x * 2 ^ y.toNat)) :: st) h Q) := w_ishl pt29 (show decode e29.b 16 = .ok (.ishl, 1) by decide +kernel)
theorem s29_17 : wp K d 29 17 L (.inl y :: .inl x :: st) h Q = wp K d 29 18 L (.inl (bOr x y) :: st) h Q := w_ior pt29 (show decode e29.b 17 = .ok (.ior, 1) by decide +kernel)
theorem s29_18 : wp K d 29 18 L (.inl y :: .inl x :: .inr (.inr (.inl a)) :: st) h Q = ((0 ≤ x ∧ x < aln K a) ∧ wp K d 29 19 L st (hput h a x.toNat y) Q) := w_iastore pt29 (show decode e29.b 18 = .ok (.iastore, 1) by decide +kernel)
theorem s29_19 : wp K d 29 19 (.inr (.inr (.inl a)) :: L) st h Q = wp K d 29 20 (.inr (.inr (.inl a)) :: L) (.inr (.inr (.inl a)) :: st) h Q := w_aload_n (j := 0) rfl pt29 (show decode e29.b 19 = .ok (.aload_n 0, 1) by decide +kernel)
theorem s29_20 : wp K (d + 1) 29 20 L [.inr (.inr (.inl a))] h Q = (isO K a 1 ∧ wp K d 28 0 [.inr (.inr (.inl a)), vU, vU, vU, vU] [] h (fun r h' => wp K (d + 1) 29 23 L (r.toList ++ []) h' Q)) := w_callV pt29 (show decode e29.b 20 = .ok (.invokevirtual 66, 3) by decide +kernel) mr_1_66 pt28 rfl rfl (as := []) (rest := []) rfl rfl (Nat.le_of_ble_eq_true rfl) rfl (by decide) rfl
theorem s29_23 : wp K d 29 23 (a0 :: a1 :: a2 :: a3 :: w :: L) (.inl x :: st) h Q = wp K d 29 25 (a0 :: a1 :: a2 :: a3 :: .inl x :: L) st h Q := w_istore (j := 4) (ll4 ..) (Or.inl rfl) pt29 (show decode e29.b 23 = .ok (.istore 4, 2) by decide +kernel)
theorem s29_25 : wp K d 29 25 (.inr (.inr (.inl a)) :: L) st h Q = wp K d 29 26 (.inr (.inr (.inl a)) :: L) (.inr (.inr (.inl a)) :: st) h Q := w_aload_n (j := 0) rfl pt29 (show decode e29.b 25 = .ok (.aload_n 0, 1) by decide +kernel)
theorem s29_26 : wp K d 29 26 L (.inr (.inr (.inl a)) :: st) h Q = (isO K a 1 ∧ wp K d 29 29 L (.inr (.inr (.inl (rT K a 2))) :: st) h Q) := w_getR fr_1_19 (by decide) pt29 (show decode e29.b 26 = .ok (.getfield 19, 3) by decide +kernel)
theorem s29_29 : wp K d 29 29 (a0 :: a1 :: .inl x :: L) st h Q = wp K d 29 30 (a0 :: a1 :: .inl x :: L) (.inl x :: st) h Q := w_iload_n (j := 2) rfl pt29 (show decode e29.b 29 = .ok (.iload_n 2, 1) by decide +kernel)
theorem s29_30 : wp K d 29 30 (a0 :: a1 :: a2 :: .inl x :: L) st h Q = wp K d 29 31 (a0 :: a1 :: a2 :: .inl x :: L) (.inl x :: st) h Q := w_iload_n (j := 3) rfl pt29 (show decode e29.b 30 = .ok (.iload_n 3, 1) by decide +kernel)
theorem s29_31 : wp K d 29 31 L (.inl y :: .inl x :: .inr (.inr (.inl a)) :: st) h Q = ((0 ≤ x ∧ x < aln K a) ∧ wp K d 29 32 L st (hput h a x.toNat y) Q) := w_iastore pt29 (show decode e29.b 31 = .ok (.iastore, 1) by decide +kernel)
theorem s29_32 : wp K d 29 32 (a0 :: a1 :: a2 :: a3 :: .inl x :: L) st h Q = wp K d 29 34 (a0 :: a1 :: a2 :: a3 :: .inl x :: L) (.inl x :: st) h Q := w_iload (j := 4) rfl pt29 (show decode e29.b 32 = .ok (.iload 4, 2) by decide +kernel)
theorem s29_34 : wp K d 29 34 L [.inl x] h Q = Q (some (.inl x)) h := w_ireturn pt29 (show decode e29.b 34 = .ok (.ireturn, 1) by decide +kernel) rfl
theorem s30_0 : wp K d 30 0 (a0 :: .inl x :: L) st h Q = wp K d 30 1 (a0 :: .inl x :: L) (.inl x :: st) h Q := w_iload_n (j := 1) rfl pt30 (show decode e30.b 0 = .ok (.iload_n 1, 1) by decide +kernel)
theorem s30_1 : wp K d 30 1 L (.inl x :: st) h Q = if x < 0 then wp K d 30 19 L st h Q else wp K d 30 4 L st h Q := w_iflt rfl pt30 (show decode e30.b 1 = .ok (.ifCond .lt (18), 3) by decide +kernel)
theorem s30_4 : wp K d 30 4 (a0 :: .inl x :: L) st h Q = wp K d 30 5 (a0 :: .inl x :: L) (.inl x :: st) h Q := w_iload_n (j := 1) rfl pt30 (show decode e30.b 4 = .ok (.iload_n 1, 1) by decide +kernel)
theorem s30_5 : wp K d 30 5 (.inr (.inr (.inl a)) :: L) st h Q = wp K d 30 6 (.inr (.inr (.inl a)) :: L) (.inr (.inr (.inl a)) :: st) h Q := w_aload_n (j := 0) rfl pt30 (show decode e30.b 5 = .ok (.aload_n 0, 1) by decide +kernel)
theorem s30_6 : wp K d 30 6 L (.inr (.inr (.inl a)) :: st) h Q = (isO K a 1 ∧ wp K d 30 9 L (.inl (h a 0) :: st) h Q) := w_getI fr_1_9 (by decide) pt30 (show decode e30.b 6 = .ok (.getfield 9, 3) by decide +kernel)
theorem s30_9 : wp K d 30 9 L (.inl y :: .inl x :: st) h Q = if y ≤ x then wp K d 30 19 L st h Q else wp K d 30 12 L st h Q := w_icmpge rfl pt30 (show decode e30.b 9 = .ok (.if_icmp .ge (10), 3) by decide +kernel)
theorem s30_12 : wp K d 30 12 (.inr (.inr (.inl a)) :: L) st h Q = wp K d 30 13 (.inr (.inr (.inl a)) :: L) (.inr (.inr (.inl a)) :: st) h Q := w_aload_n (j := 0) rfl pt30 (show decode e30.b 12 = .ok (.aload_n 0, 1) by decide +kernel)
theorem s30_13 : wp K (d + 1) 30 13 L [.inr (.inr (.inl a))] h Q = (isO K a 1 ∧ wp K d 24 0 [.inr (.inr (.inl a)), vU, vU] [] h (fun r h' => wp K (d + 1) 30 16 L (r.toList ++ []) h' Q)) := w_callV pt30 (show decode e30.b 13 = .ok (.invokevirtual 59, 3) by decide +kernel) mr_1_59 pt24 rfl rfl (as := []) (rest := []) rfl rfl (Nat.le_of_ble_eq_true rfl) rfl (by decide) rfl
theorem s30_16 : wp K d 30 16 L (.inl x :: st) h Q = if x = 0 then wp K d 30 22 L st h Q else wp K d 30 19 L st h Q := w_ifeq rfl pt30 (show decode e30.b 16 = .ok (.ifCond .eq (6), 3) by decide +kernel)
theorem s30_19 : wp K d 30 19 L st h Q = wp K d 30 21 L (.inl (-9) :: st) h Q := w_bipush (z := (-9)) (by decide) pt30 (show decode e30.b 19 = .ok (.bipush (-9), 2) by decide +kernel)
theorem s30_21 : wp K d 30 21 L [.inl x] h Q = Q (some (.inl x)) h := w_ireturn pt30 (show decode e30.b 21 = .ok (.ireturn, 1) by decide +kernel) rfl
theorem s30_22 : wp K d 30 22 L st h Q = wp K d 30 23 L (.inl (0) :: st) h Q := w_iconst (z := (0)) (by decide) pt30 (show decode e30.b 22 = .ok (.iconst (0), 1) by decide +kernel)
theorem s30_23 : wp K d 30 23 (a0 :: a1 :: w :: L) (.inl x :: st) h Q = wp K d 30 24 (a0 :: a1 :: .inl x :: L) st h Q := w_istore_n (j := 2) (ll2 ..) (Or.inl rfl) pt30 (show decode e30.b 23 = .ok (.istore_n 2, 1) by decide +kernel)
theorem s30_24 : wp K d 30 24 L st h Q = wp K d 30 25 L (.inl (0) :: st) h Q := w_iconst (z := (0)) (by decide) pt30 (show decode e30.b 24 = .ok (.iconst (0), 1) by decide +kernel)
theorem s30_25 : wp K d 30 25 (a0 :: a1 :: a2 :: w :: L) (.inl x :: st) h Q = wp K d 30 26 (a0 :: a1 :: a2 :: .inl x :: L) st h Q := w_istore_n (j := 3) (ll3 ..) (Or.inl rfl) pt30 (show decode e30.b 25 = .ok (.istore_n 3, 1) by decide +kernel)
theorem s30_26 : wp K d 30 26 L st h Q = wp K d 30 27 L (.inl (0) :: st) h Q := w_iconst (z := (0)) (by decide) pt30 (show decode e30.b 26 = .ok (.iconst (0), 1) by decide +kernel)
theorem s30_27 : wp K d 30 27 (a0 :: a1 :: a2 :: a3 :: w :: L) (.inl x :: st) h Q = wp K d 30 29 (a0 :: a1 :: a2 :: a3 :: .inl x :: L) st h Q := w_istore (j := 4) (ll4 ..) (Or.inl rfl) pt30 (show decode e30.b 27 = .ok (.istore 4, 2) by decide +kernel)
theorem s30_29 : wp K d 30 29 (a0 :: a1 :: a2 :: a3 :: .inl x :: L) st h Q = wp K d 30 31 (a0 :: a1 :: a2 :: a3 :: .inl x :: L) (.inl x :: st) h Q := w_iload (j := 4) rfl pt30 (show decode e30.b 29 = .ok (.iload 4, 2) by decide +kernel)
theorem s30_31 : wp K d 30 31 (a0 :: .inl x :: L) st h Q = wp K d 30 32 (a0 :: .inl x :: L) (.inl x :: st) h Q := w_iload_n (j := 1) rfl pt30 (show decode e30.b 31 = .ok (.iload_n 1, 1) by decide +kernel)
theorem s30_32 : wp K d 30 32 L (.inl y :: .inl x :: st) h Q = if y < x then wp K d 30 53 L st h Q else wp K d 30 35 L st h Q := w_icmpgt rfl pt30 (show decode e30.b 32 = .ok (.if_icmp .gt (21), 3) by decide +kernel)
theorem s30_35 : wp K d 30 35 (.inr (.inr (.inl a)) :: L) st h Q = wp K d 30 36 (.inr (.inr (.inl a)) :: L) (.inr (.inr (.inl a)) :: st) h Q := w_aload_n (j := 0) rfl pt30 (show decode e30.b 35 = .ok (.aload_n 0, 1) by decide +kernel)
theorem s30_36 : wp K d 30 36 (a0 :: a1 :: .inl x :: L) st h Q = wp K d 30 37 (a0 :: a1 :: .inl x :: L) (.inl x :: st) h Q := w_iload_n (j := 2) rfl pt30 (show decode e30.b 36 = .ok (.iload_n 2, 1) by decide +kernel)
theorem s30_37 : wp K (d + 1) 30 37 L [.inl z0, .inr (.inr (.inl a))] h Q = (isO K a 1 ∧ wp K d 31 0 [.inr (.inr (.inl a)), .inl z0, vU] [] h (fun r h' => wp K (d + 1) 30 40 L (r.toList ++ []) h' Q)) := w_callV pt30 (show decode e30.b 37 = .ok (.invokevirtual 69, 3) by decide +kernel) mr_1_69 pt31 rfl rfl (as := [.inl z0]) (rest := []) rfl rfl (Nat.le_of_ble_eq_true rfl) rfl (by decide) rfl
theorem s30_40 : wp K d 30 40 (a0 :: a1 :: a2 :: w :: L) (.inl x :: st) h Q = wp K d 30 41 (a0 :: a1 :: a2 :: .inl x :: L) st h Q := w_istore_n (j := 3) (ll3 ..) (Or.inl rfl) pt30 (show decode e30.b 40 = .ok (.istore_n 3, 1) by decide +kernel)
theorem s30_41 : wp K d 30 41 (a0 :: a1 :: .inl x :: L) st h Q = wp K d 30 42 (a0 :: a1 :: .inl x :: L) (.inl x :: st) h Q := w_iload_n (j := 2) rfl pt30 (show decode e30.b 41 = .ok (.iload_n 2, 1) by decide +kernel)
theorem s30_42 : wp K d 30 42 L st h Q = wp K d 30 43 L (.inl (1) :: st) h Q := w_iconst (z := (1)) (by decide) pt30 (show decode e30.b 42 = .ok (.iconst (1), 1) by decide +kernel)
theorem s30_43 : wp K d 30 43 (a0 :: a1 :: a2 :: .inl x :: L) st h Q = wp K d 30 44 (a0 :: a1 :: a2 :: .inl x :: L) (.inl x :: st) h Q := w_iload_n (j := 3) rfl pt30 (show decode e30.b 43 = .ok (.iload_n 3, 1) by decide +kernel)
theorem s30_44 : wp K d 30 44 L (.inl y :: .inl x :: st) h Q = ((0 ≤ y ∧ y < 32) ∧ wp K d 30 45 L (.inl (w32 (x * 2 ^ y.toNat)) :: st) h Q) := w_ishl pt30 (show decode e30.b 44 = .ok (.ishl, 1) by decide +kernel)
theorem s30_45 : wp K d 30 45 L (.inl y :: .inl x :: st) h Q = wp K d 30 46 L (.inl (bOr x y) :: st) h Q := w_ior pt30 (show decode e30.b 45 = .ok (.ior, 1) by decide +kernel)
theorem s30_46 : wp K d 30 46 (a0 :: a1 :: w :: L) (.inl x :: st) h Q = wp K d 30 47 (a0 :: a1 :: .inl x :: L) st h Q := w_istore_n (j := 2) (ll2 ..) (Or.inl rfl) pt30 (show decode e30.b 46 = .ok (.istore_n 2, 1) by decide +kernel)
theorem s30_47 : wp K d 30 47 (a0 :: a1 :: a2 :: a3 :: .inl x :: L) st h Q = wp K d 30 50 (a0 :: a1 :: a2 :: a3 :: .inl (w32 (x + (1))) :: L) st h Q := w_iinc (j := 4) (z := (1)) rfl (Or.inl rfl) (by decide) pt30 (show decode e30.b 47 = .ok (.iinc 4 (1), 3) by decide +kernel)
theorem s30_50 : wp K d 30 50 L st h Q = wp K d 30 29 L st h Q := w_goto rfl pt30 (show decode e30.b 50 = .ok (.goto (-21), 3) by decide +kernel)
theorem s30_53 : wp K d 30 53 (a0 :: a1 :: a2 :: .inl x :: L) st h Q = wp K d 30 54 (a0 :: a1 :: a2 :: .inl x :: L) (.inl x :: st) h Q := w_iload_n (j := 3) rfl pt30 (show decode e30.b 53 = .ok (.iload_n 3, 1) by decide +kernel)
theorem s30_54 : wp K d 30 54 L [.inl x] h Q = Q (some (.inl x)) h := w_ireturn pt30 (show decode e30.b 54 = .ok (.ireturn, 1) by decide +kernel) rfl
theorem s31_0 : wp K d 31 0 L st h Q = wp K d 31 1 L (.inl (0) :: st) h Q := w_iconst (z := (0)) (by decide) pt31 (show decode e31.b 0 = .ok (.iconst (0), 1) by decide +kernel)
theorem s31_1 : wp K d 31 1 (a0 :: a1 :: w :: L) (.inl x :: st) h Q = wp K d 31 2 (a0 :: a1 :: .inl x :: L) st h Q := w_istore_n (j := 2) (ll2 ..) (Or.inl rfl) pt31 (show decode e31.b 1 = .ok (.istore_n 2, 1) by decide +kernel)
theorem s31_2 : wp K d 31 2 (a0 :: a1 :: .inl x :: L) st h Q = wp K d 31 3 (a0 :: a1 :: .inl x :: L) (.inl x :: st) h Q := w_iload_n (j := 2) rfl pt31 (show decode e31.b 2 = .ok (.iload_n 2, 1) by decide +kernel)
theorem s31_3 : wp K d 31 3 (.inr (.inr (.inl a)) :: L) st h Q = wp K d 31 4 (.inr (.inr (.inl a)) :: L) (.inr (.inr (.inl a)) :: st) h Q := w_aload_n (j := 0) rfl pt31 (show decode e31.b 3 = .ok (.aload_n 0, 1) by decide +kernel)
theorem s31_4 : wp K d 31 4 L (.inr (.inr (.inl a)) :: st) h Q = (isO K a 1 ∧ wp K d 31 7 L (.inl (h a 0) :: st) h Q) := w_getI fr_1_9 (by decide) pt31 (show decode e31.b 4 = .ok (.getfield 9, 3) by decide +kernel)
theorem s31_7 : wp K d 31 7 L (.inl y :: .inl x :: st) h Q = if y ≤ x then wp K d 31 39 L st h Q else wp K d 31 10 L st h Q := w_icmpge rfl pt31 (show decode e31.b 7 = .ok (.if_icmp .ge (32), 3) by decide +kernel)
theorem s31_10 : wp K d 31 10 (a0 :: .inl x :: L) st h Q = wp K d 31 11 (a0 :: .inl x :: L) (.inl x :: st) h Q := w_iload_n (j := 1) rfl pt31 (show decode e31.b 10 = .ok (.iload_n 1, 1) by decide +kernel)
theorem s31_11 : wp K d 31 11 (a0 :: a1 :: .inl x :: L) st h Q = wp K d 31 12 (a0 :: a1 :: .inl x :: L) (.inl x :: st) h Q := w_iload_n (j := 2) rfl pt31 (show decode e31.b 11 = .ok (.iload_n 2, 1) by decide +kernel)
theorem s31_12 : wp K (d + 1) 31 12 L [.inl z1, .inl z0] h Q = wp K d 142 0 [.inl z0, .inl z1] [] h (fun r h' => wp K (d + 1) 31 15 L (r.toList ++ []) h' Q) := w_callS pt31 (show decode e31.b 12 = .ok (.invokestatic 51, 3) by decide +kernel) mr_1_51 pt142 rfl (by decide) (as := [.inl z1, .inl z0]) (rest := []) rfl rfl (Nat.le_of_ble_eq_true rfl) (Or.inr rfl) (Nat.le_of_ble_eq_true rfl) rfl
theorem s31_15 : wp K d 31 15 L (.inl x :: st) h Q = if x ≠ 0 then wp K d 31 33 L st h Q else wp K d 31 18 L st h Q := w_ifne rfl pt31 (show decode e31.b 15 = .ok (.ifCond .ne (18), 3) by decide +kernel)
theorem s31_18 : wp K d 31 18 (.inr (.inr (.inl a)) :: L) st h Q = wp K d 31 19 (.inr (.inr (.inl a)) :: L) (.inr (.inr (.inl a)) :: st) h Q := w_aload_n (j := 0) rfl pt31 (show decode e31.b 18 = .ok (.aload_n 0, 1) by decide +kernel)
theorem s31_19 : wp K d 31 19 L (.inr (.inr (.inl a)) :: st) h Q = (isO K a 1 ∧ wp K d 31 22 L (.inr (.inr (.inl (rT K a 2))) :: st) h Q) := w_getR fr_1_19 (by decide) pt31 (show decode e31.b 19 = .ok (.getfield 19, 3) by decide +kernel)
theorem s31_22 : wp K d 31 22 (a0 :: a1 :: .inl x :: L) st h Q = wp K d 31 23 (a0 :: a1 :: .inl x :: L) (.inl x :: st) h Q := w_iload_n (j := 2) rfl pt31 (show decode e31.b 22 = .ok (.iload_n 2, 1) by decide +kernel)
theorem s31_23 : wp K d 31 23 L (.inl x :: .inr (.inr (.inl a)) :: st) h Q = ((0 ≤ x ∧ x < alen K h a) ∧ wp K d 31 24 L (.inl (h a x.toNat) :: st) h Q) := w_iaload pt31 (show decode e31.b 23 = .ok (.iaload, 1) by decide +kernel)
theorem s31_24 : wp K d 31 24 (a0 :: .inl x :: L) st h Q = wp K d 31 25 (a0 :: .inl x :: L) (.inl x :: st) h Q := w_iload_n (j := 1) rfl pt31 (show decode e31.b 24 = .ok (.iload_n 1, 1) by decide +kernel)
theorem s31_25 : wp K d 31 25 L st h Q = wp K d 31 26 L (.inl (-1) :: st) h Q := w_iconst (z := (-1)) (by decide) pt31 (show decode e31.b 25 = .ok (.iconst (-1), 1) by decide +kernel)
theorem s31_26 : wp K d 31 26 L (.inl y :: .inl x :: st) h Q = wp K d 31 27 L (.inl (bXor x y) :: st) h Q := w_ixor pt31 (show decode e31.b 26 = .ok (.ixor, 1) by decide +kernel)
theorem s31_27 : wp K d 31 27 L (.inl y :: .inl x :: st) h Q = wp K d 31 28 L (.inl (bAnd x y) :: st) h Q := w_iand pt31 (show decode e31.b 27 = .ok (.iand, 1) by decide +kernel)
theorem s31_28 : wp K d 31 28 L (.inl x :: st) h Q = if x ≠ 0 then wp K d 31 33 L st h Q else wp K d 31 31 L st h Q := w_ifne rfl pt31 (show decode e31.b 28 = .ok (.ifCond .ne (5), 3) by decide +kernel)
theorem s31_31 : wp K d 31 31 (a0 :: a1 :: .inl x :: L) st h Q = wp K d 31 32 (a0 :: a1 :: .inl x :: L) (.inl x :: st) h Q := w_iload_n (j := 2) rfl pt31 (show decode e31.b 31 = .ok (.iload_n 2, 1) by decide +kernel)
theorem s31_32 : wp K d 31 32 L [.inl x] h Q = Q (some (.inl x)) h := w_ireturn pt31 (show decode e31.b 32 = .ok (.ireturn, 1) by decide +kernel) rfl
theorem s31_33 : wp K d 31 33 (a0 :: a1 :: .inl x :: L) st h Q = wp K d 31 36 (a0 :: a1 :: .inl (w32 (x + (1))) :: L) st h Q := w_iinc (j := 2) (z := (1)) rfl (Or.inl rfl) (by decide) pt31 (show decode e31.b 33 = .ok (.iinc 2 (1), 3) by decide +kernel)
theorem s31_36 : wp K d 31 36 L st h Q = wp K d 31 2 L st h Q := w_goto rfl pt31 (show decode e31.b 36 = .ok (.goto (-34), 3) by decide +kernel)
theorem s31_39 : wp K d 31 39 L st h Q = wp K d 31 40 L (.inl (0) :: st) h Q := w_iconst (z := (0)) (by decide) pt31 (show decode e31.b 39 = .ok (.iconst (0), 1) by decide +kernel)
theorem s31_40 : wp K d 31 40 L [.inl x] h Q = Q (some (.inl x)) h := w_ireturn pt31 (show decode e31.b 40 = .ok (.ireturn, 1) by decide +kernel) rfl
theorem s32_0 : wp K d 32 0 (.inr (.inr (.inl a)) :: L) st h Q = wp K d 32 1 (.inr (.inr (.inl a)) :: L) (.inr (.inr (.inl a)) :: st) h Q := w_aload_n (j := 0) rfl pt32 (show decode e32.b 0 = .ok (.aload_n 0, 1) by decide +kernel)
theorem s32_1 : wp K (d + 1) 32 1 L [.inr (.inr (.inl a))] h Q = (isO K a 1 ∧ wp K d 24 0 [.inr (.inr (.inl a)), vU, vU] [] h (fun r h' => wp K (d + 1) 32 4 L (r.toList ++ []) h' Q)) := w_callV pt32 (show decode e32.b 1 = .ok (.invokevirtual 59, 3) by decide +kernel) mr_1_59 pt24 rfl rfl (as := []) (rest := []) rfl rfl (Nat.le_of_ble_eq_true rfl) rfl (by decide) rfl
theorem s32_4 : wp K d 32 4 L (.inl x :: st) h Q = if x = 0 then wp K d 32 10 L st h Q else wp K d 32 7 L st h Q := w_ifeq rfl pt32 (show decode e32.b 4 = .ok (.ifCond .eq (6), 3) by decide +kernel)
theorem s32_7 : wp K d 32 7 L st h Q = wp K d 32 9 L (.inl (-9) :: st) h Q := w_bipush (z := (-9)) (by decide) pt32 (show decode e32.b 7 = .ok (.bipush (-9), 2) by decide +kernel)
theorem s32_9 : wp K d 32 9 L [.inl x] h Q = Q (some (.inl x)) h := w_ireturn pt32 (show decode e32.b 9 = .ok (.ireturn, 1) by decide +kernel) rfl
theorem s32_10 : wp K d 32 10 (.inr (.inr (.inl a)) :: L) st h Q = wp K d 32 11 (.inr (.inr (.inl a)) :: L) (.inr (.inr (.inl a)) :: st) h Q := w_aload_n (j := 0) rfl pt32 (show decode e32.b 10 = .ok (.aload_n 0, 1) by decide +kernel)
theorem s32_11 : wp K (d + 1) 32 11 L [.inr (.inr (.inl a))] h Q = (isO K a 1 ∧ wp K d 28 0 [.inr (.inr (.inl a)), vU, vU, vU, vU] [] h (fun r h' => wp K (d + 1) 32 14 L (r.toList ++ []) h' Q)) := w_callV pt32 (show decode e32.b 11 = .ok (.invokevirtual 66, 3) by decide +kernel) mr_1_66 pt28 rfl rfl (as := []) (rest := []) rfl rfl (Nat.le_of_ble_eq_true rfl) rfl (by decide) rfl
theorem s32_14 : wp K d 32 14 (a0 :: a1 :: w :: L) (.inl x :: st) h Q = wp K d 32 15 (a0 :: a1 :: .inl x :: L) st h Q := w_istore_n (j := 2) (ll2 ..) (Or.inl rfl) pt32 (show decode e32.b 14 = .ok (.istore_n 2, 1) by decide +kernel)
theorem s32_15 : wp K d 32 15 L st h Q = wp K d 32 17 L (.inl (-9) :: st) h Q := w_bipush (z := (-9)) (by decide) pt32 (show decode e32.b 15 = .ok (.bipush (-9), 2) by decide +kernel)
theorem s32_17 : wp K d 32 17 (a0 :: a1 :: a2 :: w :: L) (.inl x :: st) h Q = wp K d 32 18 (a0 :: a1 :: a2 :: .inl x :: L) st h Q := w_istore_n (j := 3) (ll3 ..) (Or.inl rfl) pt32 (show decode e32.b 17 = .ok (.istore_n 3, 1) by decide +kernel)
theorem s32_18 : wp K d 32 18 L st h Q = wp K d 32 20 L (.inl (-9) :: st) h Q := w_bipush (z := (-9)) (by decide) pt32 (show decode e32.b 18 = .ok (.bipush (-9), 2) by decide +kernel)
theorem s32_20 : wp K d 32 20 (a0 :: a1 :: a2 :: a3 :: w :: L) (.inl x :: st) h Q = wp K d 32 22 (a0 :: a1 :: a2 :: a3 :: .inl x :: L) st h Q := w_istore (j := 4) (ll4 ..) (Or.inl rfl) pt32 (show decode e32.b 20 = .ok (.istore 4, 2) by decide +kernel)
theorem s32_22 : wp K d 32 22 L st h Q = wp K d 32 23 L (.inl (0) :: st) h Q := w_iconst (z := (0)) (by decide) pt32 (show decode e32.b 22 = .ok (.iconst (0), 1) by decide +kernel)
theorem s32_23 : wp K d 32 23 (a0 :: a1 :: a2 :: a3 :: a4 :: w :: L) (.inl x :: st) h Q = wp K d 32 25 (a0 :: a1 :: a2 :: a3 :: a4 :: .inl x :: L) st h Q := w_istore (j := 5) (ll5 ..) (Or.inl rfl) pt32 (show decode e32.b 23 = .ok (.istore 5, 2) by decide +kernel)
theorem s32_25 : wp K d 32 25 (a0 :: a1 :: a2 :: a3 :: a4 :: .inl x :: L) st h Q = wp K d 32 27 (a0 :: a1 :: a2 :: a3 :: a4 :: .inl x :: L) (.inl x :: st) h Q := w_iload (j := 5) rfl pt32 (show decode e32.b 25 = .ok (.iload 5, 2) by decide +kernel)
theorem s32_27 : wp K d 32 27 (.inr (.inr (.inl a)) :: L) st h Q = wp K d 32 28 (.inr (.inr (.inl a)) :: L) (.inr (.inr (.inl a)) :: st) h Q := w_aload_n (j := 0) rfl pt32 (show decode e32.b 27 = .ok (.aload_n 0, 1) by decide +kernel)
theorem s32_28 : wp K d 32 28 L (.inr (.inr (.inl a)) :: st) h Q = (isO K a 1 ∧ wp K d 32 31 L (.inl (h a 0) :: st) h Q) := w_getI fr_1_9 (by decide) pt32 (show decode e32.b 28 = .ok (.getfield 9, 3) by decide +kernel)
theorem s32_31 : wp K d 32 31 L (.inl y :: .inl x :: st) h Q = if y ≤ x then wp K d 32 118 L st h Q else wp K d 32 34 L st h Q := w_icmpge rfl pt32 (show decode e32.b 31 = .ok (.if_icmp .ge (87), 3) by decide +kernel)
theorem s32_34 : wp K d 32 34 (a0 :: a1 :: a2 :: a3 :: a4 :: .inl x :: L) st h Q = wp K d 32 36 (a0 :: a1 :: a2 :: a3 :: a4 :: .inl x :: L) (.inl x :: st) h Q := w_iload (j := 5) rfl pt32 (show decode e32.b 34 = .ok (.iload 5, 2) by decide +kernel)
theorem s32_36 : wp K d 32 36 L st h Q = wp K d 32 37 L (.inl (1) :: st) h Q := w_iconst (z := (1)) (by decide) pt32 (show decode e32.b 36 = .ok (.iconst (1), 1) by decide +kernel)
theorem s32_37 : wp K d 32 37 L (.inl y :: .inl x :: st) h Q = wp K d 32 38 L (.inl (w32 (x + y)) :: st) h Q := w_iadd pt32 (show decode e32.b 37 = .ok (.iadd, 1) by decide +kernel)
theorem s32_38 : wp K d 32 38 (a0 :: a1 :: a2 :: a3 :: a4 :: a5 :: w :: L) (.inl x :: st) h Q = wp K d 32 40 (a0 :: a1 :: a2 :: a3 :: a4 :: a5 :: .inl x :: L) st h Q := w_istore (j := 6) (ll6 ..) (Or.inl rfl) pt32 (show decode e32.b 38 = .ok (.istore 6, 2) by decide +kernel)
theorem s32_40 : wp K d 32 40 (a0 :: a1 :: a2 :: a3 :: a4 :: a5 :: .inl x :: L) st h Q = wp K d 32 42 (a0 :: a1 :: a2 :: a3 :: a4 :: a5 :: .inl x :: L) (.inl x :: st) h Q := w_iload (j := 6) rfl pt32 (show decode e32.b 40 = .ok (.iload 6, 2) by decide +kernel)
theorem s32_42 : wp K d 32 42 (.inr (.inr (.inl a)) :: L) st h Q = wp K d 32 43 (.inr (.inr (.inl a)) :: L) (.inr (.inr (.inl a)) :: st) h Q := w_aload_n (j := 0) rfl pt32 (show decode e32.b 42 = .ok (.aload_n 0, 1) by decide +kernel)
theorem s32_43 : wp K d 32 43 L (.inr (.inr (.inl a)) :: st) h Q = (isO K a 1 ∧ wp K d 32 46 L (.inl (h a 0) :: st) h Q) := w_getI fr_1_9 (by decide) pt32 (show decode e32.b 43 = .ok (.getfield 9, 3) by decide +kernel)
theorem s32_46 : wp K d 32 46 L (.inl y :: .inl x :: st) h Q = if y ≤ x then wp K d 32 112 L st h Q else wp K d 32 49 L st h Q := w_icmpge rfl pt32 (show decode e32.b 46 = .ok (.if_icmp .ge (66), 3) by decide +kernel)
theorem s32_49 : wp K d 32 49 (.inr (.inr (.inl a)) :: L) st h Q = wp K d 32 50 (.inr (.inr (.inl a)) :: L) (.inr (.inr (.inl a)) :: st) h Q := w_aload_n (j := 0) rfl pt32 (show decode e32.b 49 = .ok (.aload_n 0, 1) by decide +kernel)
theorem s32_50 : wp K d 32 50 (a0 :: a1 :: a2 :: a3 :: a4 :: .inl x :: L) st h Q = wp K d 32 52 (a0 :: a1 :: a2 :: a3 :: a4 :: .inl x :: L) (.inl x :: st) h Q := w_iload (j := 5) rfl pt32 (show decode e32.b 50 = .ok (.iload 5, 2) by decide +kernel)
theorem s32_52 : wp K d 32 52 (a0 :: a1 :: a2 :: a3 :: a4 :: a5 :: .inl x :: L) st h Q = wp K d 32 54 (a0 :: a1 :: a2 :: a3 :: a4 :: a5 :: .inl x :: L) (.inl x :: st) h Q := w_iload (j := 6) rfl pt32 (show decode e32.b 52 = .ok (.iload 6, 2) by decide +kernel)
theorem s32_54 : wp K (d + 1) 32 54 L [.inl z1, .inl z0, .inr (.inr (.inl a))] h Q = (isO K a 1 ∧ wp K d 26 0 [.inr (.inr (.inl a)), .inl z0, .inl z1] [] h (fun r h' => wp K (d + 1) 32 57 L (r.toList ++ []) h' Q)) := w_callV pt32 (show decode e32.b 54 = .ok (.invokevirtual 63, 3) by decide +kernel) mr_1_63 pt26 rfl rfl (as := [.inl z1, .inl z0]) (rest := []) rfl rfl (Nat.le_of_ble_eq_true rfl) rfl (by decide) rfl
theorem s32_57 : wp K d 32 57 L (.inl x :: st) h Q = if x = 0 then wp K d 32 106 L st h Q else wp K d 32 60 L st h Q := w_ifeq rfl pt32 (show decode e32.b 57 = .ok (.ifCond .eq (49), 3) by decide +kernel)
theorem s32_60 : wp K d 32 60 (.inr (.inr (.inl a)) :: L) st h Q = wp K d 32 61 (.inr (.inr (.inl a)) :: L) (.inr (.inr (.inl a)) :: st) h Q := w_aload_n (j := 0) rfl pt32 (show decode e32.b 60 = .ok (.aload_n 0, 1) by decide +kernel)
theorem s32_61 : wp K d 32 61 (a0 :: a1 :: a2 :: a3 :: a4 :: .inl x :: L) st h Q = wp K d 32 63 (a0 :: a1 :: a2 :: a3 :: a4 :: .inl x :: L) (.inl x :: st) h Q := w_iload (j := 5) rfl pt32 (show decode e32.b 61 = .ok (.iload 5, 2) by decide +kernel)
theorem s32_63 : wp K d 32 63 (a0 :: a1 :: a2 :: a3 :: a4 :: a5 :: .inl x :: L) st h Q = wp K d 32 65 (a0 :: a1 :: a2 :: a3 :: a4 :: a5 :: .inl x :: L) (.inl x :: st) h Q := w_iload (j := 6) rfl pt32 (show decode e32.b 63 = .ok (.iload 6, 2) by decide +kernel)
theorem s32_65 : wp K (d + 1) 32 65 L [.inl z1, .inl z0, .inr (.inr (.inl a))] h Q = (isO K a 1 ∧ wp K d 29 0 [.inr (.inr (.inl a)), .inl z0, .inl z1, vU, vU] [] h (fun r h' => wp K (d + 1) 32 68 L (r.toList ++ []) h' Q)) := w_callV pt32 (show decode e32.b 65 = .ok (.invokevirtual 72, 3) by decide +kernel) mr_1_72 pt29 rfl rfl (as := [.inl z1, .inl z0]) (rest := []) rfl rfl (Nat.le_of_ble_eq_true rfl) rfl (by decide) rfl
theorem s32_68 : wp K d 32 68 (a0 :: a1 :: a2 :: a3 :: a4 :: a5 :: a6 :: w :: L) (.inl x :: st) h Q = wp K d 32 70 (a0 :: a1 :: a2 :: a3 :: a4 :: a5 :: a6 :: .inl x :: L) st h Q := w_istore (j := 7) (ll7 ..) (Or.inl rfl) pt32 (show decode e32.b 68 = .ok (.istore 7, 2) by decide +kernel)
theorem s32_70 : wp K d 32 70 (a0 :: a1 :: a2 :: a3 :: a4 :: a5 :: a6 :: .inl x :: L) st h Q = wp K d 32 72 (a0 :: a1 :: a2 :: a3 :: a4 :: a5 :: a6 :: .inl x :: L) (.inl x :: st) h Q := w_iload (j := 7) rfl pt32 (show decode e32.b 70 = .ok (.iload 7, 2) by decide +kernel)
theorem s32_72 : wp K d 32 72 (a0 :: a1 :: .inl x :: L) st h Q = wp K d 32 73 (a0 :: a1 :: .inl x :: L) (.inl x :: st) h Q := w_iload_n (j := 2) rfl pt32 (show decode e32.b 72 = .ok (.iload_n 2, 1) by decide +kernel)
theorem s32_73 : wp K d 32 73 (a0 :: a1 :: a2 :: a3 :: a4 :: a5 :: a6 :: .inl x :: L) st h Q = wp K d 32 75 (a0 :: a1 :: a2 :: a3 :: a4 :: a5 :: a6 :: .inl x :: L) (.inl x :: st) h Q := w_iload (j := 7) rfl pt32 (show decode e32.b 73 = .ok (.iload 7, 2) by decide +kernel)
theorem s32_75 : wp K d 32 75 L (.inl y :: .inl x :: st) h Q = wp K d 32 76 L (.inl (w32 (x - y)) :: st) h Q := w_isub pt32 (show decode e32.b 75 = .ok (.isub, 1) by decide +kernel)
theorem s32_76 : wp K d 32 76 L [.inl y, .inl x] h Q = wp K d 32 79 L [.inl (if x < y then y else x)] h Q := w_max0 (w := vU) (v := vU) mr_1_76 pt32 (show decode e32.b 76 = .ok (.invokestatic 76, 3) by decide +kernel)
theorem s32_79 : wp K d 32 79 (a0 :: a1 :: a2 :: a3 :: a4 :: a5 :: a6 :: a7 :: w :: L) (.inl x :: st) h Q = wp K d 32 81 (a0 :: a1 :: a2 :: a3 :: a4 :: a5 :: a6 :: a7 :: .inl x :: L) st h Q := w_istore (j := 8) (ll8 ..) (Or.inl rfl) pt32 (show decode e32.b 79 = .ok (.istore 8, 2) by decide +kernel)
theorem s32_81 : wp K d 32 81 (a0 :: a1 :: a2 :: .inl x :: L) st h Q = wp K d 32 82 (a0 :: a1 :: a2 :: .inl x :: L) (.inl x :: st) h Q := w_iload_n (j := 3) rfl pt32 (show decode e32.b 81 = .ok (.iload_n 3, 1) by decide +kernel)
theorem s32_82 : wp K d 32 82 L st h Q = wp K d 32 84 L (.inl (-9) :: st) h Q := w_bipush (z := (-9)) (by decide) pt32 (show decode e32.b 82 = .ok (.bipush (-9), 2) by decide +kernel)
theorem s32_84 : wp K d 32 84 L (.inl y :: .inl x :: st) h Q = if x = y then wp K d 32 93 L st h Q else wp K d 32 87 L st h Q := w_icmpeq rfl pt32 (show decode e32.b 84 = .ok (.if_icmp .eq (9), 3) by decide +kernel)
theorem s32_87 : wp K d 32 87 (a0 :: a1 :: a2 :: a3 :: a4 :: a5 :: a6 :: a7 :: .inl x :: L) st h Q = wp K d 32 89 (a0 :: a1 :: a2 :: a3 :: a4 :: a5 :: a6 :: a7 :: .inl x :: L) (.inl x :: st) h Q := w_iload (j := 8) rfl pt32 (show decode e32.b 87 = .ok (.iload 8, 2) by decide +kernel)
theorem s32_89 : wp K d 32 89 (a0 :: a1 :: a2 :: .inl x :: L) st h Q = wp K d 32 90 (a0 :: a1 :: a2 :: .inl x :: L) (.inl x :: st) h Q := w_iload_n (j := 3) rfl pt32 (show decode e32.b 89 = .ok (.iload_n 3, 1) by decide +kernel)
theorem s32_90 : wp K d 32 90 L (.inl y :: .inl x :: st) h Q = if y ≤ x then wp K d 32 106 L st h Q else wp K d 32 93 L st h Q := w_icmpge rfl pt32 (show decode e32.b 90 = .ok (.if_icmp .ge (16), 3) by decide +kernel)
theorem s32_93 : wp K d 32 93 (a0 :: a1 :: a2 :: a3 :: a4 :: a5 :: a6 :: a7 :: .inl x :: L) st h Q = wp K d 32 95 (a0 :: a1 :: a2 :: a3 :: a4 :: a5 :: a6 :: a7 :: .inl x :: L) (.inl x :: st) h Q := w_iload (j := 8) rfl pt32 (show decode e32.b 93 = .ok (.iload 8, 2) by decide +kernel)
theorem s32_95 : wp K d 32 95 (a0 :: a1 :: a2 :: w :: L) (.inl x :: st) h Q = wp K d 32 96 (a0 :: a1 :: a2 :: .inl x :: L) st h Q := w_istore_n (j := 3) (ll3 ..) (Or.inl rfl) pt32 (show decode e32.b 95 = .ok (.istore_n 3, 1) by decide +kernel)
theorem s32_96 : wp K d 32 96 L st h Q = wp K d 32 98 L (.inl (10) :: st) h Q := w_bipush (z := (10)) (by decide) pt32 (show decode e32.b 96 = .ok (.bipush (10), 2) by decide +kernel)
theorem s32_98 : wp K d 32 98 (a0 :: a1 :: a2 :: a3 :: a4 :: .inl x :: L) st h Q = wp K d 32 100 (a0 :: a1 :: a2 :: a3 :: a4 :: .inl x :: L) (.inl x :: st) h Q := w_iload (j := 5) rfl pt32 (show decode e32.b 98 = .ok (.iload 5, 2) by decide +kernel)
theorem s32_100 : wp K d 32 100 L (.inl y :: .inl x :: st) h Q = wp K d 32 101 L (.inl (w32 (x * y)) :: st) h Q := w_imul pt32 (show decode e32.b 100 = .ok (.imul, 1) by decide +kernel)
theorem s32_101 : wp K d 32 101 (a0 :: a1 :: a2 :: a3 :: a4 :: a5 :: .inl x :: L) st h Q = wp K d 32 103 (a0 :: a1 :: a2 :: a3 :: a4 :: a5 :: .inl x :: L) (.inl x :: st) h Q := w_iload (j := 6) rfl pt32 (show decode e32.b 101 = .ok (.iload 6, 2) by decide +kernel)
theorem s32_103 : wp K d 32 103 L (.inl y :: .inl x :: st) h Q = wp K d 32 104 L (.inl (w32 (x + y)) :: st) h Q := w_iadd pt32 (show decode e32.b 103 = .ok (.iadd, 1) by decide +kernel)
theorem s32_104 : wp K d 32 104 (a0 :: a1 :: a2 :: a3 :: w :: L) (.inl x :: st) h Q = wp K d 32 106 (a0 :: a1 :: a2 :: a3 :: .inl x :: L) st h Q := w_istore (j := 4) (ll4 ..) (Or.inl rfl) pt32 (show decode e32.b 104 = .ok (.istore 4, 2) by decide +kernel)
theorem s32_106 : wp K d 32 106 (a0 :: a1 :: a2 :: a3 :: a4 :: a5 :: .inl x :: L) st h Q = wp K d 32 109 (a0 :: a1 :: a2 :: a3 :: a4 :: a5 :: .inl (w32 (x + (1))) :: L) st h Q := w_iinc (j := 6) (z := (1)) rfl (Or.inl rfl) (by decide) pt32 (show decode e32.b 106 = .ok (.iinc 6 (1), 3) by decide +kernel)
theorem s32_109 : wp K d 32 109 L st h Q = wp K d 32 40 L st h Q := w_goto rfl pt32 (show decode e32.b 109 = .ok (.goto (-69), 3) by decide +kernel)
theorem s32_112 : wp K d 32 112 (a0 :: a1 :: a2 :: a3 :: a4 :: .inl x :: L) st h Q = wp K d 32 115 (a0 :: a1 :: a2 :: a3 :: a4 :: .inl (w32 (x + (1))) :: L) st h Q := w_iinc (j := 5) (z := (1)) rfl (Or.inl rfl) (by decide) pt32 (show decode e32.b 112 = .ok (.iinc 5 (1), 3) by decide +kernel)
theorem s32_115 : wp K d 32 115 L st h Q = wp K d 32 25 L st h Q := w_goto rfl pt32 (show decode e32.b 115 = .ok (.goto (-90), 3) by decide +kernel)
theorem s32_118 : wp K d 32 118 (a0 :: .inl x :: L) st h Q = wp K d 32 119 (a0 :: .inl x :: L) (.inl x :: st) h Q := w_iload_n (j := 1) rfl pt32 (show decode e32.b 118 = .ok (.iload_n 1, 1) by decide +kernel)
theorem s32_119 : wp K d 32 119 L (.inl x :: st) h Q = if x = 0 then wp K d 32 127 L st h Q else wp K d 32 122 L st h Q := w_ifeq rfl pt32 (show decode e32.b 119 = .ok (.ifCond .eq (8), 3) by decide +kernel)
theorem s32_122 : wp K d 32 122 (a0 :: a1 :: a2 :: a3 :: .inl x :: L) st h Q = wp K d 32 124 (a0 :: a1 :: a2 :: a3 :: .inl x :: L) (.inl x :: st) h Q := w_iload (j := 4) rfl pt32 (show decode e32.b 122 = .ok (.iload 4, 2) by decide +kernel)
theorem s32_124 : wp K d 32 124 L st h Q = wp K d 32 128 L st h Q := w_goto rfl pt32 (show decode e32.b 124 = .ok (.goto (4), 3) by decide +kernel)
theorem s32_127 : wp K d 32 127 (a0 :: a1 :: a2 :: .inl x :: L) st h Q = wp K d 32 128 (a0 :: a1 :: a2 :: .inl x :: L) (.inl x :: st) h Q := w_iload_n (j := 3) rfl pt32 (show decode e32.b 127 = .ok (.iload_n 3, 1) by decide +kernel)
theorem s32_128 : wp K d 32 128 L [.inl x] h Q = Q (some (.inl x)) h := w_ireturn pt32 (show decode e32.b 128 = .ok (.ireturn, 1) by decide +kernel) rfl
theorem s33_0 : wp K d 33 0 (a0 :: .inl x :: L) st h Q = wp K d 33 1 (a0 :: .inl x :: L) (.inl x :: st) h Q := w_iload_n (j := 1) rfl pt33 (show decode e33.b 0 = .ok (.iload_n 1, 1) by decide +kernel)
theorem s33_1 : wp K d 33 1 L (.inl x :: st) h Q = if x = (0) then wp K d 33 28 L st h Q else if x = (1) then wp K d 33 47 L st h Q else if x = (2) then wp K d 33 65 L st h Q else wp K d 33 70 L st h Q := by
  have hd := (show decode e33.b 1 = .ok (.tableswitch (69) (0) (2) #[(27), (46), (64)], 27) by decide +kernel)
  by_cases h0 : x = (0)
  · subst h0
    rw [if_pos rfl]
    exact w_table (t := 28) (by decide) (by decide) pt33 hd
  by_cases h1 : x = (1)
  · subst h1
    rw [if_neg (by decide), if_pos rfl]
    exact w_table (t := 47) (by decide) (by decide) pt33 hd
  by_cases h2 : x = (2)
  · subst h2
    rw [if_neg (by decide), if_neg (by decide), if_pos rfl]
    exact w_table (t := 65) (by decide) (by decide) pt33 hd
  rw [if_neg h0, if_neg h1, if_neg h2]
  exact w_table (t := 70) (by unfold swT; rw [if_pos (by omega)]; decide) (by decide) pt33 hd
theorem s33_28 : wp K d 33 28 (.inl x :: L) st h Q = wp K d 33 29 (.inl x :: L) (.inl x :: st) h Q := w_iload_n (j := 0) rfl pt33 (show decode e33.b 28 = .ok (.iload_n 0, 1) by decide +kernel)
theorem s33_29 : wp K d 33 29 L st h Q = wp K d 33 30 L (.inl (1) :: st) h Q := w_iconst (z := (1)) (by decide) pt33 (show decode e33.b 29 = .ok (.iconst (1), 1) by decide +kernel)
theorem s33_30 : wp K d 33 30 L (.inl y :: .inl x :: st) h Q = if x ≠ y then wp K d 33 37 L st h Q else wp K d 33 33 L st h Q := w_icmpne rfl pt33 (show decode e33.b 30 = .ok (.if_icmp .ne (7), 3) by decide +kernel)
theorem s33_33 : wp K d 33 33 L st h Q = wp K d 33 34 L (.inl (0) :: st) h Q := w_iconst (z := (0)) (by decide) pt33 (show decode e33.b 33 = .ok (.iconst (0), 1) by decide +kernel)
theorem s33_34 : wp K d 33 34 L st h Q = wp K d 33 46 L st h Q := w_goto rfl pt33 (show decode e33.b 34 = .ok (.goto (12), 3) by decide +kernel)
theorem s33_37 : wp K d 33 37 L st h Q = wp K d 33 38 L (.inl (3) :: st) h Q := w_iconst (z := (3)) (by decide) pt33 (show decode e33.b 37 = .ok (.iconst (3), 1) by decide +kernel)
theorem s33_38 : wp K d 33 38 (.inl x :: L) st h Q = wp K d 33 39 (.inl x :: L) (.inl x :: st) h Q := w_iload_n (j := 0) rfl pt33 (show decode e33.b 38 = .ok (.iload_n 0, 1) by decide +kernel)
theorem s33_39 : wp K d 33 39 L (.inl y :: .inl x :: st) h Q = wp K d 33 40 L (.inl (w32 (x * y)) :: st) h Q := w_imul pt33 (show decode e33.b 39 = .ok (.imul, 1) by decide +kernel)
theorem s33_40 : wp K d 33 40 L st h Q = wp K d 33 41 L (.inl (1) :: st) h Q := w_iconst (z := (1)) (by decide) pt33 (show decode e33.b 40 = .ok (.iconst (1), 1) by decide +kernel)
theorem s33_41 : wp K d 33 41 L (.inl y :: .inl x :: st) h Q = wp K d 33 42 L (.inl (w32 (x + y)) :: st) h Q := w_iadd pt33 (show decode e33.b 41 = .ok (.iadd, 1) by decide +kernel)
theorem s33_42 : wp K d 33 42 L st h Q = wp K d 33 43 L (.inl (2) :: st) h Q := w_iconst (z := (2)) (by decide) pt33 (show decode e33.b 42 = .ok (.iconst (2), 1) by decide +kernel)
theorem s33_43 : wp K d 33 43 L (.inl y :: .inl x :: st) h Q = ((y ≠ 0) ∧ wp K d 33 44 L (.inl (w32 (x.tdiv y)) :: st) h Q) := w_idiv pt33 (show decode e33.b 43 = .ok (.idiv, 1) by decide +kernel)
theorem s33_44 : wp K d 33 44 L st h Q = wp K d 33 45 L (.inl (2) :: st) h Q := w_iconst (z := (2)) (by decide) pt33 (show decode e33.b 44 = .ok (.iconst (2), 1) by decide +kernel)
theorem s33_45 : wp K d 33 45 L (.inl y :: .inl x :: st) h Q = wp K d 33 46 L (.inl (w32 (x - y)) :: st) h Q := w_isub pt33 (show decode e33.b 45 = .ok (.isub, 1) by decide +kernel)
theorem s33_46 : wp K d 33 46 L [.inl x] h Q = Q (some (.inl x)) h := w_ireturn pt33 (show decode e33.b 46 = .ok (.ireturn, 1) by decide +kernel) rfl
theorem s33_47 : wp K d 33 47 (.inl x :: L) st h Q = wp K d 33 48 (.inl x :: L) (.inl x :: st) h Q := w_iload_n (j := 0) rfl pt33 (show decode e33.b 47 = .ok (.iload_n 0, 1) by decide +kernel)
theorem s33_48 : wp K d 33 48 L st h Q = wp K d 33 49 L (.inl (1) :: st) h Q := w_iconst (z := (1)) (by decide) pt33 (show decode e33.b 48 = .ok (.iconst (1), 1) by decide +kernel)
theorem s33_49 : wp K d 33 49 L (.inl y :: .inl x :: st) h Q = if x ≠ y then wp K d 33 56 L st h Q else wp K d 33 52 L st h Q := w_icmpne rfl pt33 (show decode e33.b 49 = .ok (.if_icmp .ne (7), 3) by decide +kernel)
theorem s33_52 : wp K d 33 52 L st h Q = wp K d 33 53 L (.inl (0) :: st) h Q := w_iconst (z := (0)) (by decide) pt33 (show decode e33.b 52 = .ok (.iconst (0), 1) by decide +kernel)
theorem s33_53 : wp K d 33 53 L st h Q = wp K d 33 64 L st h Q := w_goto rfl pt33 (show decode e33.b 53 = .ok (.goto (11), 3) by decide +kernel)
theorem s33_56 : wp K d 33 56 (.inl x :: L) st h Q = wp K d 33 57 (.inl x :: L) (.inl x :: st) h Q := w_iload_n (j := 0) rfl pt33 (show decode e33.b 56 = .ok (.iload_n 0, 1) by decide +kernel)
theorem s33_57 : wp K d 33 57 L st h Q = wp K d 33 58 L (.inl (2) :: st) h Q := w_iconst (z := (2)) (by decide) pt33 (show decode e33.b 57 = .ok (.iconst (2), 1) by decide +kernel)
theorem s33_58 : wp K d 33 58 L (.inl y :: .inl x :: st) h Q = wp K d 33 59 L (.inl (w32 (x - y)) :: st) h Q := w_isub pt33 (show decode e33.b 58 = .ok (.isub, 1) by decide +kernel)
theorem s33_59 : wp K d 33 59 (.inl x :: L) st h Q = wp K d 33 60 (.inl x :: L) (.inl x :: st) h Q := w_iload_n (j := 0) rfl pt33 (show decode e33.b 59 = .ok (.iload_n 0, 1) by decide +kernel)
theorem s33_60 : wp K (d + 1) 33 60 L [.inl z0, w0] h Q = wp K d 34 0 [.inl z0, vU, vU] [] h (fun r h' => wp K (d + 1) 33 63 L (r.toList ++ [w0]) h' Q) := w_callS pt33 (show decode e33.b 60 = .ok (.invokestatic 7, 3) by decide +kernel) mr_2_7 pt34 rfl (by decide) (as := [.inl z0]) (rest := [w0]) rfl rfl (Nat.le_of_ble_eq_true rfl) (Or.inr rfl) (Nat.le_of_ble_eq_true rfl) rfl
theorem s33_63 : wp K d 33 63 L (.inl y :: .inl x :: st) h Q = wp K d 33 64 L (.inl (w32 (x + y)) :: st) h Q := w_iadd pt33 (show decode e33.b 63 = .ok (.iadd, 1) by decide +kernel)
theorem s33_64 : wp K d 33 64 L [.inl x] h Q = Q (some (.inl x)) h := w_ireturn pt33 (show decode e33.b 64 = .ok (.ireturn, 1) by decide +kernel) rfl
theorem s33_65 : wp K d 33 65 (.inl x :: L) st h Q = wp K d 33 66 (.inl x :: L) (.inl x :: st) h Q := w_iload_n (j := 0) rfl pt33 (show decode e33.b 65 = .ok (.iload_n 0, 1) by decide +kernel)
theorem s33_66 : wp K (d + 1) 33 66 L [.inl z0] h Q = wp K d 35 0 [.inl z0, vU, vU] [] h (fun r h' => wp K (d + 1) 33 69 L (r.toList ++ []) h' Q) := w_callS pt33 (show decode e33.b 66 = .ok (.invokestatic 13, 3) by decide +kernel) mr_2_13 pt35 rfl (by decide) (as := [.inl z0]) (rest := []) rfl rfl (Nat.le_of_ble_eq_true rfl) (Or.inr rfl) (Nat.le_of_ble_eq_true rfl) rfl
theorem s33_69 : wp K d 33 69 L [.inl x] h Q = Q (some (.inl x)) h := w_ireturn pt33 (show decode e33.b 69 = .ok (.ireturn, 1) by decide +kernel) rfl
theorem s33_70 : wp K d 33 70 (.inl x :: L) st h Q = wp K d 33 71 (.inl x :: L) (.inl x :: st) h Q := w_iload_n (j := 0) rfl pt33 (show decode e33.b 70 = .ok (.iload_n 0, 1) by decide +kernel)
theorem s33_71 : wp K (d + 1) 33 71 L [.inl z0] h Q = wp K d 36 0 [.inl z0, vU, vU, vU, vU, vU] [] h (fun r h' => wp K (d + 1) 33 74 L (r.toList ++ []) h' Q) := w_callS pt33 (show decode e33.b 71 = .ok (.invokestatic 16, 3) by decide +kernel) mr_2_16 pt36 rfl (by decide) (as := [.inl z0]) (rest := []) rfl rfl (Nat.le_of_ble_eq_true rfl) (Or.inl rfl) (Nat.le_of_ble_eq_true rfl) rfl
theorem s33_74 : wp K d 33 74 L [.inl x] h Q = Q (some (.inl x)) h := w_ireturn pt33 (show decode e33.b 74 = .ok (.ireturn, 1) by decide +kernel) rfl
theorem s34_0 : wp K d 34 0 L st h Q = wp K d 34 1 L (.inl (0) :: st) h Q := w_iconst (z := (0)) (by decide) pt34 (show decode e34.b 0 = .ok (.iconst (0), 1) by decide +kernel)
theorem s34_1 : wp K d 34 1 (a0 :: w :: L) (.inl x :: st) h Q = wp K d 34 2 (a0 :: .inl x :: L) st h Q := w_istore_n (j := 1) (ll1 ..) (Or.inl rfl) pt34 (show decode e34.b 1 = .ok (.istore_n 1, 1) by decide +kernel)
theorem s34_2 : wp K d 34 2 (.inl x :: L) st h Q = wp K d 34 3 (.inl x :: L) (.inl x :: st) h Q := w_iload_n (j := 0) rfl pt34 (show decode e34.b 2 = .ok (.iload_n 0, 1) by decide +kernel)
theorem s34_3 : wp K d 34 3 (a0 :: a1 :: w :: L) (.inl x :: st) h Q = wp K d 34 4 (a0 :: a1 :: .inl x :: L) st h Q := w_istore_n (j := 2) (ll2 ..) (Or.inl rfl) pt34 (show decode e34.b 3 = .ok (.istore_n 2, 1) by decide +kernel)
theorem s34_4 : wp K d 34 4 (a0 :: a1 :: .inl x :: L) st h Q = wp K d 34 5 (a0 :: a1 :: .inl x :: L) (.inl x :: st) h Q := w_iload_n (j := 2) rfl pt34 (show decode e34.b 4 = .ok (.iload_n 2, 1) by decide +kernel)
theorem s34_5 : wp K d 34 5 L st h Q = wp K d 34 6 L (.inl (1) :: st) h Q := w_iconst (z := (1)) (by decide) pt34 (show decode e34.b 5 = .ok (.iconst (1), 1) by decide +kernel)
theorem s34_6 : wp K d 34 6 L (.inl y :: .inl x :: st) h Q = if x ≤ y then wp K d 34 21 L st h Q else wp K d 34 9 L st h Q := w_icmple rfl pt34 (show decode e34.b 6 = .ok (.if_icmp .le (15), 3) by decide +kernel)
theorem s34_9 : wp K d 34 9 (a0 :: .inl x :: L) st h Q = wp K d 34 12 (a0 :: .inl (w32 (x + (1))) :: L) st h Q := w_iinc (j := 1) (z := (1)) rfl (Or.inl rfl) (by decide) pt34 (show decode e34.b 9 = .ok (.iinc 1 (1), 3) by decide +kernel)
theorem s34_12 : wp K d 34 12 (a0 :: a1 :: .inl x :: L) st h Q = wp K d 34 13 (a0 :: a1 :: .inl x :: L) (.inl x :: st) h Q := w_iload_n (j := 2) rfl pt34 (show decode e34.b 12 = .ok (.iload_n 2, 1) by decide +kernel)
theorem s34_13 : wp K d 34 13 L st h Q = wp K d 34 14 L (.inl (1) :: st) h Q := w_iconst (z := (1)) (by decide) pt34 (show decode e34.b 13 = .ok (.iconst (1), 1) by decide +kernel)
theorem s34_14 : wp K d 34 14 L (.inl y :: .inl x :: st) h Q = wp K d 34 15 L (.inl (w32 (x + y)) :: st) h Q := w_iadd pt34 (show decode e34.b 14 = .ok (.iadd, 1) by decide +kernel)
theorem s34_15 : wp K d 34 15 L st h Q = wp K d 34 16 L (.inl (2) :: st) h Q := w_iconst (z := (2)) (by decide) pt34 (show decode e34.b 15 = .ok (.iconst (2), 1) by decide +kernel)
theorem s34_16 : wp K d 34 16 L (.inl y :: .inl x :: st) h Q = ((y ≠ 0) ∧ wp K d 34 17 L (.inl (w32 (x.tdiv y)) :: st) h Q) := w_idiv pt34 (show decode e34.b 16 = .ok (.idiv, 1) by decide +kernel)
theorem s34_17 : wp K d 34 17 (a0 :: a1 :: w :: L) (.inl x :: st) h Q = wp K d 34 18 (a0 :: a1 :: .inl x :: L) st h Q := w_istore_n (j := 2) (ll2 ..) (Or.inl rfl) pt34 (show decode e34.b 17 = .ok (.istore_n 2, 1) by decide +kernel)
theorem s34_18 : wp K d 34 18 L st h Q = wp K d 34 4 L st h Q := w_goto rfl pt34 (show decode e34.b 18 = .ok (.goto (-14), 3) by decide +kernel)
theorem s34_21 : wp K d 34 21 (a0 :: .inl x :: L) st h Q = wp K d 34 22 (a0 :: .inl x :: L) (.inl x :: st) h Q := w_iload_n (j := 1) rfl pt34 (show decode e34.b 21 = .ok (.iload_n 1, 1) by decide +kernel)
theorem s34_22 : wp K d 34 22 L [.inl x] h Q = Q (some (.inl x)) h := w_ireturn pt34 (show decode e34.b 22 = .ok (.ireturn, 1) by decide +kernel) rfl
theorem s35_0 : wp K d 35 0 L st h Q = wp K d 35 1 L (.inl (0) :: st) h Q := w_iconst (z := (0)) (by decide) pt35 (show decode e35.b 0 = .ok (.iconst (0), 1) by decide +kernel)
theorem s35_1 : wp K d 35 1 (a0 :: w :: L) (.inl x :: st) h Q = wp K d 35 2 (a0 :: .inl x :: L) st h Q := w_istore_n (j := 1) (ll1 ..) (Or.inl rfl) pt35 (show decode e35.b 1 = .ok (.istore_n 1, 1) by decide +kernel)
theorem s35_2 : wp K d 35 2 L st h Q = wp K d 35 3 L (.inl (2) :: st) h Q := w_iconst (z := (2)) (by decide) pt35 (show decode e35.b 2 = .ok (.iconst (2), 1) by decide +kernel)
theorem s35_3 : wp K d 35 3 (a0 :: a1 :: w :: L) (.inl x :: st) h Q = wp K d 35 4 (a0 :: a1 :: .inl x :: L) st h Q := w_istore_n (j := 2) (ll2 ..) (Or.inl rfl) pt35 (show decode e35.b 3 = .ok (.istore_n 2, 1) by decide +kernel)
theorem s35_4 : wp K d 35 4 (a0 :: a1 :: .inl x :: L) st h Q = wp K d 35 5 (a0 :: a1 :: .inl x :: L) (.inl x :: st) h Q := w_iload_n (j := 2) rfl pt35 (show decode e35.b 4 = .ok (.iload_n 2, 1) by decide +kernel)
theorem s35_5 : wp K d 35 5 (.inl x :: L) st h Q = wp K d 35 6 (.inl x :: L) (.inl x :: st) h Q := w_iload_n (j := 0) rfl pt35 (show decode e35.b 5 = .ok (.iload_n 0, 1) by decide +kernel)
theorem s35_6 : wp K d 35 6 L (.inl y :: .inl x :: st) h Q = if y < x then wp K d 35 22 L st h Q else wp K d 35 9 L st h Q := w_icmpgt rfl pt35 (show decode e35.b 6 = .ok (.if_icmp .gt (16), 3) by decide +kernel)
theorem s35_9 : wp K d 35 9 (a0 :: .inl x :: L) st h Q = wp K d 35 10 (a0 :: .inl x :: L) (.inl x :: st) h Q := w_iload_n (j := 1) rfl pt35 (show decode e35.b 9 = .ok (.iload_n 1, 1) by decide +kernel)
theorem s35_10 : wp K d 35 10 (a0 :: a1 :: .inl x :: L) st h Q = wp K d 35 11 (a0 :: a1 :: .inl x :: L) (.inl x :: st) h Q := w_iload_n (j := 2) rfl pt35 (show decode e35.b 10 = .ok (.iload_n 2, 1) by decide +kernel)
theorem s35_11 : wp K (d + 1) 35 11 L [.inl z0, w0] h Q = wp K d 34 0 [.inl z0, vU, vU] [] h (fun r h' => wp K (d + 1) 35 14 L (r.toList ++ [w0]) h' Q) := w_callS pt35 (show decode e35.b 11 = .ok (.invokestatic 7, 3) by decide +kernel) mr_2_7 pt34 rfl (by decide) (as := [.inl z0]) (rest := [w0]) rfl rfl (Nat.le_of_ble_eq_true rfl) (Or.inr rfl) (Nat.le_of_ble_eq_true rfl) rfl
theorem s35_14 : wp K d 35 14 L (.inl y :: .inl x :: st) h Q = wp K d 35 15 L (.inl (w32 (x + y)) :: st) h Q := w_iadd pt35 (show decode e35.b 14 = .ok (.iadd, 1) by decide +kernel)
theorem s35_15 : wp K d 35 15 (a0 :: w :: L) (.inl x :: st) h Q = wp K d 35 16 (a0 :: .inl x :: L) st h Q := w_istore_n (j := 1) (ll1 ..) (Or.inl rfl) pt35 (show decode e35.b 15 = .ok (.istore_n 1, 1) by decide +kernel)
theorem s35_16 : wp K d 35 16 (a0 :: a1 :: .inl x :: L) st h Q = wp K d 35 19 (a0 :: a1 :: .inl (w32 (x + (1))) :: L) st h Q := w_iinc (j := 2) (z := (1)) rfl (Or.inl rfl) (by decide) pt35 (show decode e35.b 16 = .ok (.iinc 2 (1), 3) by decide +kernel)
theorem s35_19 : wp K d 35 19 L st h Q = wp K d 35 4 L st h Q := w_goto rfl pt35 (show decode e35.b 19 = .ok (.goto (-15), 3) by decide +kernel)
theorem s35_22 : wp K d 35 22 (a0 :: .inl x :: L) st h Q = wp K d 35 23 (a0 :: .inl x :: L) (.inl x :: st) h Q := w_iload_n (j := 1) rfl pt35 (show decode e35.b 22 = .ok (.iload_n 1, 1) by decide +kernel)
theorem s35_23 : wp K d 35 23 L [.inl x] h Q = Q (some (.inl x)) h := w_ireturn pt35 (show decode e35.b 23 = .ok (.ireturn, 1) by decide +kernel) rfl
theorem s36_0 : wp K d 36 0 L st h Q = wp K d 36 1 L (.inr (.inl 1) :: st) h Q := w_lconst (z := 1) pt36 (show decode e36.b 0 = .ok (.lconst 1, 1) by decide +kernel)
theorem s36_1 : wp K d 36 1 (.inl z :: vU :: vU :: L) (.inr (.inl x) :: st) h Q = wp K d 36 2 (.inl z :: .inr (.inl x) :: vU :: L) st h Q := w_lstore_n (j := 1) (ll2 ..) rfl rfl rfl pt36 (show decode e36.b 1 = .ok (.lstore_n 1, 1) by decide +kernel)
theorem s36_1b : wp K d 36 1 (.inl z :: .inr (.inl y) :: vU :: L) (.inr (.inl x) :: st) h Q = wp K d 36 2 (.inl z :: .inr (.inl x) :: vU :: L) st h Q := w_lstore_n (j := 1) (ll2 ..) rfl rfl rfl pt36 (show decode e36.b 1 = .ok (.lstore_n 1, 1) by decide +kernel)
theorem s36_2 : wp K d 36 2 L st h Q = wp K d 36 3 L (.inl (2) :: st) h Q := w_iconst (z := (2)) (by decide) pt36 (show decode e36.b 2 = .ok (.iconst (2), 1) by decide +kernel)
theorem s36_3 : wp K d 36 3 (a0 :: a1 :: vU :: w :: L) (.inl x :: st) h Q = wp K d 36 4 (a0 :: a1 :: vU :: .inl x :: L) st h Q := w_istore_n (j := 3) (ll3 ..) (Or.inr rfl) pt36 (show decode e36.b 3 = .ok (.istore_n 3, 1) by decide +kernel)
theorem s36_4 : wp K d 36 4 (a0 :: a1 :: a2 :: .inl x :: L) st h Q = wp K d 36 5 (a0 :: a1 :: a2 :: .inl x :: L) (.inl x :: st) h Q := w_iload_n (j := 3) rfl pt36 (show decode e36.b 4 = .ok (.iload_n 3, 1) by decide +kernel)
theorem s36_5 : wp K d 36 5 (.inl x :: L) st h Q = wp K d 36 6 (.inl x :: L) (.inl x :: st) h Q := w_iload_n (j := 0) rfl pt36 (show decode e36.b 5 = .ok (.iload_n 0, 1) by decide +kernel)
theorem s36_6 : wp K d 36 6 L (.inl y :: .inl x :: st) h Q = if y < x then wp K d 36 20 L st h Q else wp K d 36 9 L st h Q := w_icmpgt rfl pt36 (show decode e36.b 6 = .ok (.if_icmp .gt (14), 3) by decide +kernel)
theorem s36_9 : wp K d 36 9 (a0 :: .inr (.inl x) :: L) st h Q = wp K d 36 10 (a0 :: .inr (.inl x) :: L) (.inr (.inl x) :: st) h Q := w_lload_n (j := 1) rfl pt36 (show decode e36.b 9 = .ok (.lload_n 1, 1) by decide +kernel)
theorem s36_10 : wp K d 36 10 (a0 :: a1 :: a2 :: .inl x :: L) st h Q = wp K d 36 11 (a0 :: a1 :: a2 :: .inl x :: L) (.inl x :: st) h Q := w_iload_n (j := 3) rfl pt36 (show decode e36.b 10 = .ok (.iload_n 3, 1) by decide +kernel)
theorem s36_11 : wp K d 36 11 L (.inl x :: st) h Q = wp K d 36 12 L (.inr (.inl x) :: st) h Q := w_i2l pt36 (show decode e36.b 11 = .ok (.i2l, 1) by decide +kernel)
theorem s36_12 : wp K d 36 12 L (.inr (.inl y) :: .inr (.inl x) :: st) h Q = wp K d 36 13 L (.inr (.inl (w64 (x * y))) :: st) h Q := w_lmul pt36 (show decode e36.b 12 = .ok (.lmul, 1) by decide +kernel)
theorem s36_13 : wp K d 36 13 (.inl z :: vU :: vU :: L) (.inr (.inl x) :: st) h Q = wp K d 36 14 (.inl z :: .inr (.inl x) :: vU :: L) st h Q := w_lstore_n (j := 1) (ll2 ..) rfl rfl rfl pt36 (show decode e36.b 13 = .ok (.lstore_n 1, 1) by decide +kernel)
theorem s36_13b : wp K d 36 13 (.inl z :: .inr (.inl y) :: vU :: L) (.inr (.inl x) :: st) h Q = wp K d 36 14 (.inl z :: .inr (.inl x) :: vU :: L) st h Q := w_lstore_n (j := 1) (ll2 ..) rfl rfl rfl pt36 (show decode e36.b 13 = .ok (.lstore_n 1, 1) by decide +kernel)
theorem s36_14 : wp K d 36 14 (a0 :: a1 :: vU :: .inl x :: L) st h Q = wp K d 36 17 (a0 :: a1 :: vU :: .inl (w32 (x + (1))) :: L) st h Q := w_iinc (j := 3) (z := (1)) rfl (Or.inr rfl) (by decide) pt36 (show decode e36.b 14 = .ok (.iinc 3 (1), 3) by decide +kernel)
theorem s36_17 : wp K d 36 17 L st h Q = wp K d 36 4 L st h Q := w_goto rfl pt36 (show decode e36.b 17 = .ok (.goto (-13), 3) by decide +kernel)
theorem s36_20 : wp K d 36 20 L st h Q = wp K d 36 21 L (.inl (0) :: st) h Q := w_iconst (z := (0)) (by decide) pt36 (show decode e36.b 20 = .ok (.iconst (0), 1) by decide +kernel)
theorem s36_21 : wp K d 36 21 (a0 :: a1 :: vU :: w :: L) (.inl x :: st) h Q = wp K d 36 22 (a0 :: a1 :: vU :: .inl x :: L) st h Q := w_istore_n (j := 3) (ll3 ..) (Or.inr rfl) pt36 (show decode e36.b 21 = .ok (.istore_n 3, 1) by decide +kernel)
theorem s36_22 : wp K d 36 22 L st h Q = wp K d 36 23 L (.inr (.inl 1) :: st) h Q := w_lconst (z := 1) pt36 (show decode e36.b 22 = .ok (.lconst 1, 1) by decide +kernel)
theorem s36_23 : wp K d 36 23 (a0 :: a1 :: a2 :: .inl z :: vU :: vU :: L) (.inr (.inl x) :: st) h Q = wp K d 36 25 (a0 :: a1 :: a2 :: .inl z :: .inr (.inl x) :: vU :: L) st h Q := w_lstore (j := 4) (ll5 ..) rfl rfl rfl pt36 (show decode e36.b 23 = .ok (.lstore 4, 2) by decide +kernel)
theorem s36_23b : wp K d 36 23 (a0 :: a1 :: a2 :: .inl z :: .inr (.inl y) :: vU :: L) (.inr (.inl x) :: st) h Q = wp K d 36 25 (a0 :: a1 :: a2 :: .inl z :: .inr (.inl x) :: vU :: L) st h Q := w_lstore (j := 4) (ll5 ..) rfl rfl rfl pt36 (show decode e36.b 23 = .ok (.lstore 4, 2) by decide +kernel)
theorem s36_25 : wp K d 36 25 (a0 :: a1 :: a2 :: a3 :: .inr (.inl x) :: L) st h Q = wp K d 36 27 (a0 :: a1 :: a2 :: a3 :: .inr (.inl x) :: L) (.inr (.inl x) :: st) h Q := w_lload (j := 4) rfl pt36 (show decode e36.b 25 = .ok (.lload 4, 2) by decide +kernel)
theorem s36_27 : wp K d 36 27 (a0 :: .inr (.inl x) :: L) st h Q = wp K d 36 28 (a0 :: .inr (.inl x) :: L) (.inr (.inl x) :: st) h Q := w_lload_n (j := 1) rfl pt36 (show decode e36.b 27 = .ok (.lload_n 1, 1) by decide +kernel)
theorem s36_28 : wp K d 36 28 L (.inr (.inl y) :: .inr (.inl x) :: st) h Q = wp K d 36 29 L (.inl (if x < y then -1 else if x = y then 0 else 1) :: st) h Q := w_lcmp pt36 (show decode e36.b 28 = .ok (.lcmp, 1) by decide +kernel)
theorem s36_29 : wp K d 36 29 L (.inl x :: st) h Q = if 0 ≤ x then wp K d 36 52 L st h Q else wp K d 36 32 L st h Q := w_ifge rfl pt36 (show decode e36.b 29 = .ok (.ifCond .ge (23), 3) by decide +kernel)
theorem s36_32 : wp K d 36 32 (a0 :: a1 :: a2 :: .inl x :: L) st h Q = wp K d 36 33 (a0 :: a1 :: a2 :: .inl x :: L) (.inl x :: st) h Q := w_iload_n (j := 3) rfl pt36 (show decode e36.b 32 = .ok (.iload_n 3, 1) by decide +kernel)
theorem s36_33 : wp K d 36 33 L st h Q = wp K d 36 35 L (.inl (62) :: st) h Q := w_bipush (z := (62)) (by decide) pt36 (show decode e36.b 33 = .ok (.bipush (62), 2) by decide +kernel)
theorem s36_35 : wp K d 36 35 L (.inl y :: .inl x :: st) h Q = if y ≤ x then wp K d 36 52 L st h Q else wp K d 36 38 L st h Q := w_icmpge rfl pt36 (show decode e36.b 35 = .ok (.if_icmp .ge (17), 3) by decide +kernel)
theorem s36_38 : wp K d 36 38 (a0 :: a1 :: vU :: .inl x :: L) st h Q = wp K d 36 41 (a0 :: a1 :: vU :: .inl (w32 (x + (1))) :: L) st h Q := w_iinc (j := 3) (z := (1)) rfl (Or.inr rfl) (by decide) pt36 (show decode e36.b 38 = .ok (.iinc 3 (1), 3) by decide +kernel)
theorem s36_41 : wp K d 36 41 (a0 :: a1 :: a2 :: a3 :: .inr (.inl x) :: L) st h Q = wp K d 36 43 (a0 :: a1 :: a2 :: a3 :: .inr (.inl x) :: L) (.inr (.inl x) :: st) h Q := w_lload (j := 4) rfl pt36 (show decode e36.b 41 = .ok (.lload 4, 2) by decide +kernel)
theorem s36_43 : wp K d 36 43 L st h Q = wp K d 36 46 L (.inr (.inl (2)) :: st) h Q := w_ldc2_w lr_2_19 pt36 (show decode e36.b 43 = .ok (.ldc2_w 19, 3) by decide +kernel)
theorem s36_46 : wp K d 36 46 L (.inr (.inl y) :: .inr (.inl x) :: st) h Q = wp K d 36 47 L (.inr (.inl (w64 (x * y))) :: st) h Q := w_lmul pt36 (show decode e36.b 46 = .ok (.lmul, 1) by decide +kernel)
theorem s36_47 : wp K d 36 47 (a0 :: a1 :: a2 :: .inl z :: vU :: vU :: L) (.inr (.inl x) :: st) h Q = wp K d 36 49 (a0 :: a1 :: a2 :: .inl z :: .inr (.inl x) :: vU :: L) st h Q := w_lstore (j := 4) (ll5 ..) rfl rfl rfl pt36 (show decode e36.b 47 = .ok (.lstore 4, 2) by decide +kernel)
theorem s36_47b : wp K d 36 47 (a0 :: a1 :: a2 :: .inl z :: .inr (.inl y) :: vU :: L) (.inr (.inl x) :: st) h Q = wp K d 36 49 (a0 :: a1 :: a2 :: .inl z :: .inr (.inl x) :: vU :: L) st h Q := w_lstore (j := 4) (ll5 ..) rfl rfl rfl pt36 (show decode e36.b 47 = .ok (.lstore 4, 2) by decide +kernel)
theorem s36_49 : wp K d 36 49 L st h Q = wp K d 36 25 L st h Q := w_goto rfl pt36 (show decode e36.b 49 = .ok (.goto (-24), 3) by decide +kernel)
theorem s36_52 : wp K d 36 52 (a0 :: a1 :: a2 :: .inl x :: L) st h Q = wp K d 36 53 (a0 :: a1 :: a2 :: .inl x :: L) (.inl x :: st) h Q := w_iload_n (j := 3) rfl pt36 (show decode e36.b 52 = .ok (.iload_n 3, 1) by decide +kernel)
theorem s36_53 : wp K d 36 53 L [.inl x] h Q = Q (some (.inl x)) h := w_ireturn pt36 (show decode e36.b 53 = .ok (.ireturn, 1) by decide +kernel) rfl
theorem s38_0 : wp K d 38 0 L st h Q = wp K d 38 1 L (.inl (0) :: st) h Q := w_iconst (z := (0)) (by decide) pt38 (show decode e38.b 0 = .ok (.iconst (0), 1) by decide +kernel)
theorem s38_1 : wp K d 38 1 (a0 :: a1 :: w :: L) (.inl x :: st) h Q = wp K d 38 2 (a0 :: a1 :: .inl x :: L) st h Q := w_istore_n (j := 2) (ll2 ..) (Or.inl rfl) pt38 (show decode e38.b 1 = .ok (.istore_n 2, 1) by decide +kernel)
theorem s38_2 : wp K d 38 2 L st h Q = wp K d 38 3 L (.inl (0) :: st) h Q := w_iconst (z := (0)) (by decide) pt38 (show decode e38.b 2 = .ok (.iconst (0), 1) by decide +kernel)
theorem s38_3 : wp K d 38 3 (a0 :: a1 :: a2 :: w :: L) (.inl x :: st) h Q = wp K d 38 4 (a0 :: a1 :: a2 :: .inl x :: L) st h Q := w_istore_n (j := 3) (ll3 ..) (Or.inl rfl) pt38 (show decode e38.b 3 = .ok (.istore_n 3, 1) by decide +kernel)
theorem s38_4 : wp K d 38 4 (a0 :: a1 :: a2 :: .inl x :: L) st h Q = wp K d 38 5 (a0 :: a1 :: a2 :: .inl x :: L) (.inl x :: st) h Q := w_iload_n (j := 3) rfl pt38 (show decode e38.b 4 = .ok (.iload_n 3, 1) by decide +kernel)
theorem s38_5 : wp K d 38 5 (a0 :: .inr (.inr (.inl a)) :: L) st h Q = wp K d 38 6 (a0 :: .inr (.inr (.inl a)) :: L) (.inr (.inr (.inl a)) :: st) h Q := w_aload_n (j := 1) rfl pt38 (show decode e38.b 5 = .ok (.aload_n 1, 1) by decide +kernel)
theorem s38_6 : wp K d 38 6 L (.inr (.inr (.inl a)) :: st) h Q = (isO K a 0 ∧ wp K d 38 9 L (.inl (h a 0) :: st) h Q) := w_getI fr_3_22 (by decide) pt38 (show decode e38.b 6 = .ok (.getfield 22, 3) by decide +kernel)
theorem s38_9 : wp K d 38 9 L (.inl y :: .inl x :: st) h Q = if y ≤ x then wp K d 38 92 L st h Q else wp K d 38 12 L st h Q := w_icmpge rfl pt38 (show decode e38.b 9 = .ok (.if_icmp .ge (83), 3) by decide +kernel)
theorem s38_12 : wp K d 38 12 (a0 :: a1 :: a2 :: .inl x :: L) st h Q = wp K d 38 13 (a0 :: a1 :: a2 :: .inl x :: L) (.inl x :: st) h Q := w_iload_n (j := 3) rfl pt38 (show decode e38.b 12 = .ok (.iload_n 3, 1) by decide +kernel)
theorem s38_13 : wp K d 38 13 L st h Q = wp K d 38 14 L (.inl (1) :: st) h Q := w_iconst (z := (1)) (by decide) pt38 (show decode e38.b 13 = .ok (.iconst (1), 1) by decide +kernel)
theorem s38_14 : wp K d 38 14 L (.inl y :: .inl x :: st) h Q = wp K d 38 15 L (.inl (w32 (x + y)) :: st) h Q := w_iadd pt38 (show decode e38.b 14 = .ok (.iadd, 1) by decide +kernel)
theorem s38_15 : wp K d 38 15 (a0 :: a1 :: a2 :: a3 :: w :: L) (.inl x :: st) h Q = wp K d 38 17 (a0 :: a1 :: a2 :: a3 :: .inl x :: L) st h Q := w_istore (j := 4) (ll4 ..) (Or.inl rfl) pt38 (show decode e38.b 15 = .ok (.istore 4, 2) by decide +kernel)
theorem s38_17 : wp K d 38 17 (a0 :: a1 :: a2 :: a3 :: .inl x :: L) st h Q = wp K d 38 19 (a0 :: a1 :: a2 :: a3 :: .inl x :: L) (.inl x :: st) h Q := w_iload (j := 4) rfl pt38 (show decode e38.b 17 = .ok (.iload 4, 2) by decide +kernel)
theorem s38_19 : wp K d 38 19 (a0 :: .inr (.inr (.inl a)) :: L) st h Q = wp K d 38 20 (a0 :: .inr (.inr (.inl a)) :: L) (.inr (.inr (.inl a)) :: st) h Q := w_aload_n (j := 1) rfl pt38 (show decode e38.b 19 = .ok (.aload_n 1, 1) by decide +kernel)
theorem s38_20 : wp K d 38 20 L (.inr (.inr (.inl a)) :: st) h Q = (isO K a 0 ∧ wp K d 38 23 L (.inl (h a 0) :: st) h Q) := w_getI fr_3_22 (by decide) pt38 (show decode e38.b 20 = .ok (.getfield 22, 3) by decide +kernel)
theorem s38_23 : wp K d 38 23 L (.inl y :: .inl x :: st) h Q = if y ≤ x then wp K d 38 86 L st h Q else wp K d 38 26 L st h Q := w_icmpge rfl pt38 (show decode e38.b 23 = .ok (.if_icmp .ge (63), 3) by decide +kernel)
theorem s38_26 : wp K d 38 26 (a0 :: a1 :: a2 :: a3 :: .inl x :: L) st h Q = wp K d 38 28 (a0 :: a1 :: a2 :: a3 :: .inl x :: L) (.inl x :: st) h Q := w_iload (j := 4) rfl pt38 (show decode e38.b 26 = .ok (.iload 4, 2) by decide +kernel)
theorem s38_28 : wp K d 38 28 L st h Q = wp K d 38 29 L (.inl (1) :: st) h Q := w_iconst (z := (1)) (by decide) pt38 (show decode e38.b 28 = .ok (.iconst (1), 1) by decide +kernel)
theorem s38_29 : wp K d 38 29 L (.inl y :: .inl x :: st) h Q = wp K d 38 30 L (.inl (w32 (x + y)) :: st) h Q := w_iadd pt38 (show decode e38.b 29 = .ok (.iadd, 1) by decide +kernel)
theorem s38_30 : wp K d 38 30 (a0 :: a1 :: a2 :: a3 :: a4 :: w :: L) (.inl x :: st) h Q = wp K d 38 32 (a0 :: a1 :: a2 :: a3 :: a4 :: .inl x :: L) st h Q := w_istore (j := 5) (ll5 ..) (Or.inl rfl) pt38 (show decode e38.b 30 = .ok (.istore 5, 2) by decide +kernel)
theorem s38_32 : wp K d 38 32 (a0 :: a1 :: a2 :: a3 :: a4 :: .inl x :: L) st h Q = wp K d 38 34 (a0 :: a1 :: a2 :: a3 :: a4 :: .inl x :: L) (.inl x :: st) h Q := w_iload (j := 5) rfl pt38 (show decode e38.b 32 = .ok (.iload 5, 2) by decide +kernel)
theorem s38_34 : wp K d 38 34 (a0 :: .inr (.inr (.inl a)) :: L) st h Q = wp K d 38 35 (a0 :: .inr (.inr (.inl a)) :: L) (.inr (.inr (.inl a)) :: st) h Q := w_aload_n (j := 1) rfl pt38 (show decode e38.b 34 = .ok (.aload_n 1, 1) by decide +kernel)
theorem s38_35 : wp K d 38 35 L (.inr (.inr (.inl a)) :: st) h Q = (isO K a 0 ∧ wp K d 38 38 L (.inl (h a 0) :: st) h Q) := w_getI fr_3_22 (by decide) pt38 (show decode e38.b 35 = .ok (.getfield 22, 3) by decide +kernel)
theorem s38_38 : wp K d 38 38 L (.inl y :: .inl x :: st) h Q = if y ≤ x then wp K d 38 80 L st h Q else wp K d 38 41 L st h Q := w_icmpge rfl pt38 (show decode e38.b 38 = .ok (.if_icmp .ge (42), 3) by decide +kernel)
theorem s38_41 : wp K d 38 41 (a0 :: .inr (.inr (.inl a)) :: L) st h Q = wp K d 38 42 (a0 :: .inr (.inr (.inl a)) :: L) (.inr (.inr (.inl a)) :: st) h Q := w_aload_n (j := 1) rfl pt38 (show decode e38.b 41 = .ok (.aload_n 1, 1) by decide +kernel)
theorem s38_42 : wp K d 38 42 L (.inr (.inr (.inl a)) :: st) h Q = (isO K a 0 ∧ wp K d 38 45 L (.inr (.inr (.inl (rT K a 11))) :: st) h Q) := w_getR fr_3_25 (by decide) pt38 (show decode e38.b 42 = .ok (.getfield 25, 3) by decide +kernel)
theorem s38_45 : wp K d 38 45 (a0 :: a1 :: a2 :: .inl x :: L) st h Q = wp K d 38 46 (a0 :: a1 :: a2 :: .inl x :: L) (.inl x :: st) h Q := w_iload_n (j := 3) rfl pt38 (show decode e38.b 45 = .ok (.iload_n 3, 1) by decide +kernel)
theorem s38_46 : wp K d 38 46 (a0 :: a1 :: a2 :: a3 :: .inl x :: L) st h Q = wp K d 38 48 (a0 :: a1 :: a2 :: a3 :: .inl x :: L) (.inl x :: st) h Q := w_iload (j := 4) rfl pt38 (show decode e38.b 46 = .ok (.iload 4, 2) by decide +kernel)
theorem s38_48 : wp K d 38 48 (a0 :: a1 :: a2 :: a3 :: a4 :: .inl x :: L) st h Q = wp K d 38 50 (a0 :: a1 :: a2 :: a3 :: a4 :: .inl x :: L) (.inl x :: st) h Q := w_iload (j := 5) rfl pt38 (show decode e38.b 48 = .ok (.iload 5, 2) by decide +kernel)
theorem s38_50 : wp K (d + 1) 38 50 L [.inl z3, .inl z2, .inl z1, .inr (.inr (.inl b0))] h Q = wp K d 39 0 [.inr (.inr (.inl b0)), .inl z1, .inl z2, .inl z3] [] h (fun r h' => wp K (d + 1) 38 53 L (r.toList ++ []) h' Q) := w_callS pt38 (show decode e38.b 50 = .ok (.invokestatic 28, 3) by decide +kernel) mr_3_28 pt39 rfl (by decide) (as := [.inl z3, .inl z2, .inl z1, .inr (.inr (.inl b0))]) (rest := []) rfl rfl (Nat.le_of_ble_eq_true rfl) (Or.inr rfl) (Nat.le_of_ble_eq_true rfl) rfl
theorem s38_53 : wp K d 38 53 L (.inl x :: st) h Q = if x ≠ 0 then wp K d 38 71 L st h Q else wp K d 38 56 L st h Q := w_ifne rfl pt38 (show decode e38.b 53 = .ok (.ifCond .ne (18), 3) by decide +kernel)
theorem s38_56 : wp K d 38 56 (a0 :: .inr (.inr (.inl a)) :: L) st h Q = wp K d 38 57 (a0 :: .inr (.inr (.inl a)) :: L) (.inr (.inr (.inl a)) :: st) h Q := w_aload_n (j := 1) rfl pt38 (show decode e38.b 56 = .ok (.aload_n 1, 1) by decide +kernel)
theorem s38_57 : wp K d 38 57 L (.inr (.inr (.inl a)) :: st) h Q = (isO K a 0 ∧ wp K d 38 60 L (.inr (.inr (.inl (rT K a 11))) :: st) h Q) := w_getR fr_3_25 (by decide) pt38 (show decode e38.b 57 = .ok (.getfield 25, 3) by decide +kernel)
theorem s38_60 : wp K d 38 60 (a0 :: a1 :: a2 :: .inl x :: L) st h Q = wp K d 38 61 (a0 :: a1 :: a2 :: .inl x :: L) (.inl x :: st) h Q := w_iload_n (j := 3) rfl pt38 (show decode e38.b 60 = .ok (.iload_n 3, 1) by decide +kernel)
theorem s38_61 : wp K d 38 61 (a0 :: a1 :: a2 :: a3 :: a4 :: .inl x :: L) st h Q = wp K d 38 63 (a0 :: a1 :: a2 :: a3 :: a4 :: .inl x :: L) (.inl x :: st) h Q := w_iload (j := 5) rfl pt38 (show decode e38.b 61 = .ok (.iload 5, 2) by decide +kernel)
theorem s38_63 : wp K d 38 63 (a0 :: a1 :: a2 :: a3 :: .inl x :: L) st h Q = wp K d 38 65 (a0 :: a1 :: a2 :: a3 :: .inl x :: L) (.inl x :: st) h Q := w_iload (j := 4) rfl pt38 (show decode e38.b 63 = .ok (.iload 4, 2) by decide +kernel)
theorem s38_65 : wp K (d + 1) 38 65 L [.inl z3, .inl z2, .inl z1, .inr (.inr (.inl b0))] h Q = wp K d 39 0 [.inr (.inr (.inl b0)), .inl z1, .inl z2, .inl z3] [] h (fun r h' => wp K (d + 1) 38 68 L (r.toList ++ []) h' Q) := w_callS pt38 (show decode e38.b 65 = .ok (.invokestatic 28, 3) by decide +kernel) mr_3_28 pt39 rfl (by decide) (as := [.inl z3, .inl z2, .inl z1, .inr (.inr (.inl b0))]) (rest := []) rfl rfl (Nat.le_of_ble_eq_true rfl) (Or.inr rfl) (Nat.le_of_ble_eq_true rfl) rfl
theorem s38_68 : wp K d 38 68 L (.inl x :: st) h Q = if x = 0 then wp K d 38 74 L st h Q else wp K d 38 71 L st h Q := w_ifeq rfl pt38 (show decode e38.b 68 = .ok (.ifCond .eq (6), 3) by decide +kernel)
theorem s38_71 : wp K d 38 71 (a0 :: a1 :: .inl x :: L) st h Q = wp K d 38 74 (a0 :: a1 :: .inl (w32 (x + (1))) :: L) st h Q := w_iinc (j := 2) (z := (1)) rfl (Or.inl rfl) (by decide) pt38 (show decode e38.b 71 = .ok (.iinc 2 (1), 3) by decide +kernel)
theorem s38_74 : wp K d 38 74 (a0 :: a1 :: a2 :: a3 :: a4 :: .inl x :: L) st h Q = wp K d 38 77 (a0 :: a1 :: a2 :: a3 :: a4 :: .inl (w32 (x + (1))) :: L) st h Q := w_iinc (j := 5) (z := (1)) rfl (Or.inl rfl) (by decide) pt38 (show decode e38.b 74 = .ok (.iinc 5 (1), 3) by decide +kernel)
theorem s38_77 : wp K d 38 77 L st h Q = wp K d 38 32 L st h Q := w_goto rfl pt38 (show decode e38.b 77 = .ok (.goto (-45), 3) by decide +kernel)
theorem s38_80 : wp K d 38 80 (a0 :: a1 :: a2 :: a3 :: .inl x :: L) st h Q = wp K d 38 83 (a0 :: a1 :: a2 :: a3 :: .inl (w32 (x + (1))) :: L) st h Q := w_iinc (j := 4) (z := (1)) rfl (Or.inl rfl) (by decide) pt38 (show decode e38.b 80 = .ok (.iinc 4 (1), 3) by decide +kernel)
theorem s38_83 : wp K d 38 83 L st h Q = wp K d 38 17 L st h Q := w_goto rfl pt38 (show decode e38.b 83 = .ok (.goto (-66), 3) by decide +kernel)
theorem s38_86 : wp K d 38 86 (a0 :: a1 :: a2 :: .inl x :: L) st h Q = wp K d 38 89 (a0 :: a1 :: a2 :: .inl (w32 (x + (1))) :: L) st h Q := w_iinc (j := 3) (z := (1)) rfl (Or.inl rfl) (by decide) pt38 (show decode e38.b 86 = .ok (.iinc 3 (1), 3) by decide +kernel)
theorem s38_89 : wp K d 38 89 L st h Q = wp K d 38 4 L st h Q := w_goto rfl pt38 (show decode e38.b 89 = .ok (.goto (-85), 3) by decide +kernel)
theorem s38_92 : wp K d 38 92 (a0 :: a1 :: .inl x :: L) st h Q = wp K d 38 93 (a0 :: a1 :: .inl x :: L) (.inl x :: st) h Q := w_iload_n (j := 2) rfl pt38 (show decode e38.b 92 = .ok (.iload_n 2, 1) by decide +kernel)
theorem s38_93 : wp K d 38 93 L [.inl x] h Q = Q (some (.inl x)) h := w_ireturn pt38 (show decode e38.b 93 = .ok (.ireturn, 1) by decide +kernel) rfl
theorem s39_0 : wp K d 39 0 (.inr (.inr (.inl a)) :: L) st h Q = wp K d 39 1 (.inr (.inr (.inl a)) :: L) (.inr (.inr (.inl a)) :: st) h Q := w_aload_n (j := 0) rfl pt39 (show decode e39.b 0 = .ok (.aload_n 0, 1) by decide +kernel)
theorem s39_1 : wp K d 39 1 (a0 :: .inl x :: L) st h Q = wp K d 39 2 (a0 :: .inl x :: L) (.inl x :: st) h Q := w_iload_n (j := 1) rfl pt39 (show decode e39.b 1 = .ok (.iload_n 1, 1) by decide +kernel)
theorem s39_2 : wp K d 39 2 L (.inl x :: .inr (.inr (.inl a)) :: st) h Q = ((0 ≤ x ∧ x < alen K h a) ∧ wp K d 39 3 L (.inl (h a x.toNat) :: st) h Q) := w_iaload pt39 (show decode e39.b 2 = .ok (.iaload, 1) by decide +kernel)
theorem s39_3 : wp K d 39 3 (a0 :: a1 :: .inl x :: L) st h Q = wp K d 39 4 (a0 :: a1 :: .inl x :: L) (.inl x :: st) h Q := w_iload_n (j := 2) rfl pt39 (show decode e39.b 3 = .ok (.iload_n 2, 1) by decide +kernel)
theorem s39_4 : wp K (d + 1) 39 4 L [.inl z1, .inl z0] h Q = wp K d 142 0 [.inl z0, .inl z1] [] h (fun r h' => wp K (d + 1) 39 7 L (r.toList ++ []) h' Q) := w_callS pt39 (show decode e39.b 4 = .ok (.invokestatic 32, 3) by decide +kernel) mr_3_32 pt142 rfl (by decide) (as := [.inl z1, .inl z0]) (rest := []) rfl rfl (Nat.le_of_ble_eq_true rfl) (Or.inr rfl) (Nat.le_of_ble_eq_true rfl) rfl
theorem s39_7 : wp K d 39 7 L (.inl x :: st) h Q = if x = 0 then wp K d 39 34 L st h Q else wp K d 39 10 L st h Q := w_ifeq rfl pt39 (show decode e39.b 7 = .ok (.ifCond .eq (27), 3) by decide +kernel)
theorem s39_10 : wp K d 39 10 (.inr (.inr (.inl a)) :: L) st h Q = wp K d 39 11 (.inr (.inr (.inl a)) :: L) (.inr (.inr (.inl a)) :: st) h Q := w_aload_n (j := 0) rfl pt39 (show decode e39.b 10 = .ok (.aload_n 0, 1) by decide +kernel)
theorem s39_11 : wp K d 39 11 (a0 :: a1 :: .inl x :: L) st h Q = wp K d 39 12 (a0 :: a1 :: .inl x :: L) (.inl x :: st) h Q := w_iload_n (j := 2) rfl pt39 (show decode e39.b 11 = .ok (.iload_n 2, 1) by decide +kernel)
theorem s39_12 : wp K d 39 12 L (.inl x :: .inr (.inr (.inl a)) :: st) h Q = ((0 ≤ x ∧ x < alen K h a) ∧ wp K d 39 13 L (.inl (h a x.toNat) :: st) h Q) := w_iaload pt39 (show decode e39.b 12 = .ok (.iaload, 1) by decide +kernel)
theorem s39_13 : wp K d 39 13 (a0 :: a1 :: a2 :: .inl x :: L) st h Q = wp K d 39 14 (a0 :: a1 :: a2 :: .inl x :: L) (.inl x :: st) h Q := w_iload_n (j := 3) rfl pt39 (show decode e39.b 13 = .ok (.iload_n 3, 1) by decide +kernel)
theorem s39_14 : wp K (d + 1) 39 14 L [.inl z1, .inl z0] h Q = wp K d 142 0 [.inl z0, .inl z1] [] h (fun r h' => wp K (d + 1) 39 17 L (r.toList ++ []) h' Q) := w_callS pt39 (show decode e39.b 14 = .ok (.invokestatic 32, 3) by decide +kernel) mr_3_32 pt142 rfl (by decide) (as := [.inl z1, .inl z0]) (rest := []) rfl rfl (Nat.le_of_ble_eq_true rfl) (Or.inr rfl) (Nat.le_of_ble_eq_true rfl) rfl
theorem s39_17 : wp K d 39 17 L (.inl x :: st) h Q = if x = 0 then wp K d 39 34 L st h Q else wp K d 39 20 L st h Q := w_ifeq rfl pt39 (show decode e39.b 17 = .ok (.ifCond .eq (17), 3) by decide +kernel)
theorem s39_20 : wp K d 39 20 (.inr (.inr (.inl a)) :: L) st h Q = wp K d 39 21 (.inr (.inr (.inl a)) :: L) (.inr (.inr (.inl a)) :: st) h Q := w_aload_n (j := 0) rfl pt39 (show decode e39.b 20 = .ok (.aload_n 0, 1) by decide +kernel)
theorem s39_21 : wp K d 39 21 (a0 :: a1 :: a2 :: .inl x :: L) st h Q = wp K d 39 22 (a0 :: a1 :: a2 :: .inl x :: L) (.inl x :: st) h Q := w_iload_n (j := 3) rfl pt39 (show decode e39.b 21 = .ok (.iload_n 3, 1) by decide +kernel)
theorem s39_22 : wp K d 39 22 L (.inl x :: .inr (.inr (.inl a)) :: st) h Q = ((0 ≤ x ∧ x < alen K h a) ∧ wp K d 39 23 L (.inl (h a x.toNat) :: st) h Q) := w_iaload pt39 (show decode e39.b 22 = .ok (.iaload, 1) by decide +kernel)
theorem s39_23 : wp K d 39 23 (a0 :: .inl x :: L) st h Q = wp K d 39 24 (a0 :: .inl x :: L) (.inl x :: st) h Q := w_iload_n (j := 1) rfl pt39 (show decode e39.b 23 = .ok (.iload_n 1, 1) by decide +kernel)
theorem s39_24 : wp K (d + 1) 39 24 L [.inl z1, .inl z0] h Q = wp K d 142 0 [.inl z0, .inl z1] [] h (fun r h' => wp K (d + 1) 39 27 L (r.toList ++ []) h' Q) := w_callS pt39 (show decode e39.b 24 = .ok (.invokestatic 32, 3) by decide +kernel) mr_3_32 pt142 rfl (by decide) (as := [.inl z1, .inl z0]) (rest := []) rfl rfl (Nat.le_of_ble_eq_true rfl) (Or.inr rfl) (Nat.le_of_ble_eq_true rfl) rfl
theorem s39_27 : wp K d 39 27 L (.inl x :: st) h Q = if x = 0 then wp K d 39 34 L st h Q else wp K d 39 30 L st h Q := w_ifeq rfl pt39 (show decode e39.b 27 = .ok (.ifCond .eq (7), 3) by decide +kernel)
theorem s39_30 : wp K d 39 30 L st h Q = wp K d 39 31 L (.inl (1) :: st) h Q := w_iconst (z := (1)) (by decide) pt39 (show decode e39.b 30 = .ok (.iconst (1), 1) by decide +kernel)
theorem s39_31 : wp K d 39 31 L st h Q = wp K d 39 35 L st h Q := w_goto rfl pt39 (show decode e39.b 31 = .ok (.goto (4), 3) by decide +kernel)
theorem s39_34 : wp K d 39 34 L st h Q = wp K d 39 35 L (.inl (0) :: st) h Q := w_iconst (z := (0)) (by decide) pt39 (show decode e39.b 34 = .ok (.iconst (0), 1) by decide +kernel)
theorem s39_35 : wp K d 39 35 L [.inl x] h Q = ((x = 0 ∨ x = 1) ∧ Q (some (.inl x)) h) := w_zreturn pt39 (show decode e39.b 35 = .ok (.ireturn, 1) by decide +kernel) rfl
theorem s40_0 : wp K d 40 0 (.inr (.inr (.inl a)) :: L) st h Q = wp K d 40 1 (.inr (.inr (.inl a)) :: L) (.inr (.inr (.inl a)) :: st) h Q := w_aload_n (j := 0) rfl pt40 (show decode e40.b 0 = .ok (.aload_n 0, 1) by decide +kernel)
theorem s40_1 : wp K d 40 1 (a0 :: .inr (.inr (.inl a)) :: L) st h Q = wp K d 40 2 (a0 :: .inr (.inr (.inl a)) :: L) (.inr (.inr (.inl a)) :: st) h Q := w_aload_n (j := 1) rfl pt40 (show decode e40.b 1 = .ok (.aload_n 1, 1) by decide +kernel)
theorem s40_2 : wp K d 40 2 L (.inr (.inr (.inl a)) :: st) h Q = (isO K a 0 ∧ wp K d 40 5 L (.inl (h a 0) :: st) h Q) := w_getI fr_3_22 (by decide) pt40 (show decode e40.b 2 = .ok (.getfield 22, 3) by decide +kernel)
theorem s40_5 : wp K d 40 5 L (.inl x :: .inr (.inr (.inl a)) :: st) h Q = (isO K a 2 ∧ wp K d 40 8 L st (hput h a 0 x) Q) := w_putI fr_3_9 (by decide) (by decide) pt40 (show decode e40.b 5 = .ok (.putfield 9, 3) by decide +kernel)
theorem s40_8 : wp K d 40 8 L st h Q = wp K d 40 9 L (.inl (0) :: st) h Q := w_iconst (z := (0)) (by decide) pt40 (show decode e40.b 8 = .ok (.iconst (0), 1) by decide +kernel)
theorem s40_9 : wp K d 40 9 (a0 :: a1 :: w :: L) (.inl x :: st) h Q = wp K d 40 10 (a0 :: a1 :: .inl x :: L) st h Q := w_istore_n (j := 2) (ll2 ..) (Or.inl rfl) pt40 (show decode e40.b 9 = .ok (.istore_n 2, 1) by decide +kernel)
theorem s40_10 : wp K d 40 10 (a0 :: a1 :: .inl x :: L) st h Q = wp K d 40 11 (a0 :: a1 :: .inl x :: L) (.inl x :: st) h Q := w_iload_n (j := 2) rfl pt40 (show decode e40.b 10 = .ok (.iload_n 2, 1) by decide +kernel)
theorem s40_11 : wp K d 40 11 (.inr (.inr (.inl a)) :: L) st h Q = wp K d 40 12 (.inr (.inr (.inl a)) :: L) (.inr (.inr (.inl a)) :: st) h Q := w_aload_n (j := 0) rfl pt40 (show decode e40.b 11 = .ok (.aload_n 0, 1) by decide +kernel)
theorem s40_12 : wp K d 40 12 L (.inr (.inr (.inl a)) :: st) h Q = (isO K a 2 ∧ wp K d 40 15 L (.inl (h a 0) :: st) h Q) := w_getI fr_3_9 (by decide) pt40 (show decode e40.b 12 = .ok (.getfield 9, 3) by decide +kernel)
theorem s40_15 : wp K d 40 15 L (.inl y :: .inl x :: st) h Q = if y ≤ x then wp K d 40 72 L st h Q else wp K d 40 18 L st h Q := w_icmpge rfl pt40 (show decode e40.b 15 = .ok (.if_icmp .ge (57), 3) by decide +kernel)
theorem s40_18 : wp K d 40 18 (.inr (.inr (.inl a)) :: L) st h Q = wp K d 40 19 (.inr (.inr (.inl a)) :: L) (.inr (.inr (.inl a)) :: st) h Q := w_aload_n (j := 0) rfl pt40 (show decode e40.b 18 = .ok (.aload_n 0, 1) by decide +kernel)
theorem s40_19 : wp K d 40 19 L (.inr (.inr (.inl a)) :: st) h Q = (isO K a 2 ∧ wp K d 40 22 L (.inr (.inr (.inl (rT K a 1))) :: st) h Q) := w_getR fr_3_15 (by decide) pt40 (show decode e40.b 19 = .ok (.getfield 15, 3) by decide +kernel)
theorem s40_22 : wp K d 40 22 (a0 :: a1 :: .inl x :: L) st h Q = wp K d 40 23 (a0 :: a1 :: .inl x :: L) (.inl x :: st) h Q := w_iload_n (j := 2) rfl pt40 (show decode e40.b 22 = .ok (.iload_n 2, 1) by decide +kernel)
theorem s40_23 : wp K d 40 23 L st h Q = wp K d 40 24 L (.inl (0) :: st) h Q := w_iconst (z := (0)) (by decide) pt40 (show decode e40.b 23 = .ok (.iconst (0), 1) by decide +kernel)
theorem s40_24 : wp K d 40 24 L (.inl y :: .inl x :: .inr (.inr (.inl a)) :: st) h Q = ((0 ≤ x ∧ x < aln K a) ∧ wp K d 40 25 L st (hput h a x.toNat y) Q) := w_iastore pt40 (show decode e40.b 24 = .ok (.iastore, 1) by decide +kernel)
theorem s40_25 : wp K d 40 25 L st h Q = wp K d 40 26 L (.inl (0) :: st) h Q := w_iconst (z := (0)) (by decide) pt40 (show decode e40.b 25 = .ok (.iconst (0), 1) by decide +kernel)
theorem s40_26 : wp K d 40 26 (a0 :: a1 :: a2 :: w :: L) (.inl x :: st) h Q = wp K d 40 27 (a0 :: a1 :: a2 :: .inl x :: L) st h Q := w_istore_n (j := 3) (ll3 ..) (Or.inl rfl) pt40 (show decode e40.b 26 = .ok (.istore_n 3, 1) by decide +kernel)
theorem s40_27 : wp K d 40 27 (a0 :: a1 :: a2 :: .inl x :: L) st h Q = wp K d 40 28 (a0 :: a1 :: a2 :: .inl x :: L) (.inl x :: st) h Q := w_iload_n (j := 3) rfl pt40 (show decode e40.b 27 = .ok (.iload_n 3, 1) by decide +kernel)
theorem s40_28 : wp K d 40 28 (.inr (.inr (.inl a)) :: L) st h Q = wp K d 40 29 (.inr (.inr (.inl a)) :: L) (.inr (.inr (.inl a)) :: st) h Q := w_aload_n (j := 0) rfl pt40 (show decode e40.b 28 = .ok (.aload_n 0, 1) by decide +kernel)
theorem s40_29 : wp K d 40 29 L (.inr (.inr (.inl a)) :: st) h Q = (isO K a 2 ∧ wp K d 40 32 L (.inl (h a 0) :: st) h Q) := w_getI fr_3_9 (by decide) pt40 (show decode e40.b 29 = .ok (.getfield 9, 3) by decide +kernel)
theorem s40_32 : wp K d 40 32 L (.inl y :: .inl x :: st) h Q = if y ≤ x then wp K d 40 66 L st h Q else wp K d 40 35 L st h Q := w_icmpge rfl pt40 (show decode e40.b 32 = .ok (.if_icmp .ge (34), 3) by decide +kernel)
theorem s40_35 : wp K d 40 35 (a0 :: .inr (.inr (.inl a)) :: L) st h Q = wp K d 40 36 (a0 :: .inr (.inr (.inl a)) :: L) (.inr (.inr (.inl a)) :: st) h Q := w_aload_n (j := 1) rfl pt40 (show decode e40.b 35 = .ok (.aload_n 1, 1) by decide +kernel)
theorem s40_36 : wp K d 40 36 L (.inr (.inr (.inl a)) :: st) h Q = (isO K a 0 ∧ wp K d 40 39 L (.inr (.inr (.inl (rT K a 11))) :: st) h Q) := w_getR fr_3_25 (by decide) pt40 (show decode e40.b 36 = .ok (.getfield 25, 3) by decide +kernel)
theorem s40_39 : wp K d 40 39 (a0 :: a1 :: a2 :: .inl x :: L) st h Q = wp K d 40 40 (a0 :: a1 :: a2 :: .inl x :: L) (.inl x :: st) h Q := w_iload_n (j := 3) rfl pt40 (show decode e40.b 39 = .ok (.iload_n 3, 1) by decide +kernel)
theorem s40_40 : wp K d 40 40 L (.inl x :: .inr (.inr (.inl a)) :: st) h Q = ((0 ≤ x ∧ x < alen K h a) ∧ wp K d 40 41 L (.inl (h a x.toNat) :: st) h Q) := w_iaload pt40 (show decode e40.b 40 = .ok (.iaload, 1) by decide +kernel)
theorem s40_41 : wp K d 40 41 (a0 :: a1 :: .inl x :: L) st h Q = wp K d 40 42 (a0 :: a1 :: .inl x :: L) (.inl x :: st) h Q := w_iload_n (j := 2) rfl pt40 (show decode e40.b 41 = .ok (.iload_n 2, 1) by decide +kernel)
theorem s40_42 : wp K (d + 1) 40 42 L [.inl z1, .inl z0] h Q = wp K d 142 0 [.inl z0, .inl z1] [] h (fun r h' => wp K (d + 1) 40 45 L (r.toList ++ []) h' Q) := w_callS pt40 (show decode e40.b 42 = .ok (.invokestatic 32, 3) by decide +kernel) mr_3_32 pt142 rfl (by decide) (as := [.inl z1, .inl z0]) (rest := []) rfl rfl (Nat.le_of_ble_eq_true rfl) (Or.inr rfl) (Nat.le_of_ble_eq_true rfl) rfl
theorem s40_45 : wp K d 40 45 L (.inl x :: st) h Q = if x = 0 then wp K d 40 60 L st h Q else wp K d 40 48 L st h Q := w_ifeq rfl pt40 (show decode e40.b 45 = .ok (.ifCond .eq (15), 3) by decide +kernel)
theorem s40_48 : wp K d 40 48 (.inr (.inr (.inl a)) :: L) st h Q = wp K d 40 49 (.inr (.inr (.inl a)) :: L) (.inr (.inr (.inl a)) :: st) h Q := w_aload_n (j := 0) rfl pt40 (show decode e40.b 48 = .ok (.aload_n 0, 1) by decide +kernel)
theorem s40_49 : wp K d 40 49 L (.inr (.inr (.inl a)) :: st) h Q = (isO K a 2 ∧ wp K d 40 52 L (.inr (.inr (.inl (rT K a 1))) :: st) h Q) := w_getR fr_3_15 (by decide) pt40 (show decode e40.b 49 = .ok (.getfield 15, 3) by decide +kernel)
theorem s40_52 : wp K d 40 52 (a0 :: a1 :: .inl x :: L) st h Q = wp K d 40 53 (a0 :: a1 :: .inl x :: L) (.inl x :: st) h Q := w_iload_n (j := 2) rfl pt40 (show decode e40.b 52 = .ok (.iload_n 2, 1) by decide +kernel)
theorem s40_53 : wp K d 40 53 L (.inl x :: .inr (.inr (.inl b)) :: st) h Q = wp K d 40 54 L (.inl x :: .inr (.inr (.inl b)) :: .inl x :: .inr (.inr (.inl b)) :: st) h Q := w_dup2 rfl rfl pt40 (show decode e40.b 53 = .ok (.dup2, 1) by decide +kernel)
theorem s40_54 : wp K d 40 54 L (.inl x :: .inr (.inr (.inl a)) :: st) h Q = ((0 ≤ x ∧ x < alen K h a) ∧ wp K d 40 55 L (.inl (h a x.toNat) :: st) h Q) := w_iaload pt40 (show decode e40.b 54 = .ok (.iaload, 1) by decide +kernel)
theorem s40_55 : wp K d 40 55 L st h Q = wp K d 40 56 L (.inl (1) :: st) h Q := w_iconst (z := (1)) (by decide) pt40 (show decode e40.b 55 = .ok (.iconst (1), 1) by decide +kernel)
theorem s40_56 : wp K d 40 56 (a0 :: a1 :: a2 :: .inl x :: L) st h Q = wp K d 40 57 (a0 :: a1 :: a2 :: .inl x :: L) (.inl x :: st) h Q := w_iload_n (j := 3) rfl pt40 (show decode e40.b 56 = .ok (.iload_n 3, 1) by decide +kernel)
theorem s40_57 : wp K d 40 57 L (.inl y :: .inl x :: st) h Q = ((0 ≤ y ∧ y < 32) ∧ wp K d 40 58 L (.inl (w32 (x * 2 ^ y.toNat)) :: st) h Q) := w_ishl pt40 (show decode e40.b 57 = .ok (.ishl, 1) by decide +kernel)
theorem s40_58 : wp K d 40 58 L (.inl y :: .inl x :: st) h Q = wp K d 40 59 L (.inl (bOr x y) :: st) h Q := w_ior pt40 (show decode e40.b 58 = .ok (.ior, 1) by decide +kernel)
theorem s40_59 : wp K d 40 59 L (.inl y :: .inl x :: .inr (.inr (.inl a)) :: st) h Q = ((0 ≤ x ∧ x < aln K a) ∧ wp K d 40 60 L st (hput h a x.toNat y) Q) := w_iastore pt40 (show decode e40.b 59 = .ok (.iastore, 1) by decide +kernel)
theorem s40_60 : wp K d 40 60 (a0 :: a1 :: a2 :: .inl x :: L) st h Q = wp K d 40 63 (a0 :: a1 :: a2 :: .inl (w32 (x + (1))) :: L) st h Q := w_iinc (j := 3) (z := (1)) rfl (Or.inl rfl) (by decide) pt40 (show decode e40.b 60 = .ok (.iinc 3 (1), 3) by decide +kernel)
theorem s40_63 : wp K d 40 63 L st h Q = wp K d 40 27 L st h Q := w_goto rfl pt40 (show decode e40.b 63 = .ok (.goto (-36), 3) by decide +kernel)
theorem s40_66 : wp K d 40 66 (a0 :: a1 :: .inl x :: L) st h Q = wp K d 40 69 (a0 :: a1 :: .inl (w32 (x + (1))) :: L) st h Q := w_iinc (j := 2) (z := (1)) rfl (Or.inl rfl) (by decide) pt40 (show decode e40.b 66 = .ok (.iinc 2 (1), 3) by decide +kernel)
theorem s40_69 : wp K d 40 69 L st h Q = wp K d 40 10 L st h Q := w_goto rfl pt40 (show decode e40.b 69 = .ok (.goto (-59), 3) by decide +kernel)
theorem s40_72 : wp K d 40 72 L st h Q = wp K d 40 73 L (.inl (1) :: st) h Q := w_iconst (z := (1)) (by decide) pt40 (show decode e40.b 72 = .ok (.iconst (1), 1) by decide +kernel)
theorem s40_73 : wp K d 40 73 (.inr (.inr (.inl a)) :: L) st h Q = wp K d 40 74 (.inr (.inr (.inl a)) :: L) (.inr (.inr (.inl a)) :: st) h Q := w_aload_n (j := 0) rfl pt40 (show decode e40.b 73 = .ok (.aload_n 0, 1) by decide +kernel)
theorem s40_74 : wp K d 40 74 L (.inr (.inr (.inl a)) :: st) h Q = (isO K a 2 ∧ wp K d 40 77 L (.inl (h a 0) :: st) h Q) := w_getI fr_3_9 (by decide) pt40 (show decode e40.b 74 = .ok (.getfield 9, 3) by decide +kernel)
theorem s40_77 : wp K d 40 77 L (.inl y :: .inl x :: st) h Q = ((0 ≤ y ∧ y < 32) ∧ wp K d 40 78 L (.inl (w32 (x * 2 ^ y.toNat)) :: st) h Q) := w_ishl pt40 (show decode e40.b 77 = .ok (.ishl, 1) by decide +kernel)
theorem s40_78 : wp K d 40 78 L st h Q = wp K d 40 79 L (.inl (1) :: st) h Q := w_iconst (z := (1)) (by decide) pt40 (show decode e40.b 78 = .ok (.iconst (1), 1) by decide +kernel)
theorem s40_79 : wp K d 40 79 L (.inl y :: .inl x :: st) h Q = wp K d 40 80 L (.inl (w32 (x - y)) :: st) h Q := w_isub pt40 (show decode e40.b 79 = .ok (.isub, 1) by decide +kernel)
theorem s40_80 : wp K d 40 80 (a0 :: a1 :: w :: L) (.inl x :: st) h Q = wp K d 40 81 (a0 :: a1 :: .inl x :: L) st h Q := w_istore_n (j := 2) (ll2 ..) (Or.inl rfl) pt40 (show decode e40.b 80 = .ok (.istore_n 2, 1) by decide +kernel)
theorem s40_81 : wp K d 40 81 (.inr (.inr (.inl a)) :: L) st h Q = wp K d 40 82 (.inr (.inr (.inl a)) :: L) (.inr (.inr (.inl a)) :: st) h Q := w_aload_n (j := 0) rfl pt40 (show decode e40.b 81 = .ok (.aload_n 0, 1) by decide +kernel)
theorem s40_82 : wp K d 40 82 L (.inr (.inr (.inl a)) :: st) h Q = (isO K a 2 ∧ wp K d 40 85 L (.inr (.inr (.inl (rT K a 2))) :: st) h Q) := w_getR fr_3_19 (by decide) pt40 (show decode e40.b 82 = .ok (.getfield 19, 3) by decide +kernel)
theorem s40_85 : wp K d 40 85 (a0 :: a1 :: .inl x :: L) st h Q = wp K d 40 86 (a0 :: a1 :: .inl x :: L) (.inl x :: st) h Q := w_iload_n (j := 2) rfl pt40 (show decode e40.b 85 = .ok (.iload_n 2, 1) by decide +kernel)
theorem s40_86 : wp K d 40 86 L st h Q = wp K d 40 87 L (.inl (0) :: st) h Q := w_iconst (z := (0)) (by decide) pt40 (show decode e40.b 86 = .ok (.iconst (0), 1) by decide +kernel)
theorem s40_87 : wp K d 40 87 L (.inl y :: .inl x :: .inr (.inr (.inl a)) :: st) h Q = ((0 ≤ x ∧ x < aln K a) ∧ wp K d 40 88 L st (hput h a x.toNat y) Q) := w_iastore pt40 (show decode e40.b 87 = .ok (.iastore, 1) by decide +kernel)
theorem s40_88 : wp K d 40 88 (a0 :: a1 :: .inl x :: L) st h Q = wp K d 40 89 (a0 :: a1 :: .inl x :: L) (.inl x :: st) h Q := w_iload_n (j := 2) rfl pt40 (show decode e40.b 88 = .ok (.iload_n 2, 1) by decide +kernel)
theorem s40_89 : wp K d 40 89 L st h Q = wp K d 40 90 L (.inl (1) :: st) h Q := w_iconst (z := (1)) (by decide) pt40 (show decode e40.b 89 = .ok (.iconst (1), 1) by decide +kernel)
theorem s40_90 : wp K d 40 90 L (.inl y :: .inl x :: st) h Q = wp K d 40 91 L (.inl (w32 (x - y)) :: st) h Q := w_isub pt40 (show decode e40.b 90 = .ok (.isub, 1) by decide +kernel)
theorem s40_91 : wp K d 40 91 (a0 :: a1 :: a2 :: w :: L) (.inl x :: st) h Q = wp K d 40 92 (a0 :: a1 :: a2 :: .inl x :: L) st h Q := w_istore_n (j := 3) (ll3 ..) (Or.inl rfl) pt40 (show decode e40.b 91 = .ok (.istore_n 3, 1) by decide +kernel)
theorem s40_92 : wp K d 40 92 (a0 :: a1 :: a2 :: .inl x :: L) st h Q = wp K d 40 93 (a0 :: a1 :: a2 :: .inl x :: L) (.inl x :: st) h Q := w_iload_n (j := 3) rfl pt40 (show decode e40.b 92 = .ok (.iload_n 3, 1) by decide +kernel)
theorem s40_93 : wp K d 40 93 L (.inl x :: st) h Q = if x < 0 then wp K d 40 159 L st h Q else wp K d 40 96 L st h Q := w_iflt rfl pt40 (show decode e40.b 93 = .ok (.ifCond .lt (66), 3) by decide +kernel)
theorem s40_96 : wp K d 40 96 (.inr (.inr (.inl a)) :: L) st h Q = wp K d 40 97 (.inr (.inr (.inl a)) :: L) (.inr (.inr (.inl a)) :: st) h Q := w_aload_n (j := 0) rfl pt40 (show decode e40.b 96 = .ok (.aload_n 0, 1) by decide +kernel)
theorem s40_97 : wp K d 40 97 L (.inr (.inr (.inl a)) :: st) h Q = (isO K a 2 ∧ wp K d 40 100 L (.inr (.inr (.inl (rT K a 2))) :: st) h Q) := w_getR fr_3_19 (by decide) pt40 (show decode e40.b 97 = .ok (.getfield 19, 3) by decide +kernel)
theorem s40_100 : wp K d 40 100 (a0 :: a1 :: a2 :: .inl x :: L) st h Q = wp K d 40 101 (a0 :: a1 :: a2 :: .inl x :: L) (.inl x :: st) h Q := w_iload_n (j := 3) rfl pt40 (show decode e40.b 100 = .ok (.iload_n 3, 1) by decide +kernel)
theorem s40_101 : wp K d 40 101 L st h Q = wp K d 40 103 L (.inl (64) :: st) h Q := w_bipush (z := (64)) (by decide) pt40 (show decode e40.b 101 = .ok (.bipush (64), 2) by decide +kernel)
theorem s40_103 : wp K d 40 103 L (.inl y :: .inl x :: .inr (.inr (.inl a)) :: st) h Q = ((0 ≤ x ∧ x < aln K a) ∧ wp K d 40 104 L st (hput h a x.toNat y) Q) := w_iastore pt40 (show decode e40.b 103 = .ok (.iastore, 1) by decide +kernel)
theorem s40_104 : wp K d 40 104 L st h Q = wp K d 40 105 L (.inl (0) :: st) h Q := w_iconst (z := (0)) (by decide) pt40 (show decode e40.b 104 = .ok (.iconst (0), 1) by decide +kernel)
theorem s40_105 : wp K d 40 105 (a0 :: a1 :: a2 :: a3 :: w :: L) (.inl x :: st) h Q = wp K d 40 107 (a0 :: a1 :: a2 :: a3 :: .inl x :: L) st h Q := w_istore (j := 4) (ll4 ..) (Or.inl rfl) pt40 (show decode e40.b 105 = .ok (.istore 4, 2) by decide +kernel)
theorem s40_107 : wp K d 40 107 (a0 :: a1 :: a2 :: a3 :: .inl x :: L) st h Q = wp K d 40 109 (a0 :: a1 :: a2 :: a3 :: .inl x :: L) (.inl x :: st) h Q := w_iload (j := 4) rfl pt40 (show decode e40.b 107 = .ok (.iload 4, 2) by decide +kernel)
theorem s40_109 : wp K d 40 109 (.inr (.inr (.inl a)) :: L) st h Q = wp K d 40 110 (.inr (.inr (.inl a)) :: L) (.inr (.inr (.inl a)) :: st) h Q := w_aload_n (j := 0) rfl pt40 (show decode e40.b 109 = .ok (.aload_n 0, 1) by decide +kernel)
theorem s40_110 : wp K d 40 110 L (.inr (.inr (.inl a)) :: st) h Q = (isO K a 2 ∧ wp K d 40 113 L (.inl (h a 0) :: st) h Q) := w_getI fr_3_9 (by decide) pt40 (show decode e40.b 110 = .ok (.getfield 9, 3) by decide +kernel)
theorem s40_113 : wp K d 40 113 L (.inl y :: .inl x :: st) h Q = if y ≤ x then wp K d 40 153 L st h Q else wp K d 40 116 L st h Q := w_icmpge rfl pt40 (show decode e40.b 113 = .ok (.if_icmp .ge (40), 3) by decide +kernel)
theorem s40_116 : wp K d 40 116 (a0 :: a1 :: a2 :: .inl x :: L) st h Q = wp K d 40 117 (a0 :: a1 :: a2 :: .inl x :: L) (.inl x :: st) h Q := w_iload_n (j := 3) rfl pt40 (show decode e40.b 116 = .ok (.iload_n 3, 1) by decide +kernel)
theorem s40_117 : wp K d 40 117 (a0 :: a1 :: a2 :: a3 :: .inl x :: L) st h Q = wp K d 40 119 (a0 :: a1 :: a2 :: a3 :: .inl x :: L) (.inl x :: st) h Q := w_iload (j := 4) rfl pt40 (show decode e40.b 117 = .ok (.iload 4, 2) by decide +kernel)
theorem s40_119 : wp K (d + 1) 40 119 L [.inl z1, .inl z0] h Q = wp K d 142 0 [.inl z0, .inl z1] [] h (fun r h' => wp K (d + 1) 40 122 L (r.toList ++ []) h' Q) := w_callS pt40 (show decode e40.b 119 = .ok (.invokestatic 32, 3) by decide +kernel) mr_3_32 pt142 rfl (by decide) (as := [.inl z1, .inl z0]) (rest := []) rfl rfl (Nat.le_of_ble_eq_true rfl) (Or.inr rfl) (Nat.le_of_ble_eq_true rfl) rfl
theorem s40_122 : wp K d 40 122 L (.inl x :: st) h Q = if x ≠ 0 then wp K d 40 147 L st h Q else wp K d 40 125 L st h Q := w_ifne rfl pt40 (show decode e40.b 122 = .ok (.ifCond .ne (25), 3) by decide +kernel)
theorem s40_125 : wp K d 40 125 (.inr (.inr (.inl a)) :: L) st h Q = wp K d 40 126 (.inr (.inr (.inl a)) :: L) (.inr (.inr (.inl a)) :: st) h Q := w_aload_n (j := 0) rfl pt40 (show decode e40.b 125 = .ok (.aload_n 0, 1) by decide +kernel)
theorem s40_126 : wp K d 40 126 L (.inr (.inr (.inl a)) :: st) h Q = (isO K a 2 ∧ wp K d 40 129 L (.inr (.inr (.inl (rT K a 2))) :: st) h Q) := w_getR fr_3_19 (by decide) pt40 (show decode e40.b 126 = .ok (.getfield 19, 3) by decide +kernel)
theorem s40_129 : wp K d 40 129 (a0 :: a1 :: a2 :: .inl x :: L) st h Q = wp K d 40 130 (a0 :: a1 :: a2 :: .inl x :: L) (.inl x :: st) h Q := w_iload_n (j := 3) rfl pt40 (show decode e40.b 129 = .ok (.iload_n 3, 1) by decide +kernel)
theorem s40_130 : wp K d 40 130 (.inr (.inr (.inl a)) :: L) st h Q = wp K d 40 131 (.inr (.inr (.inl a)) :: L) (.inr (.inr (.inl a)) :: st) h Q := w_aload_n (j := 0) rfl pt40 (show decode e40.b 130 = .ok (.aload_n 0, 1) by decide +kernel)
theorem s40_131 : wp K d 40 131 L (.inr (.inr (.inl a)) :: st) h Q = (isO K a 2 ∧ wp K d 40 134 L (.inr (.inr (.inl (rT K a 2))) :: st) h Q) := w_getR fr_3_19 (by decide) pt40 (show decode e40.b 131 = .ok (.getfield 19, 3) by decide +kernel)
theorem s40_134 : wp K d 40 134 (a0 :: a1 :: a2 :: .inl x :: L) st h Q = wp K d 40 135 (a0 :: a1 :: a2 :: .inl x :: L) (.inl x :: st) h Q := w_iload_n (j := 3) rfl pt40 (show decode e40.b 134 = .ok (.iload_n 3, 1) by decide +kernel)
theorem s40_135 : wp K d 40 135 L (.inl x :: .inr (.inr (.inl a)) :: st) h Q = ((0 ≤ x ∧ x < alen K h a) ∧ wp K d 40 136 L (.inl (h a x.toNat) :: st) h Q) := w_iaload pt40 (show decode e40.b 135 = .ok (.iaload, 1) by decide +kernel)
theorem s40_136 : wp K d 40 136 (.inr (.inr (.inl a)) :: L) st h Q = wp K d 40 137 (.inr (.inr (.inl a)) :: L) (.inr (.inr (.inl a)) :: st) h Q := w_aload_n (j := 0) rfl pt40 (show decode e40.b 136 = .ok (.aload_n 0, 1) by decide +kernel)
theorem s40_137 : wp K d 40 137 (a0 :: a1 :: a2 :: .inl x :: L) st h Q = wp K d 40 138 (a0 :: a1 :: a2 :: .inl x :: L) (.inl x :: st) h Q := w_iload_n (j := 3) rfl pt40 (show decode e40.b 137 = .ok (.iload_n 3, 1) by decide +kernel)
theorem s40_138 : wp K d 40 138 (a0 :: a1 :: a2 :: a3 :: .inl x :: L) st h Q = wp K d 40 140 (a0 :: a1 :: a2 :: a3 :: .inl x :: L) (.inl x :: st) h Q := w_iload (j := 4) rfl pt40 (show decode e40.b 138 = .ok (.iload 4, 2) by decide +kernel)
theorem s40_140 : wp K (d + 1) 40 140 L [.inl z1, .inl z0, .inr (.inr (.inl a)), w0, w1, w2] h Q = (isO K a 2 ∧ wp K d 41 0 [.inr (.inr (.inl a)), .inl z0, .inl z1] [] h (fun r h' => wp K (d + 1) 40 143 L (r.toList ++ [w0, w1, w2]) h' Q)) := w_callV pt40 (show decode e40.b 140 = .ok (.invokevirtual 36, 3) by decide +kernel) mr_3_36 pt41 rfl rfl (as := [.inl z1, .inl z0]) (rest := [w0, w1, w2]) rfl rfl (Nat.le_of_ble_eq_true rfl) rfl (by decide) rfl
theorem s40_143 : wp K d 40 143 L [.inl y, .inl x, w0, w1] h Q = wp K d 40 146 L [.inl (if y < x then y else x), w0, w1] h Q := w_min2 (w := w0) (v := w1) mr_3_40 pt40 (show decode e40.b 143 = .ok (.invokestatic 40, 3) by decide +kernel)
theorem s40_146 : wp K d 40 146 L (.inl y :: .inl x :: .inr (.inr (.inl a)) :: st) h Q = ((0 ≤ x ∧ x < aln K a) ∧ wp K d 40 147 L st (hput h a x.toNat y) Q) := w_iastore pt40 (show decode e40.b 146 = .ok (.iastore, 1) by decide +kernel)
theorem s40_147 : wp K d 40 147 (a0 :: a1 :: a2 :: a3 :: .inl x :: L) st h Q = wp K d 40 150 (a0 :: a1 :: a2 :: a3 :: .inl (w32 (x + (1))) :: L) st h Q := w_iinc (j := 4) (z := (1)) rfl (Or.inl rfl) (by decide) pt40 (show decode e40.b 147 = .ok (.iinc 4 (1), 3) by decide +kernel)
theorem s40_150 : wp K d 40 150 L st h Q = wp K d 40 107 L st h Q := w_goto rfl pt40 (show decode e40.b 150 = .ok (.goto (-43), 3) by decide +kernel)
theorem s40_153 : wp K d 40 153 (a0 :: a1 :: a2 :: .inl x :: L) st h Q = wp K d 40 156 (a0 :: a1 :: a2 :: .inl (w32 (x + (-1))) :: L) st h Q := w_iinc (j := 3) (z := (-1)) rfl (Or.inl rfl) (by decide) pt40 (show decode e40.b 153 = .ok (.iinc 3 (-1), 3) by decide +kernel)
theorem s40_156 : wp K d 40 156 L st h Q = wp K d 40 92 L st h Q := w_goto rfl pt40 (show decode e40.b 156 = .ok (.goto (-64), 3) by decide +kernel)
theorem s40_159 : wp K d 40 159 L [] h Q = Q none h := w_return pt40 (show decode e40.b 159 = .ok (.return_, 1) by decide +kernel) rfl
theorem s41_0 : wp K d 41 0 (.inr (.inr (.inl a)) :: L) st h Q = wp K d 41 1 (.inr (.inr (.inl a)) :: L) (.inr (.inr (.inl a)) :: st) h Q := w_aload_n (j := 0) rfl pt41 (show decode e41.b 0 = .ok (.aload_n 0, 1) by decide +kernel)
theorem s41_1 : wp K d 41 1 L (.inr (.inr (.inl a)) :: st) h Q = (isO K a 2 ∧ wp K d 41 4 L (.inr (.inr (.inl (rT K a 1))) :: st) h Q) := w_getR fr_3_15 (by decide) pt41 (show decode e41.b 1 = .ok (.getfield 15, 3) by decide +kernel)
theorem s41_4 : wp K d 41 4 (a0 :: a1 :: .inl x :: L) st h Q = wp K d 41 5 (a0 :: a1 :: .inl x :: L) (.inl x :: st) h Q := w_iload_n (j := 2) rfl pt41 (show decode e41.b 4 = .ok (.iload_n 2, 1) by decide +kernel)
theorem s41_5 : wp K d 41 5 L (.inl x :: .inr (.inr (.inl a)) :: st) h Q = ((0 ≤ x ∧ x < alen K h a) ∧ wp K d 41 6 L (.inl (h a x.toNat) :: st) h Q) := w_iaload pt41 (show decode e41.b 5 = .ok (.iaload, 1) by decide +kernel)
theorem s41_6 : wp K d 41 6 (a0 :: .inl x :: L) st h Q = wp K d 41 7 (a0 :: .inl x :: L) (.inl x :: st) h Q := w_iload_n (j := 1) rfl pt41 (show decode e41.b 6 = .ok (.iload_n 1, 1) by decide +kernel)
theorem s41_7 : wp K d 41 7 L st h Q = wp K d 41 8 L (.inl (-1) :: st) h Q := w_iconst (z := (-1)) (by decide) pt41 (show decode e41.b 7 = .ok (.iconst (-1), 1) by decide +kernel)
theorem s41_8 : wp K d 41 8 L (.inl y :: .inl x :: st) h Q = wp K d 41 9 L (.inl (bXor x y) :: st) h Q := w_ixor pt41 (show decode e41.b 8 = .ok (.ixor, 1) by decide +kernel)
theorem s41_9 : wp K d 41 9 L (.inl y :: .inl x :: st) h Q = wp K d 41 10 L (.inl (bAnd x y) :: st) h Q := w_iand pt41 (show decode e41.b 9 = .ok (.iand, 1) by decide +kernel)
theorem s41_10 : wp K (d + 1) 41 10 L [.inl z0] h Q = wp K d 242 0 [.inl z0] [] h (fun r h' => wp K (d + 1) 41 13 L (r.toList ++ []) h' Q) := w_callS pt41 (show decode e41.b 10 = .ok (.invokestatic 45, 3) by decide +kernel) mr_3_45 pt242 rfl (by decide) (as := [.inl z0]) (rest := []) rfl rfl (Nat.le_of_ble_eq_true rfl) (Or.inr rfl) (Nat.le_of_ble_eq_true rfl) rfl
theorem s41_13 : wp K d 41 13 (.inr (.inr (.inl a)) :: L) st h Q = wp K d 41 14 (.inr (.inr (.inl a)) :: L) (.inr (.inr (.inl a)) :: st) h Q := w_aload_n (j := 0) rfl pt41 (show decode e41.b 13 = .ok (.aload_n 0, 1) by decide +kernel)
theorem s41_14 : wp K d 41 14 L (.inr (.inr (.inl a)) :: st) h Q = (isO K a 2 ∧ wp K d 41 17 L (.inr (.inr (.inl (rT K a 2))) :: st) h Q) := w_getR fr_3_19 (by decide) pt41 (show decode e41.b 14 = .ok (.getfield 19, 3) by decide +kernel)
theorem s41_17 : wp K d 41 17 (a0 :: .inl x :: L) st h Q = wp K d 41 18 (a0 :: .inl x :: L) (.inl x :: st) h Q := w_iload_n (j := 1) rfl pt41 (show decode e41.b 17 = .ok (.iload_n 1, 1) by decide +kernel)
theorem s41_18 : wp K d 41 18 L st h Q = wp K d 41 19 L (.inl (1) :: st) h Q := w_iconst (z := (1)) (by decide) pt41 (show decode e41.b 18 = .ok (.iconst (1), 1) by decide +kernel)
theorem s41_19 : wp K d 41 19 (a0 :: a1 :: .inl x :: L) st h Q = wp K d 41 20 (a0 :: a1 :: .inl x :: L) (.inl x :: st) h Q := w_iload_n (j := 2) rfl pt41 (show decode e41.b 19 = .ok (.iload_n 2, 1) by decide +kernel)
theorem s41_20 : wp K d 41 20 L (.inl y :: .inl x :: st) h Q = ((0 ≤ y ∧ y < 32) ∧ wp K d 41 21 L (.inl (w32 (x * 2 ^ y.toNat)) :: st) h Q) := w_ishl pt41 (show decode e41.b 20 = .ok (.ishl, 1) by decide +kernel)
theorem s41_21 : wp K d 41 21 L (.inl y :: .inl x :: st) h Q = wp K d 41 22 L (.inl (bOr x y) :: st) h Q := w_ior pt41 (show decode e41.b 21 = .ok (.ior, 1) by decide +kernel)
theorem s41_22 : wp K d 41 22 L (.inl x :: .inr (.inr (.inl a)) :: st) h Q = ((0 ≤ x ∧ x < alen K h a) ∧ wp K d 41 23 L (.inl (h a x.toNat) :: st) h Q) := w_iaload pt41 (show decode e41.b 22 = .ok (.iaload, 1) by decide +kernel)
theorem s41_23 : wp K d 41 23 L (.inl y :: .inl x :: st) h Q = wp K d 41 24 L (.inl (w32 (x + y)) :: st) h Q := w_iadd pt41 (show decode e41.b 23 = .ok (.iadd, 1) by decide +kernel)
theorem s41_24 : wp K d 41 24 L [.inl x] h Q = Q (some (.inl x)) h := w_ireturn pt41 (show decode e41.b 24 = .ok (.ireturn, 1) by decide +kernel) rfl
theorem s42_0 : wp K d 42 0 (.inr (.inr (.inl a)) :: L) st h Q = wp K d 42 1 (.inr (.inr (.inl a)) :: L) (.inr (.inr (.inl a)) :: st) h Q := w_aload_n (j := 0) rfl pt42 (show decode e42.b 0 = .ok (.aload_n 0, 1) by decide +kernel)
theorem s42_1 : wp K d 42 1 L (.inr (.inr (.inl a)) :: st) h Q = (isO K a 2 ∧ wp K d 42 4 L (.inr (.inr (.inl (rT K a 2))) :: st) h Q) := w_getR fr_3_19 (by decide) pt42 (show decode e42.b 1 = .ok (.getfield 19, 3) by decide +kernel)
theorem s42_4 : wp K d 42 4 L st h Q = wp K d 42 5 L (.inl (0) :: st) h Q := w_iconst (z := (0)) (by decide) pt42 (show decode e42.b 4 = .ok (.iconst (0), 1) by decide +kernel)
theorem s42_5 : wp K d 42 5 L (.inl x :: .inr (.inr (.inl a)) :: st) h Q = ((0 ≤ x ∧ x < alen K h a) ∧ wp K d 42 6 L (.inl (h a x.toNat) :: st) h Q) := w_iaload pt42 (show decode e42.b 5 = .ok (.iaload, 1) by decide +kernel)
theorem s42_6 : wp K d 42 6 L [.inl x] h Q = Q (some (.inl x)) h := w_ireturn pt42 (show decode e42.b 6 = .ok (.ireturn, 1) by decide +kernel) rfl
theorem s43_0 : wp K d 43 0 (a0 :: .inl x :: L) st h Q = wp K d 43 1 (a0 :: .inl x :: L) (.inl x :: st) h Q := w_iload_n (j := 1) rfl pt43 (show decode e43.b 0 = .ok (.iload_n 1, 1) by decide +kernel)
theorem s43_1 : wp K d 43 1 L (.inl x :: st) h Q = if x < 0 then wp K d 43 12 L st h Q else wp K d 43 4 L st h Q := w_iflt rfl pt43 (show decode e43.b 1 = .ok (.ifCond .lt (11), 3) by decide +kernel)
theorem s43_4 : wp K d 43 4 (a0 :: .inl x :: L) st h Q = wp K d 43 5 (a0 :: .inl x :: L) (.inl x :: st) h Q := w_iload_n (j := 1) rfl pt43 (show decode e43.b 4 = .ok (.iload_n 1, 1) by decide +kernel)
theorem s43_5 : wp K d 43 5 (.inr (.inr (.inl a)) :: L) st h Q = wp K d 43 6 (.inr (.inr (.inl a)) :: L) (.inr (.inr (.inl a)) :: st) h Q := w_aload_n (j := 0) rfl pt43 (show decode e43.b 5 = .ok (.aload_n 0, 1) by decide +kernel)
theorem s43_6 : wp K d 43 6 L (.inr (.inr (.inl a)) :: st) h Q = (isO K a 2 ∧ wp K d 43 9 L (.inl (h a 0) :: st) h Q) := w_getI fr_3_9 (by decide) pt43 (show decode e43.b 6 = .ok (.getfield 9, 3) by decide +kernel)
theorem s43_9 : wp K d 43 9 L (.inl y :: .inl x :: st) h Q = if x < y then wp K d 43 15 L st h Q else wp K d 43 12 L st h Q := w_icmplt rfl pt43 (show decode e43.b 9 = .ok (.if_icmp .lt (6), 3) by decide +kernel)
theorem s43_12 : wp K d 43 12 L st h Q = wp K d 43 14 L (.inl (-9) :: st) h Q := w_bipush (z := (-9)) (by decide) pt43 (show decode e43.b 12 = .ok (.bipush (-9), 2) by decide +kernel)
theorem s43_14 : wp K d 43 14 L [.inl x] h Q = Q (some (.inl x)) h := w_ireturn pt43 (show decode e43.b 14 = .ok (.ireturn, 1) by decide +kernel) rfl
theorem s43_15 : wp K d 43 15 L st h Q = wp K d 43 16 L (.inl (0) :: st) h Q := w_iconst (z := (0)) (by decide) pt43 (show decode e43.b 15 = .ok (.iconst (0), 1) by decide +kernel)
theorem s43_16 : wp K d 43 16 (a0 :: a1 :: w :: L) (.inl x :: st) h Q = wp K d 43 17 (a0 :: a1 :: .inl x :: L) st h Q := w_istore_n (j := 2) (ll2 ..) (Or.inl rfl) pt43 (show decode e43.b 16 = .ok (.istore_n 2, 1) by decide +kernel)
theorem s43_17 : wp K d 43 17 L st h Q = wp K d 43 18 L (.inl (0) :: st) h Q := w_iconst (z := (0)) (by decide) pt43 (show decode e43.b 17 = .ok (.iconst (0), 1) by decide +kernel)
theorem s43_18 : wp K d 43 18 (a0 :: a1 :: a2 :: w :: L) (.inl x :: st) h Q = wp K d 43 19 (a0 :: a1 :: a2 :: .inl x :: L) st h Q := w_istore_n (j := 3) (ll3 ..) (Or.inl rfl) pt43 (show decode e43.b 18 = .ok (.istore_n 3, 1) by decide +kernel)
theorem s43_19 : wp K d 43 19 L st h Q = wp K d 43 20 L (.inl (0) :: st) h Q := w_iconst (z := (0)) (by decide) pt43 (show decode e43.b 19 = .ok (.iconst (0), 1) by decide +kernel)
theorem s43_20 : wp K d 43 20 (a0 :: a1 :: a2 :: a3 :: w :: L) (.inl x :: st) h Q = wp K d 43 22 (a0 :: a1 :: a2 :: a3 :: .inl x :: L) st h Q := w_istore (j := 4) (ll4 ..) (Or.inl rfl) pt43 (show decode e43.b 20 = .ok (.istore 4, 2) by decide +kernel)
theorem s43_22 : wp K d 43 22 (a0 :: a1 :: a2 :: a3 :: .inl x :: L) st h Q = wp K d 43 24 (a0 :: a1 :: a2 :: a3 :: .inl x :: L) (.inl x :: st) h Q := w_iload (j := 4) rfl pt43 (show decode e43.b 22 = .ok (.iload 4, 2) by decide +kernel)
theorem s43_24 : wp K d 43 24 (a0 :: .inl x :: L) st h Q = wp K d 43 25 (a0 :: .inl x :: L) (.inl x :: st) h Q := w_iload_n (j := 1) rfl pt43 (show decode e43.b 24 = .ok (.iload_n 1, 1) by decide +kernel)
theorem s43_25 : wp K d 43 25 L (.inl y :: .inl x :: st) h Q = if y < x then wp K d 43 46 L st h Q else wp K d 43 28 L st h Q := w_icmpgt rfl pt43 (show decode e43.b 25 = .ok (.if_icmp .gt (21), 3) by decide +kernel)
theorem s43_28 : wp K d 43 28 (.inr (.inr (.inl a)) :: L) st h Q = wp K d 43 29 (.inr (.inr (.inl a)) :: L) (.inr (.inr (.inl a)) :: st) h Q := w_aload_n (j := 0) rfl pt43 (show decode e43.b 28 = .ok (.aload_n 0, 1) by decide +kernel)
theorem s43_29 : wp K d 43 29 (a0 :: a1 :: .inl x :: L) st h Q = wp K d 43 30 (a0 :: a1 :: .inl x :: L) (.inl x :: st) h Q := w_iload_n (j := 2) rfl pt43 (show decode e43.b 29 = .ok (.iload_n 2, 1) by decide +kernel)
theorem s43_30 : wp K (d + 1) 43 30 L [.inl z0, .inr (.inr (.inl a))] h Q = (isO K a 2 ∧ wp K d 44 0 [.inr (.inr (.inl a)), .inl z0, vU] [] h (fun r h' => wp K (d + 1) 43 33 L (r.toList ++ []) h' Q)) := w_callV pt43 (show decode e43.b 30 = .ok (.invokevirtual 51, 3) by decide +kernel) mr_3_51 pt44 rfl rfl (as := [.inl z0]) (rest := []) rfl rfl (Nat.le_of_ble_eq_true rfl) rfl (by decide) rfl
theorem s43_33 : wp K d 43 33 (a0 :: a1 :: a2 :: w :: L) (.inl x :: st) h Q = wp K d 43 34 (a0 :: a1 :: a2 :: .inl x :: L) st h Q := w_istore_n (j := 3) (ll3 ..) (Or.inl rfl) pt43 (show decode e43.b 33 = .ok (.istore_n 3, 1) by decide +kernel)
theorem s43_34 : wp K d 43 34 (a0 :: a1 :: .inl x :: L) st h Q = wp K d 43 35 (a0 :: a1 :: .inl x :: L) (.inl x :: st) h Q := w_iload_n (j := 2) rfl pt43 (show decode e43.b 34 = .ok (.iload_n 2, 1) by decide +kernel)
theorem s43_35 : wp K d 43 35 L st h Q = wp K d 43 36 L (.inl (1) :: st) h Q := w_iconst (z := (1)) (by decide) pt43 (show decode e43.b 35 = .ok (.iconst (1), 1) by decide +kernel)
theorem s43_36 : wp K d 43 36 (a0 :: a1 :: a2 :: .inl x :: L) st h Q = wp K d 43 37 (a0 :: a1 :: a2 :: .inl x :: L) (.inl x :: st) h Q := w_iload_n (j := 3) rfl pt43 (show decode e43.b 36 = .ok (.iload_n 3, 1) by decide +kernel)
theorem s43_37 : wp K d 43 37 L (.inl y :: .inl x :: st) h Q = ((0 ≤ y ∧ y < 32) ∧ wp K d 43 38 L (.inl (w32 (x * 2 ^ y.toNat)) :: st) h Q) := w_ishl pt43 (show decode e43.b 37 = .ok (.ishl, 1) by decide +kernel)
theorem s43_38 : wp K d 43 38 L (.inl y :: .inl x :: st) h Q = wp K d 43 39 L (.inl (bOr x y) :: st) h Q := w_ior pt43 (show decode e43.b 38 = .ok (.ior, 1) by decide +kernel)
theorem s43_39 : wp K d 43 39 (a0 :: a1 :: w :: L) (.inl x :: st) h Q = wp K d 43 40 (a0 :: a1 :: .inl x :: L) st h Q := w_istore_n (j := 2) (ll2 ..) (Or.inl rfl) pt43 (show decode e43.b 39 = .ok (.istore_n 2, 1) by decide +kernel)
theorem s43_40 : wp K d 43 40 (a0 :: a1 :: a2 :: a3 :: .inl x :: L) st h Q = wp K d 43 43 (a0 :: a1 :: a2 :: a3 :: .inl (w32 (x + (1))) :: L) st h Q := w_iinc (j := 4) (z := (1)) rfl (Or.inl rfl) (by decide) pt43 (show decode e43.b 40 = .ok (.iinc 4 (1), 3) by decide +kernel)
theorem s43_43 : wp K d 43 43 L st h Q = wp K d 43 22 L st h Q := w_goto rfl pt43 (show decode e43.b 43 = .ok (.goto (-21), 3) by decide +kernel)
theorem s43_46 : wp K d 43 46 (a0 :: a1 :: a2 :: .inl x :: L) st h Q = wp K d 43 47 (a0 :: a1 :: a2 :: .inl x :: L) (.inl x :: st) h Q := w_iload_n (j := 3) rfl pt43 (show decode e43.b 46 = .ok (.iload_n 3, 1) by decide +kernel)
theorem s43_47 : wp K d 43 47 L [.inl x] h Q = Q (some (.inl x)) h := w_ireturn pt43 (show decode e43.b 47 = .ok (.ireturn, 1) by decide +kernel) rfl
theorem s44_0 : wp K d 44 0 L st h Q = wp K d 44 1 L (.inl (0) :: st) h Q := w_iconst (z := (0)) (by decide) pt44 (show decode e44.b 0 = .ok (.iconst (0), 1) by decide +kernel)
theorem s44_1 : wp K d 44 1 (a0 :: a1 :: w :: L) (.inl x :: st) h Q = wp K d 44 2 (a0 :: a1 :: .inl x :: L) st h Q := w_istore_n (j := 2) (ll2 ..) (Or.inl rfl) pt44 (show decode e44.b 1 = .ok (.istore_n 2, 1) by decide +kernel)
theorem s44_2 : wp K d 44 2 (a0 :: a1 :: .inl x :: L) st h Q = wp K d 44 3 (a0 :: a1 :: .inl x :: L) (.inl x :: st) h Q := w_iload_n (j := 2) rfl pt44 (show decode e44.b 2 = .ok (.iload_n 2, 1) by decide +kernel)
theorem s44_3 : wp K d 44 3 (.inr (.inr (.inl a)) :: L) st h Q = wp K d 44 4 (.inr (.inr (.inl a)) :: L) (.inr (.inr (.inl a)) :: st) h Q := w_aload_n (j := 0) rfl pt44 (show decode e44.b 3 = .ok (.aload_n 0, 1) by decide +kernel)
theorem s44_4 : wp K d 44 4 L (.inr (.inr (.inl a)) :: st) h Q = (isO K a 2 ∧ wp K d 44 7 L (.inl (h a 0) :: st) h Q) := w_getI fr_3_9 (by decide) pt44 (show decode e44.b 4 = .ok (.getfield 9, 3) by decide +kernel)
theorem s44_7 : wp K d 44 7 L (.inl y :: .inl x :: st) h Q = if y ≤ x then wp K d 44 41 L st h Q else wp K d 44 10 L st h Q := w_icmpge rfl pt44 (show decode e44.b 7 = .ok (.if_icmp .ge (34), 3) by decide +kernel)
theorem s44_10 : wp K d 44 10 (a0 :: .inl x :: L) st h Q = wp K d 44 11 (a0 :: .inl x :: L) (.inl x :: st) h Q := w_iload_n (j := 1) rfl pt44 (show decode e44.b 10 = .ok (.iload_n 1, 1) by decide +kernel)
theorem s44_11 : wp K d 44 11 (a0 :: a1 :: .inl x :: L) st h Q = wp K d 44 12 (a0 :: a1 :: .inl x :: L) (.inl x :: st) h Q := w_iload_n (j := 2) rfl pt44 (show decode e44.b 11 = .ok (.iload_n 2, 1) by decide +kernel)
theorem s44_12 : wp K (d + 1) 44 12 L [.inl z1, .inl z0] h Q = wp K d 142 0 [.inl z0, .inl z1] [] h (fun r h' => wp K (d + 1) 44 15 L (r.toList ++ []) h' Q) := w_callS pt44 (show decode e44.b 12 = .ok (.invokestatic 32, 3) by decide +kernel) mr_3_32 pt142 rfl (by decide) (as := [.inl z1, .inl z0]) (rest := []) rfl rfl (Nat.le_of_ble_eq_true rfl) (Or.inr rfl) (Nat.le_of_ble_eq_true rfl) rfl
theorem s44_15 : wp K d 44 15 L (.inl x :: st) h Q = if x ≠ 0 then wp K d 44 35 L st h Q else wp K d 44 18 L st h Q := w_ifne rfl pt44 (show decode e44.b 15 = .ok (.ifCond .ne (20), 3) by decide +kernel)
theorem s44_18 : wp K d 44 18 (.inr (.inr (.inl a)) :: L) st h Q = wp K d 44 19 (.inr (.inr (.inl a)) :: L) (.inr (.inr (.inl a)) :: st) h Q := w_aload_n (j := 0) rfl pt44 (show decode e44.b 18 = .ok (.aload_n 0, 1) by decide +kernel)
theorem s44_19 : wp K d 44 19 (a0 :: .inl x :: L) st h Q = wp K d 44 20 (a0 :: .inl x :: L) (.inl x :: st) h Q := w_iload_n (j := 1) rfl pt44 (show decode e44.b 19 = .ok (.iload_n 1, 1) by decide +kernel)
theorem s44_20 : wp K d 44 20 (a0 :: a1 :: .inl x :: L) st h Q = wp K d 44 21 (a0 :: a1 :: .inl x :: L) (.inl x :: st) h Q := w_iload_n (j := 2) rfl pt44 (show decode e44.b 20 = .ok (.iload_n 2, 1) by decide +kernel)
theorem s44_21 : wp K (d + 1) 44 21 L [.inl z1, .inl z0, .inr (.inr (.inl a))] h Q = (isO K a 2 ∧ wp K d 41 0 [.inr (.inr (.inl a)), .inl z0, .inl z1] [] h (fun r h' => wp K (d + 1) 44 24 L (r.toList ++ []) h' Q)) := w_callV pt44 (show decode e44.b 21 = .ok (.invokevirtual 36, 3) by decide +kernel) mr_3_36 pt41 rfl rfl (as := [.inl z1, .inl z0]) (rest := []) rfl rfl (Nat.le_of_ble_eq_true rfl) rfl (by decide) rfl
theorem s44_24 : wp K d 44 24 (.inr (.inr (.inl a)) :: L) st h Q = wp K d 44 25 (.inr (.inr (.inl a)) :: L) (.inr (.inr (.inl a)) :: st) h Q := w_aload_n (j := 0) rfl pt44 (show decode e44.b 24 = .ok (.aload_n 0, 1) by decide +kernel)
theorem s44_25 : wp K d 44 25 L (.inr (.inr (.inl a)) :: st) h Q = (isO K a 2 ∧ wp K d 44 28 L (.inr (.inr (.inl (rT K a 2))) :: st) h Q) := w_getR fr_3_19 (by decide) pt44 (show decode e44.b 25 = .ok (.getfield 19, 3) by decide +kernel)
theorem s44_28 : wp K d 44 28 (a0 :: .inl x :: L) st h Q = wp K d 44 29 (a0 :: .inl x :: L) (.inl x :: st) h Q := w_iload_n (j := 1) rfl pt44 (show decode e44.b 28 = .ok (.iload_n 1, 1) by decide +kernel)
theorem s44_29 : wp K d 44 29 L (.inl x :: .inr (.inr (.inl a)) :: st) h Q = ((0 ≤ x ∧ x < alen K h a) ∧ wp K d 44 30 L (.inl (h a x.toNat) :: st) h Q) := w_iaload pt44 (show decode e44.b 29 = .ok (.iaload, 1) by decide +kernel)
theorem s44_30 : wp K d 44 30 L (.inl y :: .inl x :: st) h Q = if x ≠ y then wp K d 44 35 L st h Q else wp K d 44 33 L st h Q := w_icmpne rfl pt44 (show decode e44.b 30 = .ok (.if_icmp .ne (5), 3) by decide +kernel)
theorem s44_33 : wp K d 44 33 (a0 :: a1 :: .inl x :: L) st h Q = wp K d 44 34 (a0 :: a1 :: .inl x :: L) (.inl x :: st) h Q := w_iload_n (j := 2) rfl pt44 (show decode e44.b 33 = .ok (.iload_n 2, 1) by decide +kernel)
theorem s44_34 : wp K d 44 34 L [.inl x] h Q = Q (some (.inl x)) h := w_ireturn pt44 (show decode e44.b 34 = .ok (.ireturn, 1) by decide +kernel) rfl
theorem s44_35 : wp K d 44 35 (a0 :: a1 :: .inl x :: L) st h Q = wp K d 44 38 (a0 :: a1 :: .inl (w32 (x + (1))) :: L) st h Q := w_iinc (j := 2) (z := (1)) rfl (Or.inl rfl) (by decide) pt44 (show decode e44.b 35 = .ok (.iinc 2 (1), 3) by decide +kernel)
theorem s44_38 : wp K d 44 38 L st h Q = wp K d 44 2 L st h Q := w_goto rfl pt44 (show decode e44.b 38 = .ok (.goto (-36), 3) by decide +kernel)
theorem s44_41 : wp K d 44 41 L st h Q = wp K d 44 42 L (.inl (0) :: st) h Q := w_iconst (z := (0)) (by decide) pt44 (show decode e44.b 41 = .ok (.iconst (0), 1) by decide +kernel)
theorem s44_42 : wp K d 44 42 L [.inl x] h Q = Q (some (.inl x)) h := w_ireturn pt44 (show decode e44.b 42 = .ok (.ireturn, 1) by decide +kernel) rfl
theorem s46_0 : wp K d 46 0 (.inl x :: L) st h Q = wp K d 46 1 (.inl x :: L) (.inl x :: st) h Q := w_iload_n (j := 0) rfl pt46 (show decode e46.b 0 = .ok (.iload_n 0, 1) by decide +kernel)
theorem s46_1 : wp K d 46 1 (a0 :: .inl x :: L) st h Q = wp K d 46 2 (a0 :: .inl x :: L) (.inl x :: st) h Q := w_iload_n (j := 1) rfl pt46 (show decode e46.b 1 = .ok (.iload_n 1, 1) by decide +kernel)
theorem s46_2 : wp K (d + 1) 46 2 L [.inl z1, .inl z0] h Q = wp K d 142 0 [.inl z0, .inl z1] [] h (fun r h' => wp K (d + 1) 46 5 L (r.toList ++ []) h' Q) := w_callS pt46 (show decode e46.b 2 = .ok (.invokestatic 18, 3) by decide +kernel) mr_4_18 pt142 rfl (by decide) (as := [.inl z1, .inl z0]) (rest := []) rfl rfl (Nat.le_of_ble_eq_true rfl) (Or.inr rfl) (Nat.le_of_ble_eq_true rfl) rfl
theorem s46_5 : wp K d 46 5 L (.inl x :: st) h Q = if x ≠ 0 then wp K d 46 20 L st h Q else wp K d 46 8 L st h Q := w_ifne rfl pt46 (show decode e46.b 5 = .ok (.ifCond .ne (15), 3) by decide +kernel)
theorem s46_8 : wp K d 46 8 (.inl x :: L) st h Q = wp K d 46 9 (.inl x :: L) (.inl x :: st) h Q := w_iload_n (j := 0) rfl pt46 (show decode e46.b 8 = .ok (.iload_n 0, 1) by decide +kernel)
theorem s46_9 : wp K d 46 9 (a0 :: a1 :: .inl x :: L) st h Q = wp K d 46 10 (a0 :: a1 :: .inl x :: L) (.inl x :: st) h Q := w_iload_n (j := 2) rfl pt46 (show decode e46.b 9 = .ok (.iload_n 2, 1) by decide +kernel)
theorem s46_10 : wp K (d + 1) 46 10 L [.inl z1, .inl z0] h Q = wp K d 142 0 [.inl z0, .inl z1] [] h (fun r h' => wp K (d + 1) 46 13 L (r.toList ++ []) h' Q) := w_callS pt46 (show decode e46.b 10 = .ok (.invokestatic 18, 3) by decide +kernel) mr_4_18 pt142 rfl (by decide) (as := [.inl z1, .inl z0]) (rest := []) rfl rfl (Nat.le_of_ble_eq_true rfl) (Or.inr rfl) (Nat.le_of_ble_eq_true rfl) rfl
theorem s46_13 : wp K d 46 13 L (.inl x :: st) h Q = if x = 0 then wp K d 46 20 L st h Q else wp K d 46 16 L st h Q := w_ifeq rfl pt46 (show decode e46.b 13 = .ok (.ifCond .eq (7), 3) by decide +kernel)
theorem s46_16 : wp K d 46 16 L st h Q = wp K d 46 17 L (.inl (1) :: st) h Q := w_iconst (z := (1)) (by decide) pt46 (show decode e46.b 16 = .ok (.iconst (1), 1) by decide +kernel)
theorem s46_17 : wp K d 46 17 L st h Q = wp K d 46 21 L st h Q := w_goto rfl pt46 (show decode e46.b 17 = .ok (.goto (4), 3) by decide +kernel)
theorem s46_20 : wp K d 46 20 L st h Q = wp K d 46 21 L (.inl (0) :: st) h Q := w_iconst (z := (0)) (by decide) pt46 (show decode e46.b 20 = .ok (.iconst (0), 1) by decide +kernel)
theorem s46_21 : wp K d 46 21 (a0 :: a1 :: a2 :: w :: L) (.inl x :: st) h Q = wp K d 46 22 (a0 :: a1 :: a2 :: .inl x :: L) st h Q := w_istore_n (j := 3) (ll3 ..) (Or.inl rfl) pt46 (show decode e46.b 21 = .ok (.istore_n 3, 1) by decide +kernel)
theorem s46_22 : wp K d 46 22 (a0 :: a1 :: a2 :: .inl x :: L) st h Q = wp K d 46 23 (a0 :: a1 :: a2 :: .inl x :: L) (.inl x :: st) h Q := w_iload_n (j := 3) rfl pt46 (show decode e46.b 22 = .ok (.iload_n 3, 1) by decide +kernel)
theorem s46_23 : wp K d 46 23 L (.inl x :: st) h Q = if x = 0 then wp K d 46 38 L st h Q else wp K d 46 26 L st h Q := w_ifeq rfl pt46 (show decode e46.b 23 = .ok (.ifCond .eq (15), 3) by decide +kernel)
theorem s46_26 : wp K d 46 26 (.inl x :: L) st h Q = wp K d 46 27 (.inl x :: L) (.inl x :: st) h Q := w_iload_n (j := 0) rfl pt46 (show decode e46.b 26 = .ok (.iload_n 0, 1) by decide +kernel)
theorem s46_27 : wp K d 46 27 L st h Q = wp K d 46 28 L (.inl (1) :: st) h Q := w_iconst (z := (1)) (by decide) pt46 (show decode e46.b 27 = .ok (.iconst (1), 1) by decide +kernel)
theorem s46_28 : wp K d 46 28 (a0 :: .inl x :: L) st h Q = wp K d 46 29 (a0 :: .inl x :: L) (.inl x :: st) h Q := w_iload_n (j := 1) rfl pt46 (show decode e46.b 28 = .ok (.iload_n 1, 1) by decide +kernel)
theorem s46_29 : wp K d 46 29 L (.inl y :: .inl x :: st) h Q = ((0 ≤ y ∧ y < 32) ∧ wp K d 46 30 L (.inl (w32 (x * 2 ^ y.toNat)) :: st) h Q) := w_ishl pt46 (show decode e46.b 29 = .ok (.ishl, 1) by decide +kernel)
theorem s46_30 : wp K d 46 30 L st h Q = wp K d 46 31 L (.inl (1) :: st) h Q := w_iconst (z := (1)) (by decide) pt46 (show decode e46.b 30 = .ok (.iconst (1), 1) by decide +kernel)
theorem s46_31 : wp K d 46 31 (a0 :: a1 :: .inl x :: L) st h Q = wp K d 46 32 (a0 :: a1 :: .inl x :: L) (.inl x :: st) h Q := w_iload_n (j := 2) rfl pt46 (show decode e46.b 31 = .ok (.iload_n 2, 1) by decide +kernel)
theorem s46_32 : wp K d 46 32 L (.inl y :: .inl x :: st) h Q = ((0 ≤ y ∧ y < 32) ∧ wp K d 46 33 L (.inl (w32 (x * 2 ^ y.toNat)) :: st) h Q) := w_ishl pt46 (show decode e46.b 32 = .ok (.ishl, 1) by decide +kernel)
theorem s46_33 : wp K d 46 33 L (.inl y :: .inl x :: st) h Q = wp K d 46 34 L (.inl (bOr x y) :: st) h Q := w_ior pt46 (show decode e46.b 33 = .ok (.ior, 1) by decide +kernel)
theorem s46_34 : wp K d 46 34 L (.inl y :: .inl x :: st) h Q = wp K d 46 35 L (.inl (bXor x y) :: st) h Q := w_ixor pt46 (show decode e46.b 34 = .ok (.ixor, 1) by decide +kernel)
theorem s46_35 : wp K d 46 35 L st h Q = wp K d 46 39 L st h Q := w_goto rfl pt46 (show decode e46.b 35 = .ok (.goto (4), 3) by decide +kernel)
theorem s46_38 : wp K d 46 38 (.inl x :: L) st h Q = wp K d 46 39 (.inl x :: L) (.inl x :: st) h Q := w_iload_n (j := 0) rfl pt46 (show decode e46.b 38 = .ok (.iload_n 0, 1) by decide +kernel)
theorem s46_39 : wp K d 46 39 L [.inl x] h Q = Q (some (.inl x)) h := w_ireturn pt46 (show decode e46.b 39 = .ok (.ireturn, 1) by decide +kernel) rfl
theorem s47_0 : wp K d 47 0 (.inl x :: L) st h Q = wp K d 47 1 (.inl x :: L) (.inl x :: st) h Q := w_iload_n (j := 0) rfl pt47 (show decode e47.b 0 = .ok (.iload_n 0, 1) by decide +kernel)
theorem s47_1 : wp K d 47 1 (.inl x :: L) st h Q = wp K d 47 2 (.inl x :: L) (.inl x :: st) h Q := w_iload_n (j := 0) rfl pt47 (show decode e47.b 1 = .ok (.iload_n 0, 1) by decide +kernel)
theorem s47_2 : wp K d 47 2 L st h Q = wp K d 47 3 L (.inl (1) :: st) h Q := w_iconst (z := (1)) (by decide) pt47 (show decode e47.b 2 = .ok (.iconst (1), 1) by decide +kernel)
theorem s47_3 : wp K d 47 3 L (.inl y :: .inl x :: st) h Q = wp K d 47 4 L (.inl (w32 (x + y)) :: st) h Q := w_iadd pt47 (show decode e47.b 3 = .ok (.iadd, 1) by decide +kernel)
theorem s47_4 : wp K d 47 4 L (.inl y :: .inl x :: st) h Q = wp K d 47 5 L (.inl (bAnd x y) :: st) h Q := w_iand pt47 (show decode e47.b 4 = .ok (.iand, 1) by decide +kernel)
theorem s47_5 : wp K d 47 5 L (.inl x :: st) h Q = if x ≠ 0 then wp K d 47 12 L st h Q else wp K d 47 8 L st h Q := w_ifne rfl pt47 (show decode e47.b 5 = .ok (.ifCond .ne (7), 3) by decide +kernel)
theorem s47_8 : wp K d 47 8 L st h Q = wp K d 47 9 L (.inl (1) :: st) h Q := w_iconst (z := (1)) (by decide) pt47 (show decode e47.b 8 = .ok (.iconst (1), 1) by decide +kernel)
theorem s47_9 : wp K d 47 9 L st h Q = wp K d 47 13 L st h Q := w_goto rfl pt47 (show decode e47.b 9 = .ok (.goto (4), 3) by decide +kernel)
theorem s47_12 : wp K d 47 12 L st h Q = wp K d 47 13 L (.inl (0) :: st) h Q := w_iconst (z := (0)) (by decide) pt47 (show decode e47.b 12 = .ok (.iconst (0), 1) by decide +kernel)
theorem s47_13 : wp K d 47 13 L [.inl x] h Q = ((x = 0 ∨ x = 1) ∧ Q (some (.inl x)) h) := w_zreturn pt47 (show decode e47.b 13 = .ok (.ireturn, 1) by decide +kernel) rfl
theorem s48_0 : wp K d 48 0 L st h Q = wp K d 48 1 L (.inl (0) :: st) h Q := w_iconst (z := (0)) (by decide) pt48 (show decode e48.b 0 = .ok (.iconst (0), 1) by decide +kernel)
theorem s48_1 : wp K d 48 1 (a0 :: a1 :: w :: L) (.inl x :: st) h Q = wp K d 48 2 (a0 :: a1 :: .inl x :: L) st h Q := w_istore_n (j := 2) (ll2 ..) (Or.inl rfl) pt48 (show decode e48.b 1 = .ok (.istore_n 2, 1) by decide +kernel)
theorem s48_2 : wp K d 48 2 L st h Q = wp K d 48 3 L (.inl (0) :: st) h Q := w_iconst (z := (0)) (by decide) pt48 (show decode e48.b 2 = .ok (.iconst (0), 1) by decide +kernel)
theorem s48_3 : wp K d 48 3 (a0 :: a1 :: a2 :: w :: L) (.inl x :: st) h Q = wp K d 48 4 (a0 :: a1 :: a2 :: .inl x :: L) st h Q := w_istore_n (j := 3) (ll3 ..) (Or.inl rfl) pt48 (show decode e48.b 3 = .ok (.istore_n 3, 1) by decide +kernel)
theorem s48_4 : wp K d 48 4 (a0 :: a1 :: a2 :: .inl x :: L) st h Q = wp K d 48 5 (a0 :: a1 :: a2 :: .inl x :: L) (.inl x :: st) h Q := w_iload_n (j := 3) rfl pt48 (show decode e48.b 4 = .ok (.iload_n 3, 1) by decide +kernel)
theorem s48_5 : wp K d 48 5 L st h Q = wp K d 48 6 L (.inl (1) :: st) h Q := w_iconst (z := (1)) (by decide) pt48 (show decode e48.b 5 = .ok (.iconst (1), 1) by decide +kernel)
theorem s48_6 : wp K d 48 6 (a0 :: .inr (.inr (.inl a)) :: L) st h Q = wp K d 48 7 (a0 :: .inr (.inr (.inl a)) :: L) (.inr (.inr (.inl a)) :: st) h Q := w_aload_n (j := 1) rfl pt48 (show decode e48.b 6 = .ok (.aload_n 1, 1) by decide +kernel)
theorem s48_7 : wp K d 48 7 L (.inr (.inr (.inl a)) :: st) h Q = (isO K a 0 ∧ wp K d 48 10 L (.inl (h a 0) :: st) h Q) := w_getI fr_4_22 (by decide) pt48 (show decode e48.b 7 = .ok (.getfield 22, 3) by decide +kernel)
theorem s48_10 : wp K d 48 10 L (.inl y :: .inl x :: st) h Q = ((0 ≤ y ∧ y < 32) ∧ wp K d 48 11 L (.inl (w32 (x * 2 ^ y.toNat)) :: st) h Q) := w_ishl pt48 (show decode e48.b 10 = .ok (.ishl, 1) by decide +kernel)
theorem s48_11 : wp K d 48 11 L (.inl y :: .inl x :: st) h Q = if y ≤ x then wp K d 48 81 L st h Q else wp K d 48 14 L st h Q := w_icmpge rfl pt48 (show decode e48.b 11 = .ok (.if_icmp .ge (70), 3) by decide +kernel)
theorem s48_14 : wp K d 48 14 (a0 :: a1 :: a2 :: .inl x :: L) st h Q = wp K d 48 15 (a0 :: a1 :: a2 :: .inl x :: L) (.inl x :: st) h Q := w_iload_n (j := 3) rfl pt48 (show decode e48.b 14 = .ok (.iload_n 3, 1) by decide +kernel)
theorem s48_15 : wp K d 48 15 (a0 :: a1 :: a2 :: a3 :: w :: L) (.inl x :: st) h Q = wp K d 48 17 (a0 :: a1 :: a2 :: a3 :: .inl x :: L) st h Q := w_istore (j := 4) (ll4 ..) (Or.inl rfl) pt48 (show decode e48.b 15 = .ok (.istore 4, 2) by decide +kernel)
theorem s48_17 : wp K d 48 17 L st h Q = wp K d 48 18 L (.inl (0) :: st) h Q := w_iconst (z := (0)) (by decide) pt48 (show decode e48.b 17 = .ok (.iconst (0), 1) by decide +kernel)
theorem s48_18 : wp K d 48 18 (a0 :: a1 :: a2 :: a3 :: a4 :: w :: L) (.inl x :: st) h Q = wp K d 48 20 (a0 :: a1 :: a2 :: a3 :: a4 :: .inl x :: L) st h Q := w_istore (j := 5) (ll5 ..) (Or.inl rfl) pt48 (show decode e48.b 18 = .ok (.istore 5, 2) by decide +kernel)
theorem s48_20 : wp K d 48 20 (a0 :: a1 :: a2 :: a3 :: a4 :: .inl x :: L) st h Q = wp K d 48 22 (a0 :: a1 :: a2 :: a3 :: a4 :: .inl x :: L) (.inl x :: st) h Q := w_iload (j := 5) rfl pt48 (show decode e48.b 20 = .ok (.iload 5, 2) by decide +kernel)
theorem s48_22 : wp K d 48 22 (a0 :: .inr (.inr (.inl a)) :: L) st h Q = wp K d 48 23 (a0 :: .inr (.inr (.inl a)) :: L) (.inr (.inr (.inl a)) :: st) h Q := w_aload_n (j := 1) rfl pt48 (show decode e48.b 22 = .ok (.aload_n 1, 1) by decide +kernel)
theorem s48_23 : wp K d 48 23 L (.inr (.inr (.inl a)) :: st) h Q = (isO K a 0 ∧ wp K d 48 26 L (.inl (h a 8) :: st) h Q) := w_getI fr_4_28 (by decide) pt48 (show decode e48.b 23 = .ok (.getfield 28, 3) by decide +kernel)
theorem s48_26 : wp K d 48 26 L (.inl y :: .inl x :: st) h Q = if y ≤ x then wp K d 48 56 L st h Q else wp K d 48 29 L st h Q := w_icmpge rfl pt48 (show decode e48.b 26 = .ok (.if_icmp .ge (30), 3) by decide +kernel)
theorem s48_29 : wp K d 48 29 (a0 :: a1 :: a2 :: a3 :: .inl x :: L) st h Q = wp K d 48 31 (a0 :: a1 :: a2 :: a3 :: .inl x :: L) (.inl x :: st) h Q := w_iload (j := 4) rfl pt48 (show decode e48.b 29 = .ok (.iload 4, 2) by decide +kernel)
theorem s48_31 : wp K d 48 31 (a0 :: .inr (.inr (.inl a)) :: L) st h Q = wp K d 48 32 (a0 :: .inr (.inr (.inl a)) :: L) (.inr (.inr (.inl a)) :: st) h Q := w_aload_n (j := 1) rfl pt48 (show decode e48.b 31 = .ok (.aload_n 1, 1) by decide +kernel)
theorem s48_32 : wp K d 48 32 L (.inr (.inr (.inl a)) :: st) h Q = (isO K a 0 ∧ wp K d 48 35 L (.inr (.inr (.inl (rT K a 9))) :: st) h Q) := w_getR fr_4_31 (by decide) pt48 (show decode e48.b 32 = .ok (.getfield 31, 3) by decide +kernel)
theorem s48_35 : wp K d 48 35 (a0 :: a1 :: a2 :: a3 :: a4 :: .inl x :: L) st h Q = wp K d 48 37 (a0 :: a1 :: a2 :: a3 :: a4 :: .inl x :: L) (.inl x :: st) h Q := w_iload (j := 5) rfl pt48 (show decode e48.b 35 = .ok (.iload 5, 2) by decide +kernel)
theorem s48_37 : wp K d 48 37 L (.inl x :: .inr (.inr (.inl a)) :: st) h Q = ((0 ≤ x ∧ x < alen K h a) ∧ wp K d 48 38 L (.inl (h a x.toNat) :: st) h Q) := w_iaload pt48 (show decode e48.b 37 = .ok (.iaload, 1) by decide +kernel)
theorem s48_38 : wp K d 48 38 (a0 :: .inr (.inr (.inl a)) :: L) st h Q = wp K d 48 39 (a0 :: .inr (.inr (.inl a)) :: L) (.inr (.inr (.inl a)) :: st) h Q := w_aload_n (j := 1) rfl pt48 (show decode e48.b 38 = .ok (.aload_n 1, 1) by decide +kernel)
theorem s48_39 : wp K d 48 39 L (.inr (.inr (.inl a)) :: st) h Q = (isO K a 0 ∧ wp K d 48 42 L (.inr (.inr (.inl (rT K a 10))) :: st) h Q) := w_getR fr_4_34 (by decide) pt48 (show decode e48.b 39 = .ok (.getfield 34, 3) by decide +kernel)
theorem s48_42 : wp K d 48 42 (a0 :: a1 :: a2 :: a3 :: a4 :: .inl x :: L) st h Q = wp K d 48 44 (a0 :: a1 :: a2 :: a3 :: a4 :: .inl x :: L) (.inl x :: st) h Q := w_iload (j := 5) rfl pt48 (show decode e48.b 42 = .ok (.iload 5, 2) by decide +kernel)
theorem s48_44 : wp K d 48 44 L (.inl x :: .inr (.inr (.inl a)) :: st) h Q = ((0 ≤ x ∧ x < alen K h a) ∧ wp K d 48 45 L (.inl (h a x.toNat) :: st) h Q) := w_iaload pt48 (show decode e48.b 44 = .ok (.iaload, 1) by decide +kernel)
theorem s48_45 : wp K (d + 1) 48 45 L [.inl z2, .inl z1, .inl z0] h Q = wp K d 46 0 [.inl z0, .inl z1, .inl z2, vU] [] h (fun r h' => wp K (d + 1) 48 48 L (r.toList ++ []) h' Q) := w_callS pt48 (show decode e48.b 45 = .ok (.invokestatic 37, 3) by decide +kernel) mr_4_37 pt46 rfl (by decide) (as := [.inl z2, .inl z1, .inl z0]) (rest := []) rfl rfl (Nat.le_of_ble_eq_true rfl) (Or.inr rfl) (Nat.le_of_ble_eq_true rfl) rfl
theorem s48_48 : wp K d 48 48 (a0 :: a1 :: a2 :: a3 :: w :: L) (.inl x :: st) h Q = wp K d 48 50 (a0 :: a1 :: a2 :: a3 :: .inl x :: L) st h Q := w_istore (j := 4) (ll4 ..) (Or.inl rfl) pt48 (show decode e48.b 48 = .ok (.istore 4, 2) by decide +kernel)
theorem s48_50 : wp K d 48 50 (a0 :: a1 :: a2 :: a3 :: a4 :: .inl x :: L) st h Q = wp K d 48 53 (a0 :: a1 :: a2 :: a3 :: a4 :: .inl (w32 (x + (1))) :: L) st h Q := w_iinc (j := 5) (z := (1)) rfl (Or.inl rfl) (by decide) pt48 (show decode e48.b 50 = .ok (.iinc 5 (1), 3) by decide +kernel)
theorem s48_53 : wp K d 48 53 L st h Q = wp K d 48 20 L st h Q := w_goto rfl pt48 (show decode e48.b 53 = .ok (.goto (-33), 3) by decide +kernel)
theorem s48_56 : wp K d 48 56 (.inr (.inr (.inl a)) :: L) st h Q = wp K d 48 57 (.inr (.inr (.inl a)) :: L) (.inr (.inr (.inl a)) :: st) h Q := w_aload_n (j := 0) rfl pt48 (show decode e48.b 56 = .ok (.aload_n 0, 1) by decide +kernel)
theorem s48_57 : wp K d 48 57 L (.inr (.inr (.inl a)) :: st) h Q = (isO K a 3 ∧ wp K d 48 60 L (.inr (.inr (.inl (rT K a 1))) :: st) h Q) := w_getR fr_4_15 (by decide) pt48 (show decode e48.b 57 = .ok (.getfield 15, 3) by decide +kernel)
theorem s48_60 : wp K d 48 60 (a0 :: a1 :: a2 :: .inl x :: L) st h Q = wp K d 48 61 (a0 :: a1 :: a2 :: .inl x :: L) (.inl x :: st) h Q := w_iload_n (j := 3) rfl pt48 (show decode e48.b 60 = .ok (.iload_n 3, 1) by decide +kernel)
theorem s48_61 : wp K d 48 61 (a0 :: a1 :: a2 :: a3 :: .inl x :: L) st h Q = wp K d 48 63 (a0 :: a1 :: a2 :: a3 :: .inl x :: L) (.inl x :: st) h Q := w_iload (j := 4) rfl pt48 (show decode e48.b 61 = .ok (.iload 4, 2) by decide +kernel)
theorem s48_63 : wp K d 48 63 L (.inl y :: .inl x :: .inr (.inr (.inl a)) :: st) h Q = ((0 ≤ x ∧ x < aln K a) ∧ wp K d 48 64 L st (hput h a x.toNat y) Q) := w_iastore pt48 (show decode e48.b 63 = .ok (.iastore, 1) by decide +kernel)
theorem s48_64 : wp K d 48 64 (a0 :: a1 :: a2 :: a3 :: .inl x :: L) st h Q = wp K d 48 66 (a0 :: a1 :: a2 :: a3 :: .inl x :: L) (.inl x :: st) h Q := w_iload (j := 4) rfl pt48 (show decode e48.b 64 = .ok (.iload 4, 2) by decide +kernel)
theorem s48_66 : wp K (d + 1) 48 66 L [.inl z0] h Q = wp K d 47 0 [.inl z0] [] h (fun r h' => wp K (d + 1) 48 69 L (r.toList ++ []) h' Q) := w_callS pt48 (show decode e48.b 66 = .ok (.invokestatic 41, 3) by decide +kernel) mr_4_41 pt47 rfl (by decide) (as := [.inl z0]) (rest := []) rfl rfl (Nat.le_of_ble_eq_true rfl) (Or.inr rfl) (Nat.le_of_ble_eq_true rfl) rfl
theorem s48_69 : wp K d 48 69 L (.inl x :: st) h Q = if x ≠ 0 then wp K d 48 75 L st h Q else wp K d 48 72 L st h Q := w_ifne rfl pt48 (show decode e48.b 69 = .ok (.ifCond .ne (6), 3) by decide +kernel)
theorem s48_72 : wp K d 48 72 (a0 :: a1 :: .inl x :: L) st h Q = wp K d 48 75 (a0 :: a1 :: .inl (w32 (x + (1))) :: L) st h Q := w_iinc (j := 2) (z := (1)) rfl (Or.inl rfl) (by decide) pt48 (show decode e48.b 72 = .ok (.iinc 2 (1), 3) by decide +kernel)
theorem s48_75 : wp K d 48 75 (a0 :: a1 :: a2 :: .inl x :: L) st h Q = wp K d 48 78 (a0 :: a1 :: a2 :: .inl (w32 (x + (1))) :: L) st h Q := w_iinc (j := 3) (z := (1)) rfl (Or.inl rfl) (by decide) pt48 (show decode e48.b 75 = .ok (.iinc 3 (1), 3) by decide +kernel)
theorem s48_78 : wp K d 48 78 L st h Q = wp K d 48 4 L st h Q := w_goto rfl pt48 (show decode e48.b 78 = .ok (.goto (-74), 3) by decide +kernel)
theorem s48_81 : wp K d 48 81 (a0 :: a1 :: .inl x :: L) st h Q = wp K d 48 82 (a0 :: a1 :: .inl x :: L) (.inl x :: st) h Q := w_iload_n (j := 2) rfl pt48 (show decode e48.b 81 = .ok (.iload_n 2, 1) by decide +kernel)
theorem s48_82 : wp K d 48 82 L [.inl x] h Q = Q (some (.inl x)) h := w_ireturn pt48 (show decode e48.b 82 = .ok (.ireturn, 1) by decide +kernel) rfl
theorem s49_0 : wp K d 49 0 L st h Q = wp K d 49 1 L (.inl (1) :: st) h Q := w_iconst (z := (1)) (by decide) pt49 (show decode e49.b 0 = .ok (.iconst (1), 1) by decide +kernel)
theorem s49_1 : wp K d 49 1 (a0 :: .inr (.inr (.inl a)) :: L) st h Q = wp K d 49 2 (a0 :: .inr (.inr (.inl a)) :: L) (.inr (.inr (.inl a)) :: st) h Q := w_aload_n (j := 1) rfl pt49 (show decode e49.b 1 = .ok (.aload_n 1, 1) by decide +kernel)
theorem s49_2 : wp K d 49 2 L (.inr (.inr (.inl a)) :: st) h Q = (isO K a 0 ∧ wp K d 49 5 L (.inl (h a 8) :: st) h Q) := w_getI fr_4_28 (by decide) pt49 (show decode e49.b 2 = .ok (.getfield 28, 3) by decide +kernel)
theorem s49_5 : wp K d 49 5 L (.inl y :: .inl x :: st) h Q = ((0 ≤ y ∧ y < 32) ∧ wp K d 49 6 L (.inl (w32 (x * 2 ^ y.toNat)) :: st) h Q) := w_ishl pt49 (show decode e49.b 5 = .ok (.ishl, 1) by decide +kernel)
theorem s49_6 : wp K d 49 6 L st h Q = wp K d 49 7 L (.inl (1) :: st) h Q := w_iconst (z := (1)) (by decide) pt49 (show decode e49.b 6 = .ok (.iconst (1), 1) by decide +kernel)
theorem s49_7 : wp K d 49 7 L (.inl y :: .inl x :: st) h Q = wp K d 49 8 L (.inl (w32 (x - y)) :: st) h Q := w_isub pt49 (show decode e49.b 7 = .ok (.isub, 1) by decide +kernel)
theorem s49_8 : wp K d 49 8 (a0 :: a1 :: w :: L) (.inl x :: st) h Q = wp K d 49 9 (a0 :: a1 :: .inl x :: L) st h Q := w_istore_n (j := 2) (ll2 ..) (Or.inl rfl) pt49 (show decode e49.b 8 = .ok (.istore_n 2, 1) by decide +kernel)
theorem s49_9 : wp K d 49 9 L st h Q = wp K d 49 10 L (.inl (0) :: st) h Q := w_iconst (z := (0)) (by decide) pt49 (show decode e49.b 9 = .ok (.iconst (0), 1) by decide +kernel)
theorem s49_10 : wp K d 49 10 (a0 :: a1 :: a2 :: w :: L) (.inl x :: st) h Q = wp K d 49 11 (a0 :: a1 :: a2 :: .inl x :: L) st h Q := w_istore_n (j := 3) (ll3 ..) (Or.inl rfl) pt49 (show decode e49.b 10 = .ok (.istore_n 3, 1) by decide +kernel)
theorem s49_11 : wp K d 49 11 (a0 :: a1 :: a2 :: .inl x :: L) st h Q = wp K d 49 12 (a0 :: a1 :: a2 :: .inl x :: L) (.inl x :: st) h Q := w_iload_n (j := 3) rfl pt49 (show decode e49.b 11 = .ok (.iload_n 3, 1) by decide +kernel)
theorem s49_12 : wp K d 49 12 L st h Q = wp K d 49 13 L (.inl (1) :: st) h Q := w_iconst (z := (1)) (by decide) pt49 (show decode e49.b 12 = .ok (.iconst (1), 1) by decide +kernel)
theorem s49_13 : wp K d 49 13 (a0 :: .inr (.inr (.inl a)) :: L) st h Q = wp K d 49 14 (a0 :: .inr (.inr (.inl a)) :: L) (.inr (.inr (.inl a)) :: st) h Q := w_aload_n (j := 1) rfl pt49 (show decode e49.b 13 = .ok (.aload_n 1, 1) by decide +kernel)
theorem s49_14 : wp K d 49 14 L (.inr (.inr (.inl a)) :: st) h Q = (isO K a 0 ∧ wp K d 49 17 L (.inl (h a 0) :: st) h Q) := w_getI fr_4_22 (by decide) pt49 (show decode e49.b 14 = .ok (.getfield 22, 3) by decide +kernel)
theorem s49_17 : wp K d 49 17 L (.inl y :: .inl x :: st) h Q = ((0 ≤ y ∧ y < 32) ∧ wp K d 49 18 L (.inl (w32 (x * 2 ^ y.toNat)) :: st) h Q) := w_ishl pt49 (show decode e49.b 17 = .ok (.ishl, 1) by decide +kernel)
theorem s49_18 : wp K d 49 18 L (.inl y :: .inl x :: st) h Q = if y ≤ x then wp K d 49 89 L st h Q else wp K d 49 21 L st h Q := w_icmpge rfl pt49 (show decode e49.b 18 = .ok (.if_icmp .ge (71), 3) by decide +kernel)
theorem s49_21 : wp K d 49 21 (a0 :: a1 :: a2 :: .inl x :: L) st h Q = wp K d 49 22 (a0 :: a1 :: a2 :: .inl x :: L) (.inl x :: st) h Q := w_iload_n (j := 3) rfl pt49 (show decode e49.b 21 = .ok (.iload_n 3, 1) by decide +kernel)
theorem s49_22 : wp K d 49 22 (a0 :: a1 :: a2 :: a3 :: w :: L) (.inl x :: st) h Q = wp K d 49 24 (a0 :: a1 :: a2 :: a3 :: .inl x :: L) st h Q := w_istore (j := 4) (ll4 ..) (Or.inl rfl) pt49 (show decode e49.b 22 = .ok (.istore 4, 2) by decide +kernel)
theorem s49_24 : wp K d 49 24 L st h Q = wp K d 49 25 L (.inl (0) :: st) h Q := w_iconst (z := (0)) (by decide) pt49 (show decode e49.b 24 = .ok (.iconst (0), 1) by decide +kernel)
theorem s49_25 : wp K d 49 25 (a0 :: a1 :: a2 :: a3 :: a4 :: w :: L) (.inl x :: st) h Q = wp K d 49 27 (a0 :: a1 :: a2 :: a3 :: a4 :: .inl x :: L) st h Q := w_istore (j := 5) (ll5 ..) (Or.inl rfl) pt49 (show decode e49.b 25 = .ok (.istore 5, 2) by decide +kernel)
theorem s49_27 : wp K d 49 27 (a0 :: a1 :: a2 :: a3 :: a4 :: .inl x :: L) st h Q = wp K d 49 29 (a0 :: a1 :: a2 :: a3 :: a4 :: .inl x :: L) (.inl x :: st) h Q := w_iload (j := 5) rfl pt49 (show decode e49.b 27 = .ok (.iload 5, 2) by decide +kernel)
theorem s49_29 : wp K d 49 29 (a0 :: .inr (.inr (.inl a)) :: L) st h Q = wp K d 49 30 (a0 :: .inr (.inr (.inl a)) :: L) (.inr (.inr (.inl a)) :: st) h Q := w_aload_n (j := 1) rfl pt49 (show decode e49.b 29 = .ok (.aload_n 1, 1) by decide +kernel)
theorem s49_30 : wp K d 49 30 L (.inr (.inr (.inl a)) :: st) h Q = (isO K a 0 ∧ wp K d 49 33 L (.inl (h a 8) :: st) h Q) := w_getI fr_4_28 (by decide) pt49 (show decode e49.b 30 = .ok (.getfield 28, 3) by decide +kernel)
theorem s49_33 : wp K d 49 33 L (.inl y :: .inl x :: st) h Q = if y ≤ x then wp K d 49 83 L st h Q else wp K d 49 36 L st h Q := w_icmpge rfl pt49 (show decode e49.b 33 = .ok (.if_icmp .ge (50), 3) by decide +kernel)
theorem s49_36 : wp K d 49 36 (a0 :: a1 :: a2 :: a3 :: .inl x :: L) st h Q = wp K d 49 38 (a0 :: a1 :: a2 :: a3 :: .inl x :: L) (.inl x :: st) h Q := w_iload (j := 4) rfl pt49 (show decode e49.b 36 = .ok (.iload 4, 2) by decide +kernel)
theorem s49_38 : wp K d 49 38 (a0 :: a1 :: a2 :: a3 :: a4 :: a5 :: w :: L) (.inl x :: st) h Q = wp K d 49 40 (a0 :: a1 :: a2 :: a3 :: a4 :: a5 :: .inl x :: L) st h Q := w_istore (j := 6) (ll6 ..) (Or.inl rfl) pt49 (show decode e49.b 38 = .ok (.istore 6, 2) by decide +kernel)
theorem s49_40 : wp K d 49 40 (a0 :: a1 :: a2 :: a3 :: a4 :: a5 :: .inl x :: L) st h Q = wp K d 49 42 (a0 :: a1 :: a2 :: a3 :: a4 :: a5 :: .inl x :: L) (.inl x :: st) h Q := w_iload (j := 6) rfl pt49 (show decode e49.b 40 = .ok (.iload 6, 2) by decide +kernel)
theorem s49_42 : wp K d 49 42 (a0 :: .inr (.inr (.inl a)) :: L) st h Q = wp K d 49 43 (a0 :: .inr (.inr (.inl a)) :: L) (.inr (.inr (.inl a)) :: st) h Q := w_aload_n (j := 1) rfl pt49 (show decode e49.b 42 = .ok (.aload_n 1, 1) by decide +kernel)
theorem s49_43 : wp K d 49 43 L (.inr (.inr (.inl a)) :: st) h Q = (isO K a 0 ∧ wp K d 49 46 L (.inr (.inr (.inl (rT K a 9))) :: st) h Q) := w_getR fr_4_31 (by decide) pt49 (show decode e49.b 43 = .ok (.getfield 31, 3) by decide +kernel)
theorem s49_46 : wp K d 49 46 (a0 :: a1 :: a2 :: a3 :: a4 :: .inl x :: L) st h Q = wp K d 49 48 (a0 :: a1 :: a2 :: a3 :: a4 :: .inl x :: L) (.inl x :: st) h Q := w_iload (j := 5) rfl pt49 (show decode e49.b 46 = .ok (.iload 5, 2) by decide +kernel)
theorem s49_48 : wp K d 49 48 L (.inl x :: .inr (.inr (.inl a)) :: st) h Q = ((0 ≤ x ∧ x < alen K h a) ∧ wp K d 49 49 L (.inl (h a x.toNat) :: st) h Q) := w_iaload pt49 (show decode e49.b 48 = .ok (.iaload, 1) by decide +kernel)
theorem s49_49 : wp K d 49 49 (a0 :: .inr (.inr (.inl a)) :: L) st h Q = wp K d 49 50 (a0 :: .inr (.inr (.inl a)) :: L) (.inr (.inr (.inl a)) :: st) h Q := w_aload_n (j := 1) rfl pt49 (show decode e49.b 49 = .ok (.aload_n 1, 1) by decide +kernel)
theorem s49_50 : wp K d 49 50 L (.inr (.inr (.inl a)) :: st) h Q = (isO K a 0 ∧ wp K d 49 53 L (.inr (.inr (.inl (rT K a 10))) :: st) h Q) := w_getR fr_4_34 (by decide) pt49 (show decode e49.b 50 = .ok (.getfield 34, 3) by decide +kernel)
theorem s49_53 : wp K d 49 53 (a0 :: a1 :: a2 :: a3 :: a4 :: .inl x :: L) st h Q = wp K d 49 55 (a0 :: a1 :: a2 :: a3 :: a4 :: .inl x :: L) (.inl x :: st) h Q := w_iload (j := 5) rfl pt49 (show decode e49.b 53 = .ok (.iload 5, 2) by decide +kernel)
theorem s49_55 : wp K d 49 55 L (.inl x :: .inr (.inr (.inl a)) :: st) h Q = ((0 ≤ x ∧ x < alen K h a) ∧ wp K d 49 56 L (.inl (h a x.toNat) :: st) h Q) := w_iaload pt49 (show decode e49.b 55 = .ok (.iaload, 1) by decide +kernel)
theorem s49_56 : wp K (d + 1) 49 56 L [.inl z2, .inl z1, .inl z0] h Q = wp K d 46 0 [.inl z0, .inl z1, .inl z2, vU] [] h (fun r h' => wp K (d + 1) 49 59 L (r.toList ++ []) h' Q) := w_callS pt49 (show decode e49.b 56 = .ok (.invokestatic 37, 3) by decide +kernel) mr_4_37 pt46 rfl (by decide) (as := [.inl z2, .inl z1, .inl z0]) (rest := []) rfl rfl (Nat.le_of_ble_eq_true rfl) (Or.inr rfl) (Nat.le_of_ble_eq_true rfl) rfl
theorem s49_59 : wp K d 49 59 (a0 :: a1 :: a2 :: a3 :: w :: L) (.inl x :: st) h Q = wp K d 49 61 (a0 :: a1 :: a2 :: a3 :: .inl x :: L) st h Q := w_istore (j := 4) (ll4 ..) (Or.inl rfl) pt49 (show decode e49.b 59 = .ok (.istore 4, 2) by decide +kernel)
theorem s49_61 : wp K d 49 61 (a0 :: a1 :: a2 :: a3 :: .inl x :: L) st h Q = wp K d 49 63 (a0 :: a1 :: a2 :: a3 :: .inl x :: L) (.inl x :: st) h Q := w_iload (j := 4) rfl pt49 (show decode e49.b 61 = .ok (.iload 4, 2) by decide +kernel)
theorem s49_63 : wp K d 49 63 (a0 :: a1 :: a2 :: a3 :: a4 :: a5 :: .inl x :: L) st h Q = wp K d 49 65 (a0 :: a1 :: a2 :: a3 :: a4 :: a5 :: .inl x :: L) (.inl x :: st) h Q := w_iload (j := 6) rfl pt49 (show decode e49.b 63 = .ok (.iload 6, 2) by decide +kernel)
theorem s49_65 : wp K d 49 65 L (.inl y :: .inl x :: st) h Q = if x = y then wp K d 49 77 L st h Q else wp K d 49 68 L st h Q := w_icmpeq rfl pt49 (show decode e49.b 65 = .ok (.if_icmp .eq (12), 3) by decide +kernel)
theorem s49_68 : wp K d 49 68 (a0 :: a1 :: .inl x :: L) st h Q = wp K d 49 69 (a0 :: a1 :: .inl x :: L) (.inl x :: st) h Q := w_iload_n (j := 2) rfl pt49 (show decode e49.b 68 = .ok (.iload_n 2, 1) by decide +kernel)
theorem s49_69 : wp K d 49 69 L st h Q = wp K d 49 70 L (.inl (1) :: st) h Q := w_iconst (z := (1)) (by decide) pt49 (show decode e49.b 69 = .ok (.iconst (1), 1) by decide +kernel)
theorem s49_70 : wp K d 49 70 (a0 :: a1 :: a2 :: a3 :: a4 :: .inl x :: L) st h Q = wp K d 49 72 (a0 :: a1 :: a2 :: a3 :: a4 :: .inl x :: L) (.inl x :: st) h Q := w_iload (j := 5) rfl pt49 (show decode e49.b 70 = .ok (.iload 5, 2) by decide +kernel)
theorem s49_72 : wp K d 49 72 L (.inl y :: .inl x :: st) h Q = ((0 ≤ y ∧ y < 32) ∧ wp K d 49 73 L (.inl (w32 (x * 2 ^ y.toNat)) :: st) h Q) := w_ishl pt49 (show decode e49.b 72 = .ok (.ishl, 1) by decide +kernel)
theorem s49_73 : wp K d 49 73 L st h Q = wp K d 49 74 L (.inl (-1) :: st) h Q := w_iconst (z := (-1)) (by decide) pt49 (show decode e49.b 73 = .ok (.iconst (-1), 1) by decide +kernel)
theorem s49_74 : wp K d 49 74 L (.inl y :: .inl x :: st) h Q = wp K d 49 75 L (.inl (bXor x y) :: st) h Q := w_ixor pt49 (show decode e49.b 74 = .ok (.ixor, 1) by decide +kernel)
theorem s49_75 : wp K d 49 75 L (.inl y :: .inl x :: st) h Q = wp K d 49 76 L (.inl (bAnd x y) :: st) h Q := w_iand pt49 (show decode e49.b 75 = .ok (.iand, 1) by decide +kernel)
theorem s49_76 : wp K d 49 76 (a0 :: a1 :: w :: L) (.inl x :: st) h Q = wp K d 49 77 (a0 :: a1 :: .inl x :: L) st h Q := w_istore_n (j := 2) (ll2 ..) (Or.inl rfl) pt49 (show decode e49.b 76 = .ok (.istore_n 2, 1) by decide +kernel)
theorem s49_77 : wp K d 49 77 (a0 :: a1 :: a2 :: a3 :: a4 :: .inl x :: L) st h Q = wp K d 49 80 (a0 :: a1 :: a2 :: a3 :: a4 :: .inl (w32 (x + (1))) :: L) st h Q := w_iinc (j := 5) (z := (1)) rfl (Or.inl rfl) (by decide) pt49 (show decode e49.b 77 = .ok (.iinc 5 (1), 3) by decide +kernel)
theorem s49_80 : wp K d 49 80 L st h Q = wp K d 49 27 L st h Q := w_goto rfl pt49 (show decode e49.b 80 = .ok (.goto (-53), 3) by decide +kernel)
theorem s49_83 : wp K d 49 83 (a0 :: a1 :: a2 :: .inl x :: L) st h Q = wp K d 49 86 (a0 :: a1 :: a2 :: .inl (w32 (x + (1))) :: L) st h Q := w_iinc (j := 3) (z := (1)) rfl (Or.inl rfl) (by decide) pt49 (show decode e49.b 83 = .ok (.iinc 3 (1), 3) by decide +kernel)
theorem s49_86 : wp K d 49 86 L st h Q = wp K d 49 11 L st h Q := w_goto rfl pt49 (show decode e49.b 86 = .ok (.goto (-75), 3) by decide +kernel)
theorem s49_89 : wp K d 49 89 (a0 :: a1 :: .inl x :: L) st h Q = wp K d 49 90 (a0 :: a1 :: .inl x :: L) (.inl x :: st) h Q := w_iload_n (j := 2) rfl pt49 (show decode e49.b 89 = .ok (.iload_n 2, 1) by decide +kernel)
theorem s49_90 : wp K d 49 90 L [.inl x] h Q = Q (some (.inl x)) h := w_ireturn pt49 (show decode e49.b 90 = .ok (.ireturn, 1) by decide +kernel) rfl
theorem s50_0 : wp K d 50 0 (.inr (.inr (.inl a)) :: L) st h Q = wp K d 50 1 (.inr (.inr (.inl a)) :: L) (.inr (.inr (.inl a)) :: st) h Q := w_aload_n (j := 0) rfl pt50 (show decode e50.b 0 = .ok (.aload_n 0, 1) by decide +kernel)
theorem s50_1 : wp K d 50 1 (a0 :: .inr (.inr (.inl a)) :: L) st h Q = wp K d 50 2 (a0 :: .inr (.inr (.inl a)) :: L) (.inr (.inr (.inl a)) :: st) h Q := w_aload_n (j := 1) rfl pt50 (show decode e50.b 1 = .ok (.aload_n 1, 1) by decide +kernel)
theorem s50_2 : wp K (d + 1) 50 2 L [.inr (.inr (.inl b0)), .inr (.inr (.inl a))] h Q = (isO K a 3 ∧ wp K d 48 0 [.inr (.inr (.inl a)), .inr (.inr (.inl b0)), vU, vU, vU, vU] [] h (fun r h' => wp K (d + 1) 50 5 L (r.toList ++ []) h' Q)) := w_callV pt50 (show decode e50.b 2 = .ok (.invokevirtual 45, 3) by decide +kernel) mr_4_45 pt48 rfl rfl (as := [.inr (.inr (.inl b0))]) (rest := []) rfl rfl (Nat.le_of_ble_eq_true rfl) rfl (by decide) rfl
theorem s50_5 : wp K d 50 5 (a0 :: a1 :: w :: L) (.inl x :: st) h Q = wp K d 50 6 (a0 :: a1 :: .inl x :: L) st h Q := w_istore_n (j := 2) (ll2 ..) (Or.inl rfl) pt50 (show decode e50.b 5 = .ok (.istore_n 2, 1) by decide +kernel)
theorem s50_6 : wp K d 50 6 L st h Q = wp K d 50 8 L (.inl (-9) :: st) h Q := w_bipush (z := (-9)) (by decide) pt50 (show decode e50.b 6 = .ok (.bipush (-9), 2) by decide +kernel)
theorem s50_8 : wp K d 50 8 (a0 :: a1 :: a2 :: w :: L) (.inl x :: st) h Q = wp K d 50 9 (a0 :: a1 :: a2 :: .inl x :: L) st h Q := w_istore_n (j := 3) (ll3 ..) (Or.inl rfl) pt50 (show decode e50.b 8 = .ok (.istore_n 3, 1) by decide +kernel)
theorem s50_9 : wp K d 50 9 L st h Q = wp K d 50 10 L (.inl (0) :: st) h Q := w_iconst (z := (0)) (by decide) pt50 (show decode e50.b 9 = .ok (.iconst (0), 1) by decide +kernel)
theorem s50_10 : wp K d 50 10 (a0 :: a1 :: a2 :: a3 :: w :: L) (.inl x :: st) h Q = wp K d 50 12 (a0 :: a1 :: a2 :: a3 :: .inl x :: L) st h Q := w_istore (j := 4) (ll4 ..) (Or.inl rfl) pt50 (show decode e50.b 10 = .ok (.istore 4, 2) by decide +kernel)
theorem s50_12 : wp K d 50 12 (a0 :: a1 :: a2 :: a3 :: .inl x :: L) st h Q = wp K d 50 14 (a0 :: a1 :: a2 :: a3 :: .inl x :: L) (.inl x :: st) h Q := w_iload (j := 4) rfl pt50 (show decode e50.b 12 = .ok (.iload 4, 2) by decide +kernel)
theorem s50_14 : wp K d 50 14 (a0 :: .inr (.inr (.inl a)) :: L) st h Q = wp K d 50 15 (a0 :: .inr (.inr (.inl a)) :: L) (.inr (.inr (.inl a)) :: st) h Q := w_aload_n (j := 1) rfl pt50 (show decode e50.b 14 = .ok (.aload_n 1, 1) by decide +kernel)
theorem s50_15 : wp K d 50 15 L (.inr (.inr (.inl a)) :: st) h Q = (isO K a 0 ∧ wp K d 50 18 L (.inl (h a 0) :: st) h Q) := w_getI fr_4_22 (by decide) pt50 (show decode e50.b 15 = .ok (.getfield 22, 3) by decide +kernel)
theorem s50_18 : wp K d 50 18 L (.inl y :: .inl x :: st) h Q = if y ≤ x then wp K d 50 80 L st h Q else wp K d 50 21 L st h Q := w_icmpge rfl pt50 (show decode e50.b 18 = .ok (.if_icmp .ge (62), 3) by decide +kernel)
theorem s50_21 : wp K d 50 21 (a0 :: a1 :: a2 :: a3 :: .inl x :: L) st h Q = wp K d 50 23 (a0 :: a1 :: a2 :: a3 :: .inl x :: L) (.inl x :: st) h Q := w_iload (j := 4) rfl pt50 (show decode e50.b 21 = .ok (.iload 4, 2) by decide +kernel)
theorem s50_23 : wp K d 50 23 L st h Q = wp K d 50 24 L (.inl (1) :: st) h Q := w_iconst (z := (1)) (by decide) pt50 (show decode e50.b 23 = .ok (.iconst (1), 1) by decide +kernel)
theorem s50_24 : wp K d 50 24 L (.inl y :: .inl x :: st) h Q = wp K d 50 25 L (.inl (w32 (x + y)) :: st) h Q := w_iadd pt50 (show decode e50.b 24 = .ok (.iadd, 1) by decide +kernel)
theorem s50_25 : wp K d 50 25 (a0 :: a1 :: a2 :: a3 :: a4 :: w :: L) (.inl x :: st) h Q = wp K d 50 27 (a0 :: a1 :: a2 :: a3 :: a4 :: .inl x :: L) st h Q := w_istore (j := 5) (ll5 ..) (Or.inl rfl) pt50 (show decode e50.b 25 = .ok (.istore 5, 2) by decide +kernel)
theorem s50_27 : wp K d 50 27 (a0 :: a1 :: a2 :: a3 :: a4 :: .inl x :: L) st h Q = wp K d 50 29 (a0 :: a1 :: a2 :: a3 :: a4 :: .inl x :: L) (.inl x :: st) h Q := w_iload (j := 5) rfl pt50 (show decode e50.b 27 = .ok (.iload 5, 2) by decide +kernel)
theorem s50_29 : wp K d 50 29 (a0 :: .inr (.inr (.inl a)) :: L) st h Q = wp K d 50 30 (a0 :: .inr (.inr (.inl a)) :: L) (.inr (.inr (.inl a)) :: st) h Q := w_aload_n (j := 1) rfl pt50 (show decode e50.b 29 = .ok (.aload_n 1, 1) by decide +kernel)
theorem s50_30 : wp K d 50 30 L (.inr (.inr (.inl a)) :: st) h Q = (isO K a 0 ∧ wp K d 50 33 L (.inl (h a 0) :: st) h Q) := w_getI fr_4_22 (by decide) pt50 (show decode e50.b 30 = .ok (.getfield 22, 3) by decide +kernel)
theorem s50_33 : wp K d 50 33 L (.inl y :: .inl x :: st) h Q = if y ≤ x then wp K d 50 74 L st h Q else wp K d 50 36 L st h Q := w_icmpge rfl pt50 (show decode e50.b 33 = .ok (.if_icmp .ge (41), 3) by decide +kernel)
theorem s50_36 : wp K d 50 36 (.inr (.inr (.inl a)) :: L) st h Q = wp K d 50 37 (.inr (.inr (.inl a)) :: L) (.inr (.inr (.inl a)) :: st) h Q := w_aload_n (j := 0) rfl pt50 (show decode e50.b 36 = .ok (.aload_n 0, 1) by decide +kernel)
theorem s50_37 : wp K d 50 37 (a0 :: .inr (.inr (.inl a)) :: L) st h Q = wp K d 50 38 (a0 :: .inr (.inr (.inl a)) :: L) (.inr (.inr (.inl a)) :: st) h Q := w_aload_n (j := 1) rfl pt50 (show decode e50.b 37 = .ok (.aload_n 1, 1) by decide +kernel)
theorem s50_38 : wp K d 50 38 L (.inr (.inr (.inl a)) :: st) h Q = (isO K a 0 ∧ wp K d 50 41 L (.inl (h a 0) :: st) h Q) := w_getI fr_4_22 (by decide) pt50 (show decode e50.b 38 = .ok (.getfield 22, 3) by decide +kernel)
theorem s50_41 : wp K d 50 41 (a0 :: a1 :: a2 :: a3 :: .inl x :: L) st h Q = wp K d 50 43 (a0 :: a1 :: a2 :: a3 :: .inl x :: L) (.inl x :: st) h Q := w_iload (j := 4) rfl pt50 (show decode e50.b 41 = .ok (.iload 4, 2) by decide +kernel)
theorem s50_43 : wp K d 50 43 (a0 :: a1 :: a2 :: a3 :: a4 :: .inl x :: L) st h Q = wp K d 50 45 (a0 :: a1 :: a2 :: a3 :: a4 :: .inl x :: L) (.inl x :: st) h Q := w_iload (j := 5) rfl pt50 (show decode e50.b 43 = .ok (.iload 5, 2) by decide +kernel)
theorem s50_45 : wp K (d + 1) 50 45 L [.inl z2, .inl z1, .inl z0, .inr (.inr (.inl a))] h Q = (isO K a 3 ∧ wp K d 51 0 [.inr (.inr (.inl a)), .inl z0, .inl z1, .inl z2, vU, vU] [] h (fun r h' => wp K (d + 1) 50 48 L (r.toList ++ []) h' Q)) := w_callV pt50 (show decode e50.b 45 = .ok (.invokevirtual 49, 3) by decide +kernel) mr_4_49 pt51 rfl rfl (as := [.inl z2, .inl z1, .inl z0]) (rest := []) rfl rfl (Nat.le_of_ble_eq_true rfl) rfl (by decide) rfl
theorem s50_48 : wp K d 50 48 (a0 :: a1 :: a2 :: a3 :: a4 :: a5 :: w :: L) (.inl x :: st) h Q = wp K d 50 50 (a0 :: a1 :: a2 :: a3 :: a4 :: a5 :: .inl x :: L) st h Q := w_istore (j := 6) (ll6 ..) (Or.inl rfl) pt50 (show decode e50.b 48 = .ok (.istore 6, 2) by decide +kernel)
theorem s50_50 : wp K d 50 50 (a0 :: a1 :: a2 :: a3 :: a4 :: a5 :: .inl x :: L) st h Q = wp K d 50 52 (a0 :: a1 :: a2 :: a3 :: a4 :: a5 :: .inl x :: L) (.inl x :: st) h Q := w_iload (j := 6) rfl pt50 (show decode e50.b 50 = .ok (.iload 6, 2) by decide +kernel)
theorem s50_52 : wp K d 50 52 (a0 :: a1 :: .inl x :: L) st h Q = wp K d 50 53 (a0 :: a1 :: .inl x :: L) (.inl x :: st) h Q := w_iload_n (j := 2) rfl pt50 (show decode e50.b 52 = .ok (.iload_n 2, 1) by decide +kernel)
theorem s50_53 : wp K d 50 53 L (.inl y :: .inl x :: st) h Q = if y ≤ x then wp K d 50 68 L st h Q else wp K d 50 56 L st h Q := w_icmpge rfl pt50 (show decode e50.b 53 = .ok (.if_icmp .ge (15), 3) by decide +kernel)
theorem s50_56 : wp K d 50 56 (a0 :: a1 :: a2 :: a3 :: a4 :: a5 :: .inl x :: L) st h Q = wp K d 50 58 (a0 :: a1 :: a2 :: a3 :: a4 :: a5 :: .inl x :: L) (.inl x :: st) h Q := w_iload (j := 6) rfl pt50 (show decode e50.b 56 = .ok (.iload 6, 2) by decide +kernel)
theorem s50_58 : wp K d 50 58 (a0 :: a1 :: w :: L) (.inl x :: st) h Q = wp K d 50 59 (a0 :: a1 :: .inl x :: L) st h Q := w_istore_n (j := 2) (ll2 ..) (Or.inl rfl) pt50 (show decode e50.b 58 = .ok (.istore_n 2, 1) by decide +kernel)
theorem s50_59 : wp K d 50 59 L st h Q = wp K d 50 61 L (.inl (10) :: st) h Q := w_bipush (z := (10)) (by decide) pt50 (show decode e50.b 59 = .ok (.bipush (10), 2) by decide +kernel)
theorem s50_61 : wp K d 50 61 (a0 :: a1 :: a2 :: a3 :: .inl x :: L) st h Q = wp K d 50 63 (a0 :: a1 :: a2 :: a3 :: .inl x :: L) (.inl x :: st) h Q := w_iload (j := 4) rfl pt50 (show decode e50.b 61 = .ok (.iload 4, 2) by decide +kernel)
theorem s50_63 : wp K d 50 63 L (.inl y :: .inl x :: st) h Q = wp K d 50 64 L (.inl (w32 (x * y)) :: st) h Q := w_imul pt50 (show decode e50.b 63 = .ok (.imul, 1) by decide +kernel)
theorem s50_64 : wp K d 50 64 (a0 :: a1 :: a2 :: a3 :: a4 :: .inl x :: L) st h Q = wp K d 50 66 (a0 :: a1 :: a2 :: a3 :: a4 :: .inl x :: L) (.inl x :: st) h Q := w_iload (j := 5) rfl pt50 (show decode e50.b 64 = .ok (.iload 5, 2) by decide +kernel)
theorem s50_66 : wp K d 50 66 L (.inl y :: .inl x :: st) h Q = wp K d 50 67 L (.inl (w32 (x + y)) :: st) h Q := w_iadd pt50 (show decode e50.b 66 = .ok (.iadd, 1) by decide +kernel)
theorem s50_67 : wp K d 50 67 (a0 :: a1 :: a2 :: w :: L) (.inl x :: st) h Q = wp K d 50 68 (a0 :: a1 :: a2 :: .inl x :: L) st h Q := w_istore_n (j := 3) (ll3 ..) (Or.inl rfl) pt50 (show decode e50.b 67 = .ok (.istore_n 3, 1) by decide +kernel)
theorem s50_68 : wp K d 50 68 (a0 :: a1 :: a2 :: a3 :: a4 :: .inl x :: L) st h Q = wp K d 50 71 (a0 :: a1 :: a2 :: a3 :: a4 :: .inl (w32 (x + (1))) :: L) st h Q := w_iinc (j := 5) (z := (1)) rfl (Or.inl rfl) (by decide) pt50 (show decode e50.b 68 = .ok (.iinc 5 (1), 3) by decide +kernel)
theorem s50_71 : wp K d 50 71 L st h Q = wp K d 50 27 L st h Q := w_goto rfl pt50 (show decode e50.b 71 = .ok (.goto (-44), 3) by decide +kernel)
theorem s50_74 : wp K d 50 74 (a0 :: a1 :: a2 :: a3 :: .inl x :: L) st h Q = wp K d 50 77 (a0 :: a1 :: a2 :: a3 :: .inl (w32 (x + (1))) :: L) st h Q := w_iinc (j := 4) (z := (1)) rfl (Or.inl rfl) (by decide) pt50 (show decode e50.b 74 = .ok (.iinc 4 (1), 3) by decide +kernel)
theorem s50_77 : wp K d 50 77 L st h Q = wp K d 50 12 L st h Q := w_goto rfl pt50 (show decode e50.b 77 = .ok (.goto (-65), 3) by decide +kernel)
theorem s50_80 : wp K d 50 80 (a0 :: a1 :: a2 :: .inl x :: L) st h Q = wp K d 50 81 (a0 :: a1 :: a2 :: .inl x :: L) (.inl x :: st) h Q := w_iload_n (j := 3) rfl pt50 (show decode e50.b 80 = .ok (.iload_n 3, 1) by decide +kernel)
theorem s50_81 : wp K d 50 81 L [.inl x] h Q = Q (some (.inl x)) h := w_ireturn pt50 (show decode e50.b 81 = .ok (.ireturn, 1) by decide +kernel) rfl
theorem s51_0 : wp K d 51 0 L st h Q = wp K d 51 1 L (.inl (0) :: st) h Q := w_iconst (z := (0)) (by decide) pt51 (show decode e51.b 0 = .ok (.iconst (0), 1) by decide +kernel)
theorem s51_1 : wp K d 51 1 (a0 :: a1 :: a2 :: a3 :: w :: L) (.inl x :: st) h Q = wp K d 51 3 (a0 :: a1 :: a2 :: a3 :: .inl x :: L) st h Q := w_istore (j := 4) (ll4 ..) (Or.inl rfl) pt51 (show decode e51.b 1 = .ok (.istore 4, 2) by decide +kernel)
theorem s51_3 : wp K d 51 3 L st h Q = wp K d 51 4 L (.inl (0) :: st) h Q := w_iconst (z := (0)) (by decide) pt51 (show decode e51.b 3 = .ok (.iconst (0), 1) by decide +kernel)
theorem s51_4 : wp K d 51 4 (a0 :: a1 :: a2 :: a3 :: a4 :: w :: L) (.inl x :: st) h Q = wp K d 51 6 (a0 :: a1 :: a2 :: a3 :: a4 :: .inl x :: L) st h Q := w_istore (j := 5) (ll5 ..) (Or.inl rfl) pt51 (show decode e51.b 4 = .ok (.istore 5, 2) by decide +kernel)
theorem s51_6 : wp K d 51 6 (a0 :: a1 :: a2 :: a3 :: a4 :: .inl x :: L) st h Q = wp K d 51 8 (a0 :: a1 :: a2 :: a3 :: a4 :: .inl x :: L) (.inl x :: st) h Q := w_iload (j := 5) rfl pt51 (show decode e51.b 6 = .ok (.iload 5, 2) by decide +kernel)
theorem s51_8 : wp K d 51 8 L st h Q = wp K d 51 9 L (.inl (1) :: st) h Q := w_iconst (z := (1)) (by decide) pt51 (show decode e51.b 8 = .ok (.iconst (1), 1) by decide +kernel)
theorem s51_9 : wp K d 51 9 (a0 :: .inl x :: L) st h Q = wp K d 51 10 (a0 :: .inl x :: L) (.inl x :: st) h Q := w_iload_n (j := 1) rfl pt51 (show decode e51.b 9 = .ok (.iload_n 1, 1) by decide +kernel)
theorem s51_10 : wp K d 51 10 L (.inl y :: .inl x :: st) h Q = ((0 ≤ y ∧ y < 32) ∧ wp K d 51 11 L (.inl (w32 (x * 2 ^ y.toNat)) :: st) h Q) := w_ishl pt51 (show decode e51.b 10 = .ok (.ishl, 1) by decide +kernel)
theorem s51_11 : wp K d 51 11 L (.inl y :: .inl x :: st) h Q = if y ≤ x then wp K d 51 41 L st h Q else wp K d 51 14 L st h Q := w_icmpge rfl pt51 (show decode e51.b 11 = .ok (.if_icmp .ge (30), 3) by decide +kernel)
theorem s51_14 : wp K d 51 14 (.inr (.inr (.inl a)) :: L) st h Q = wp K d 51 15 (.inr (.inr (.inl a)) :: L) (.inr (.inr (.inl a)) :: st) h Q := w_aload_n (j := 0) rfl pt51 (show decode e51.b 14 = .ok (.aload_n 0, 1) by decide +kernel)
theorem s51_15 : wp K d 51 15 L (.inr (.inr (.inl a)) :: st) h Q = (isO K a 3 ∧ wp K d 51 18 L (.inr (.inr (.inl (rT K a 1))) :: st) h Q) := w_getR fr_4_15 (by decide) pt51 (show decode e51.b 15 = .ok (.getfield 15, 3) by decide +kernel)
theorem s51_18 : wp K d 51 18 (a0 :: a1 :: a2 :: a3 :: a4 :: .inl x :: L) st h Q = wp K d 51 20 (a0 :: a1 :: a2 :: a3 :: a4 :: .inl x :: L) (.inl x :: st) h Q := w_iload (j := 5) rfl pt51 (show decode e51.b 18 = .ok (.iload 5, 2) by decide +kernel)
theorem s51_20 : wp K d 51 20 L (.inl x :: .inr (.inr (.inl a)) :: st) h Q = ((0 ≤ x ∧ x < alen K h a) ∧ wp K d 51 21 L (.inl (h a x.toNat) :: st) h Q) := w_iaload pt51 (show decode e51.b 20 = .ok (.iaload, 1) by decide +kernel)
theorem s51_21 : wp K d 51 21 (a0 :: a1 :: .inl x :: L) st h Q = wp K d 51 22 (a0 :: a1 :: .inl x :: L) (.inl x :: st) h Q := w_iload_n (j := 2) rfl pt51 (show decode e51.b 21 = .ok (.iload_n 2, 1) by decide +kernel)
theorem s51_22 : wp K d 51 22 (a0 :: a1 :: a2 :: .inl x :: L) st h Q = wp K d 51 23 (a0 :: a1 :: a2 :: .inl x :: L) (.inl x :: st) h Q := w_iload_n (j := 3) rfl pt51 (show decode e51.b 22 = .ok (.iload_n 3, 1) by decide +kernel)
theorem s51_23 : wp K (d + 1) 51 23 L [.inl z2, .inl z1, .inl z0] h Q = wp K d 46 0 [.inl z0, .inl z1, .inl z2, vU] [] h (fun r h' => wp K (d + 1) 51 26 L (r.toList ++ []) h' Q) := w_callS pt51 (show decode e51.b 23 = .ok (.invokestatic 37, 3) by decide +kernel) mr_4_37 pt46 rfl (by decide) (as := [.inl z2, .inl z1, .inl z0]) (rest := []) rfl rfl (Nat.le_of_ble_eq_true rfl) (Or.inr rfl) (Nat.le_of_ble_eq_true rfl) rfl
theorem s51_26 : wp K (d + 1) 51 26 L [.inl z0] h Q = wp K d 47 0 [.inl z0] [] h (fun r h' => wp K (d + 1) 51 29 L (r.toList ++ []) h' Q) := w_callS pt51 (show decode e51.b 26 = .ok (.invokestatic 41, 3) by decide +kernel) mr_4_41 pt47 rfl (by decide) (as := [.inl z0]) (rest := []) rfl rfl (Nat.le_of_ble_eq_true rfl) (Or.inr rfl) (Nat.le_of_ble_eq_true rfl) rfl
theorem s51_29 : wp K d 51 29 L (.inl x :: st) h Q = if x ≠ 0 then wp K d 51 35 L st h Q else wp K d 51 32 L st h Q := w_ifne rfl pt51 (show decode e51.b 29 = .ok (.ifCond .ne (6), 3) by decide +kernel)
theorem s51_32 : wp K d 51 32 (a0 :: a1 :: a2 :: a3 :: .inl x :: L) st h Q = wp K d 51 35 (a0 :: a1 :: a2 :: a3 :: .inl (w32 (x + (1))) :: L) st h Q := w_iinc (j := 4) (z := (1)) rfl (Or.inl rfl) (by decide) pt51 (show decode e51.b 32 = .ok (.iinc 4 (1), 3) by decide +kernel)
theorem s51_35 : wp K d 51 35 (a0 :: a1 :: a2 :: a3 :: a4 :: .inl x :: L) st h Q = wp K d 51 38 (a0 :: a1 :: a2 :: a3 :: a4 :: .inl (w32 (x + (1))) :: L) st h Q := w_iinc (j := 5) (z := (1)) rfl (Or.inl rfl) (by decide) pt51 (show decode e51.b 35 = .ok (.iinc 5 (1), 3) by decide +kernel)
theorem s51_38 : wp K d 51 38 L st h Q = wp K d 51 6 L st h Q := w_goto rfl pt51 (show decode e51.b 38 = .ok (.goto (-32), 3) by decide +kernel)
theorem s51_41 : wp K d 51 41 (a0 :: a1 :: a2 :: a3 :: .inl x :: L) st h Q = wp K d 51 43 (a0 :: a1 :: a2 :: a3 :: .inl x :: L) (.inl x :: st) h Q := w_iload (j := 4) rfl pt51 (show decode e51.b 41 = .ok (.iload 4, 2) by decide +kernel)
theorem s51_43 : wp K d 51 43 L [.inl x] h Q = Q (some (.inl x)) h := w_ireturn pt51 (show decode e51.b 43 = .ok (.ireturn, 1) by decide +kernel) rfl
theorem s52_0 : wp K d 52 0 L st h Q = wp K d 52 1 L (.inl (0) :: st) h Q := w_iconst (z := (0)) (by decide) pt52 (show decode e52.b 0 = .ok (.iconst (0), 1) by decide +kernel)
theorem s52_1 : wp K d 52 1 (a0 :: a1 :: w :: L) (.inl x :: st) h Q = wp K d 52 2 (a0 :: a1 :: .inl x :: L) st h Q := w_istore_n (j := 2) (ll2 ..) (Or.inl rfl) pt52 (show decode e52.b 1 = .ok (.istore_n 2, 1) by decide +kernel)
theorem s52_2 : wp K d 52 2 (a0 :: a1 :: .inl x :: L) st h Q = wp K d 52 3 (a0 :: a1 :: .inl x :: L) (.inl x :: st) h Q := w_iload_n (j := 2) rfl pt52 (show decode e52.b 2 = .ok (.iload_n 2, 1) by decide +kernel)
theorem s52_3 : wp K d 52 3 L st h Q = wp K d 52 5 L (.inl (6) :: st) h Q := w_bipush (z := (6)) (by decide) pt52 (show decode e52.b 3 = .ok (.bipush (6), 2) by decide +kernel)
theorem s52_5 : wp K d 52 5 L (.inl y :: .inl x :: st) h Q = if y ≤ x then wp K d 52 21 L st h Q else wp K d 52 8 L st h Q := w_icmpge rfl pt52 (show decode e52.b 5 = .ok (.if_icmp .ge (16), 3) by decide +kernel)
theorem s52_8 : wp K d 52 8 (.inr (.inr (.inl a)) :: L) st h Q = wp K d 52 9 (.inr (.inr (.inl a)) :: L) (.inr (.inr (.inl a)) :: st) h Q := w_aload_n (j := 0) rfl pt52 (show decode e52.b 8 = .ok (.aload_n 0, 1) by decide +kernel)
theorem s52_9 : wp K d 52 9 L (.inr (.inr (.inl a)) :: st) h Q = (isO K a 3 ∧ wp K d 52 12 L (.inr (.inr (.inl (rT K a 0))) :: st) h Q) := w_getR fr_4_9 (by decide) pt52 (show decode e52.b 9 = .ok (.getfield 9, 3) by decide +kernel)
theorem s52_12 : wp K d 52 12 (a0 :: a1 :: .inl x :: L) st h Q = wp K d 52 13 (a0 :: a1 :: .inl x :: L) (.inl x :: st) h Q := w_iload_n (j := 2) rfl pt52 (show decode e52.b 12 = .ok (.iload_n 2, 1) by decide +kernel)
theorem s52_13 : wp K d 52 13 L st h Q = wp K d 52 14 L (.inl (0) :: st) h Q := w_iconst (z := (0)) (by decide) pt52 (show decode e52.b 13 = .ok (.iconst (0), 1) by decide +kernel)
theorem s52_14 : wp K d 52 14 L (.inl y :: .inl x :: .inr (.inr (.inl a)) :: st) h Q = ((0 ≤ x ∧ x < aln K a) ∧ wp K d 52 15 L st (hput h a x.toNat y) Q) := w_iastore pt52 (show decode e52.b 14 = .ok (.iastore, 1) by decide +kernel)
theorem s52_15 : wp K d 52 15 (a0 :: a1 :: .inl x :: L) st h Q = wp K d 52 18 (a0 :: a1 :: .inl (w32 (x + (1))) :: L) st h Q := w_iinc (j := 2) (z := (1)) rfl (Or.inl rfl) (by decide) pt52 (show decode e52.b 15 = .ok (.iinc 2 (1), 3) by decide +kernel)
theorem s52_18 : wp K d 52 18 L st h Q = wp K d 52 2 L st h Q := w_goto rfl pt52 (show decode e52.b 18 = .ok (.goto (-16), 3) by decide +kernel)
theorem s52_21 : wp K d 52 21 L st h Q = wp K d 52 22 L (.inl (0) :: st) h Q := w_iconst (z := (0)) (by decide) pt52 (show decode e52.b 21 = .ok (.iconst (0), 1) by decide +kernel)
theorem s52_22 : wp K d 52 22 (a0 :: a1 :: w :: L) (.inl x :: st) h Q = wp K d 52 23 (a0 :: a1 :: .inl x :: L) st h Q := w_istore_n (j := 2) (ll2 ..) (Or.inl rfl) pt52 (show decode e52.b 22 = .ok (.istore_n 2, 1) by decide +kernel)
theorem s52_23 : wp K d 52 23 L st h Q = wp K d 52 24 L (.inl (0) :: st) h Q := w_iconst (z := (0)) (by decide) pt52 (show decode e52.b 23 = .ok (.iconst (0), 1) by decide +kernel)
theorem s52_24 : wp K d 52 24 (a0 :: a1 :: a2 :: w :: L) (.inl x :: st) h Q = wp K d 52 25 (a0 :: a1 :: a2 :: .inl x :: L) st h Q := w_istore_n (j := 3) (ll3 ..) (Or.inl rfl) pt52 (show decode e52.b 24 = .ok (.istore_n 3, 1) by decide +kernel)
theorem s52_25 : wp K d 52 25 (a0 :: a1 :: a2 :: .inl x :: L) st h Q = wp K d 52 26 (a0 :: a1 :: a2 :: .inl x :: L) (.inl x :: st) h Q := w_iload_n (j := 3) rfl pt52 (show decode e52.b 25 = .ok (.iload_n 3, 1) by decide +kernel)
theorem s52_26 : wp K d 52 26 (a0 :: .inr (.inr (.inl a)) :: L) st h Q = wp K d 52 27 (a0 :: .inr (.inr (.inl a)) :: L) (.inr (.inr (.inl a)) :: st) h Q := w_aload_n (j := 1) rfl pt52 (show decode e52.b 26 = .ok (.aload_n 1, 1) by decide +kernel)
theorem s52_27 : wp K d 52 27 L (.inr (.inr (.inl a)) :: st) h Q = (isO K a 0 ∧ wp K d 52 30 L (.inl (h a 8) :: st) h Q) := w_getI fr_4_28 (by decide) pt52 (show decode e52.b 27 = .ok (.getfield 28, 3) by decide +kernel)
theorem s52_30 : wp K d 52 30 L (.inl y :: .inl x :: st) h Q = if y ≤ x then wp K d 52 101 L st h Q else wp K d 52 33 L st h Q := w_icmpge rfl pt52 (show decode e52.b 30 = .ok (.if_icmp .ge (71), 3) by decide +kernel)
theorem s52_33 : wp K d 52 33 (a0 :: .inr (.inr (.inl a)) :: L) st h Q = wp K d 52 34 (a0 :: .inr (.inr (.inl a)) :: L) (.inr (.inr (.inl a)) :: st) h Q := w_aload_n (j := 1) rfl pt52 (show decode e52.b 33 = .ok (.aload_n 1, 1) by decide +kernel)
theorem s52_34 : wp K d 52 34 L (.inr (.inr (.inl a)) :: st) h Q = (isO K a 0 ∧ wp K d 52 37 L (.inr (.inr (.inl (rT K a 9))) :: st) h Q) := w_getR fr_4_31 (by decide) pt52 (show decode e52.b 34 = .ok (.getfield 31, 3) by decide +kernel)
theorem s52_37 : wp K d 52 37 (a0 :: a1 :: a2 :: .inl x :: L) st h Q = wp K d 52 38 (a0 :: a1 :: a2 :: .inl x :: L) (.inl x :: st) h Q := w_iload_n (j := 3) rfl pt52 (show decode e52.b 37 = .ok (.iload_n 3, 1) by decide +kernel)
theorem s52_38 : wp K d 52 38 L (.inl x :: .inr (.inr (.inl a)) :: st) h Q = ((0 ≤ x ∧ x < alen K h a) ∧ wp K d 52 39 L (.inl (h a x.toNat) :: st) h Q) := w_iaload pt52 (show decode e52.b 38 = .ok (.iaload, 1) by decide +kernel)
theorem s52_39 : wp K d 52 39 (a0 :: a1 :: a2 :: a3 :: w :: L) (.inl x :: st) h Q = wp K d 52 41 (a0 :: a1 :: a2 :: a3 :: .inl x :: L) st h Q := w_istore (j := 4) (ll4 ..) (Or.inl rfl) pt52 (show decode e52.b 39 = .ok (.istore 4, 2) by decide +kernel)
theorem s52_41 : wp K d 52 41 (a0 :: .inr (.inr (.inl a)) :: L) st h Q = wp K d 52 42 (a0 :: .inr (.inr (.inl a)) :: L) (.inr (.inr (.inl a)) :: st) h Q := w_aload_n (j := 1) rfl pt52 (show decode e52.b 41 = .ok (.aload_n 1, 1) by decide +kernel)
theorem s52_42 : wp K d 52 42 L (.inr (.inr (.inl a)) :: st) h Q = (isO K a 0 ∧ wp K d 52 45 L (.inr (.inr (.inl (rT K a 10))) :: st) h Q) := w_getR fr_4_34 (by decide) pt52 (show decode e52.b 42 = .ok (.getfield 34, 3) by decide +kernel)
theorem s52_45 : wp K d 52 45 (a0 :: a1 :: a2 :: .inl x :: L) st h Q = wp K d 52 46 (a0 :: a1 :: a2 :: .inl x :: L) (.inl x :: st) h Q := w_iload_n (j := 3) rfl pt52 (show decode e52.b 45 = .ok (.iload_n 3, 1) by decide +kernel)
theorem s52_46 : wp K d 52 46 L (.inl x :: .inr (.inr (.inl a)) :: st) h Q = ((0 ≤ x ∧ x < alen K h a) ∧ wp K d 52 47 L (.inl (h a x.toNat) :: st) h Q) := w_iaload pt52 (show decode e52.b 46 = .ok (.iaload, 1) by decide +kernel)
theorem s52_47 : wp K d 52 47 (a0 :: a1 :: a2 :: a3 :: a4 :: w :: L) (.inl x :: st) h Q = wp K d 52 49 (a0 :: a1 :: a2 :: a3 :: a4 :: .inl x :: L) st h Q := w_istore (j := 5) (ll5 ..) (Or.inl rfl) pt52 (show decode e52.b 47 = .ok (.istore 5, 2) by decide +kernel)
theorem s52_49 : wp K d 52 49 (.inr (.inr (.inl a)) :: L) st h Q = wp K d 52 50 (.inr (.inr (.inl a)) :: L) (.inr (.inr (.inl a)) :: st) h Q := w_aload_n (j := 0) rfl pt52 (show decode e52.b 49 = .ok (.aload_n 0, 1) by decide +kernel)
theorem s52_50 : wp K d 52 50 L (.inr (.inr (.inl a)) :: st) h Q = (isO K a 3 ∧ wp K d 52 53 L (.inr (.inr (.inl (rT K a 0))) :: st) h Q) := w_getR fr_4_9 (by decide) pt52 (show decode e52.b 50 = .ok (.getfield 9, 3) by decide +kernel)
theorem s52_53 : wp K d 52 53 (a0 :: a1 :: a2 :: a3 :: .inl x :: L) st h Q = wp K d 52 55 (a0 :: a1 :: a2 :: a3 :: .inl x :: L) (.inl x :: st) h Q := w_iload (j := 4) rfl pt52 (show decode e52.b 53 = .ok (.iload 4, 2) by decide +kernel)
theorem s52_55 : wp K d 52 55 L (.inl x :: .inr (.inr (.inl a)) :: st) h Q = ((0 ≤ x ∧ x < alen K h a) ∧ wp K d 52 56 L (.inl (h a x.toNat) :: st) h Q) := w_iaload pt52 (show decode e52.b 55 = .ok (.iaload, 1) by decide +kernel)
theorem s52_56 : wp K d 52 56 (.inr (.inr (.inl a)) :: L) st h Q = wp K d 52 57 (.inr (.inr (.inl a)) :: L) (.inr (.inr (.inl a)) :: st) h Q := w_aload_n (j := 0) rfl pt52 (show decode e52.b 56 = .ok (.aload_n 0, 1) by decide +kernel)
theorem s52_57 : wp K d 52 57 L (.inr (.inr (.inl a)) :: st) h Q = (isO K a 3 ∧ wp K d 52 60 L (.inr (.inr (.inl (rT K a 0))) :: st) h Q) := w_getR fr_4_9 (by decide) pt52 (show decode e52.b 57 = .ok (.getfield 9, 3) by decide +kernel)
theorem s52_60 : wp K d 52 60 (a0 :: a1 :: a2 :: a3 :: a4 :: .inl x :: L) st h Q = wp K d 52 62 (a0 :: a1 :: a2 :: a3 :: a4 :: .inl x :: L) (.inl x :: st) h Q := w_iload (j := 5) rfl pt52 (show decode e52.b 60 = .ok (.iload 5, 2) by decide +kernel)
theorem s52_62 : wp K d 52 62 L (.inl x :: .inr (.inr (.inl a)) :: st) h Q = ((0 ≤ x ∧ x < alen K h a) ∧ wp K d 52 63 L (.inl (h a x.toNat) :: st) h Q) := w_iaload pt52 (show decode e52.b 62 = .ok (.iaload, 1) by decide +kernel)
theorem s52_63 : wp K d 52 63 L [.inl y, .inl x] h Q = wp K d 52 66 L [.inl (if x < y then y else x)] h Q := w_max0 (w := vU) (v := vU) mr_4_52 pt52 (show decode e52.b 63 = .ok (.invokestatic 52, 3) by decide +kernel)
theorem s52_66 : wp K d 52 66 L st h Q = wp K d 52 67 L (.inl (1) :: st) h Q := w_iconst (z := (1)) (by decide) pt52 (show decode e52.b 66 = .ok (.iconst (1), 1) by decide +kernel)
theorem s52_67 : wp K d 52 67 L (.inl y :: .inl x :: st) h Q = wp K d 52 68 L (.inl (w32 (x + y)) :: st) h Q := w_iadd pt52 (show decode e52.b 67 = .ok (.iadd, 1) by decide +kernel)
theorem s52_68 : wp K d 52 68 (a0 :: a1 :: a2 :: a3 :: a4 :: a5 :: w :: L) (.inl x :: st) h Q = wp K d 52 70 (a0 :: a1 :: a2 :: a3 :: a4 :: a5 :: .inl x :: L) st h Q := w_istore (j := 6) (ll6 ..) (Or.inl rfl) pt52 (show decode e52.b 68 = .ok (.istore 6, 2) by decide +kernel)
theorem s52_70 : wp K d 52 70 (.inr (.inr (.inl a)) :: L) st h Q = wp K d 52 71 (.inr (.inr (.inl a)) :: L) (.inr (.inr (.inl a)) :: st) h Q := w_aload_n (j := 0) rfl pt52 (show decode e52.b 70 = .ok (.aload_n 0, 1) by decide +kernel)
theorem s52_71 : wp K d 52 71 L (.inr (.inr (.inl a)) :: st) h Q = (isO K a 3 ∧ wp K d 52 74 L (.inr (.inr (.inl (rT K a 0))) :: st) h Q) := w_getR fr_4_9 (by decide) pt52 (show decode e52.b 71 = .ok (.getfield 9, 3) by decide +kernel)
theorem s52_74 : wp K d 52 74 (a0 :: a1 :: a2 :: a3 :: .inl x :: L) st h Q = wp K d 52 76 (a0 :: a1 :: a2 :: a3 :: .inl x :: L) (.inl x :: st) h Q := w_iload (j := 4) rfl pt52 (show decode e52.b 74 = .ok (.iload 4, 2) by decide +kernel)
theorem s52_76 : wp K d 52 76 (a0 :: a1 :: a2 :: a3 :: a4 :: a5 :: .inl x :: L) st h Q = wp K d 52 78 (a0 :: a1 :: a2 :: a3 :: a4 :: a5 :: .inl x :: L) (.inl x :: st) h Q := w_iload (j := 6) rfl pt52 (show decode e52.b 76 = .ok (.iload 6, 2) by decide +kernel)
theorem s52_78 : wp K d 52 78 L (.inl y :: .inl x :: .inr (.inr (.inl a)) :: st) h Q = ((0 ≤ x ∧ x < aln K a) ∧ wp K d 52 79 L st (hput h a x.toNat y) Q) := w_iastore pt52 (show decode e52.b 78 = .ok (.iastore, 1) by decide +kernel)
theorem s52_79 : wp K d 52 79 (.inr (.inr (.inl a)) :: L) st h Q = wp K d 52 80 (.inr (.inr (.inl a)) :: L) (.inr (.inr (.inl a)) :: st) h Q := w_aload_n (j := 0) rfl pt52 (show decode e52.b 79 = .ok (.aload_n 0, 1) by decide +kernel)
theorem s52_80 : wp K d 52 80 L (.inr (.inr (.inl a)) :: st) h Q = (isO K a 3 ∧ wp K d 52 83 L (.inr (.inr (.inl (rT K a 0))) :: st) h Q) := w_getR fr_4_9 (by decide) pt52 (show decode e52.b 80 = .ok (.getfield 9, 3) by decide +kernel)
theorem s52_83 : wp K d 52 83 (a0 :: a1 :: a2 :: a3 :: a4 :: .inl x :: L) st h Q = wp K d 52 85 (a0 :: a1 :: a2 :: a3 :: a4 :: .inl x :: L) (.inl x :: st) h Q := w_iload (j := 5) rfl pt52 (show decode e52.b 83 = .ok (.iload 5, 2) by decide +kernel)
theorem s52_85 : wp K d 52 85 (a0 :: a1 :: a2 :: a3 :: a4 :: a5 :: .inl x :: L) st h Q = wp K d 52 87 (a0 :: a1 :: a2 :: a3 :: a4 :: a5 :: .inl x :: L) (.inl x :: st) h Q := w_iload (j := 6) rfl pt52 (show decode e52.b 85 = .ok (.iload 6, 2) by decide +kernel)
theorem s52_87 : wp K d 52 87 L (.inl y :: .inl x :: .inr (.inr (.inl a)) :: st) h Q = ((0 ≤ x ∧ x < aln K a) ∧ wp K d 52 88 L st (hput h a x.toNat y) Q) := w_iastore pt52 (show decode e52.b 87 = .ok (.iastore, 1) by decide +kernel)
theorem s52_88 : wp K d 52 88 (a0 :: a1 :: .inl x :: L) st h Q = wp K d 52 89 (a0 :: a1 :: .inl x :: L) (.inl x :: st) h Q := w_iload_n (j := 2) rfl pt52 (show decode e52.b 88 = .ok (.iload_n 2, 1) by decide +kernel)
theorem s52_89 : wp K d 52 89 (a0 :: a1 :: a2 :: a3 :: a4 :: a5 :: .inl x :: L) st h Q = wp K d 52 91 (a0 :: a1 :: a2 :: a3 :: a4 :: a5 :: .inl x :: L) (.inl x :: st) h Q := w_iload (j := 6) rfl pt52 (show decode e52.b 89 = .ok (.iload 6, 2) by decide +kernel)
theorem s52_91 : wp K d 52 91 L [.inl y, .inl x] h Q = wp K d 52 94 L [.inl (if x < y then y else x)] h Q := w_max0 (w := vU) (v := vU) mr_4_52 pt52 (show decode e52.b 91 = .ok (.invokestatic 52, 3) by decide +kernel)
theorem s52_94 : wp K d 52 94 (a0 :: a1 :: w :: L) (.inl x :: st) h Q = wp K d 52 95 (a0 :: a1 :: .inl x :: L) st h Q := w_istore_n (j := 2) (ll2 ..) (Or.inl rfl) pt52 (show decode e52.b 94 = .ok (.istore_n 2, 1) by decide +kernel)
theorem s52_95 : wp K d 52 95 (a0 :: a1 :: a2 :: .inl x :: L) st h Q = wp K d 52 98 (a0 :: a1 :: a2 :: .inl (w32 (x + (1))) :: L) st h Q := w_iinc (j := 3) (z := (1)) rfl (Or.inl rfl) (by decide) pt52 (show decode e52.b 95 = .ok (.iinc 3 (1), 3) by decide +kernel)
theorem s52_98 : wp K d 52 98 L st h Q = wp K d 52 25 L st h Q := w_goto rfl pt52 (show decode e52.b 98 = .ok (.goto (-73), 3) by decide +kernel)
theorem s52_101 : wp K d 52 101 (a0 :: a1 :: .inl x :: L) st h Q = wp K d 52 102 (a0 :: a1 :: .inl x :: L) (.inl x :: st) h Q := w_iload_n (j := 2) rfl pt52 (show decode e52.b 101 = .ok (.iload_n 2, 1) by decide +kernel)
theorem s52_102 : wp K d 52 102 L [.inl x] h Q = Q (some (.inl x)) h := w_ireturn pt52 (show decode e52.b 102 = .ok (.ireturn, 1) by decide +kernel) rfl
theorem s53_0 : wp K d 53 0 L st h Q = wp K d 53 1 L (.inl (0) :: st) h Q := w_iconst (z := (0)) (by decide) pt53 (show decode e53.b 0 = .ok (.iconst (0), 1) by decide +kernel)
theorem s53_1 : wp K d 53 1 (a0 :: a1 :: a2 :: w :: L) (.inl x :: st) h Q = wp K d 53 2 (a0 :: a1 :: a2 :: .inl x :: L) st h Q := w_istore_n (j := 3) (ll3 ..) (Or.inl rfl) pt53 (show decode e53.b 1 = .ok (.istore_n 3, 1) by decide +kernel)
theorem s53_2 : wp K d 53 2 (a0 :: a1 :: a2 :: .inl x :: L) st h Q = wp K d 53 3 (a0 :: a1 :: a2 :: .inl x :: L) (.inl x :: st) h Q := w_iload_n (j := 3) rfl pt53 (show decode e53.b 2 = .ok (.iload_n 3, 1) by decide +kernel)
theorem s53_3 : wp K d 53 3 L st h Q = wp K d 53 5 L (.inl (6) :: st) h Q := w_bipush (z := (6)) (by decide) pt53 (show decode e53.b 3 = .ok (.bipush (6), 2) by decide +kernel)
theorem s53_5 : wp K d 53 5 L (.inl y :: .inl x :: st) h Q = if y ≤ x then wp K d 53 21 L st h Q else wp K d 53 8 L st h Q := w_icmpge rfl pt53 (show decode e53.b 5 = .ok (.if_icmp .ge (16), 3) by decide +kernel)
theorem s53_8 : wp K d 53 8 (.inr (.inr (.inl a)) :: L) st h Q = wp K d 53 9 (.inr (.inr (.inl a)) :: L) (.inr (.inr (.inl a)) :: st) h Q := w_aload_n (j := 0) rfl pt53 (show decode e53.b 8 = .ok (.aload_n 0, 1) by decide +kernel)
theorem s53_9 : wp K d 53 9 L (.inr (.inr (.inl a)) :: st) h Q = (isO K a 3 ∧ wp K d 53 12 L (.inr (.inr (.inl (rT K a 0))) :: st) h Q) := w_getR fr_4_9 (by decide) pt53 (show decode e53.b 9 = .ok (.getfield 9, 3) by decide +kernel)
theorem s53_12 : wp K d 53 12 (a0 :: a1 :: a2 :: .inl x :: L) st h Q = wp K d 53 13 (a0 :: a1 :: a2 :: .inl x :: L) (.inl x :: st) h Q := w_iload_n (j := 3) rfl pt53 (show decode e53.b 12 = .ok (.iload_n 3, 1) by decide +kernel)
theorem s53_13 : wp K d 53 13 (a0 :: a1 :: a2 :: .inl x :: L) st h Q = wp K d 53 14 (a0 :: a1 :: a2 :: .inl x :: L) (.inl x :: st) h Q := w_iload_n (j := 3) rfl pt53 (show decode e53.b 13 = .ok (.iload_n 3, 1) by decide +kernel)
theorem s53_14 : wp K d 53 14 L (.inl y :: .inl x :: .inr (.inr (.inl a)) :: st) h Q = ((0 ≤ x ∧ x < aln K a) ∧ wp K d 53 15 L st (hput h a x.toNat y) Q) := w_iastore pt53 (show decode e53.b 14 = .ok (.iastore, 1) by decide +kernel)
theorem s53_15 : wp K d 53 15 (a0 :: a1 :: a2 :: .inl x :: L) st h Q = wp K d 53 18 (a0 :: a1 :: a2 :: .inl (w32 (x + (1))) :: L) st h Q := w_iinc (j := 3) (z := (1)) rfl (Or.inl rfl) (by decide) pt53 (show decode e53.b 15 = .ok (.iinc 3 (1), 3) by decide +kernel)
theorem s53_18 : wp K d 53 18 L st h Q = wp K d 53 2 L st h Q := w_goto rfl pt53 (show decode e53.b 18 = .ok (.goto (-16), 3) by decide +kernel)
theorem s53_21 : wp K d 53 21 L st h Q = wp K d 53 22 L (.inl (0) :: st) h Q := w_iconst (z := (0)) (by decide) pt53 (show decode e53.b 21 = .ok (.iconst (0), 1) by decide +kernel)
theorem s53_22 : wp K d 53 22 (a0 :: a1 :: a2 :: w :: L) (.inl x :: st) h Q = wp K d 53 23 (a0 :: a1 :: a2 :: .inl x :: L) st h Q := w_istore_n (j := 3) (ll3 ..) (Or.inl rfl) pt53 (show decode e53.b 22 = .ok (.istore_n 3, 1) by decide +kernel)
theorem s53_23 : wp K d 53 23 (a0 :: a1 :: a2 :: .inl x :: L) st h Q = wp K d 53 24 (a0 :: a1 :: a2 :: .inl x :: L) (.inl x :: st) h Q := w_iload_n (j := 3) rfl pt53 (show decode e53.b 23 = .ok (.iload_n 3, 1) by decide +kernel)
theorem s53_24 : wp K d 53 24 (a0 :: .inr (.inr (.inl a)) :: L) st h Q = wp K d 53 25 (a0 :: .inr (.inr (.inl a)) :: L) (.inr (.inr (.inl a)) :: st) h Q := w_aload_n (j := 1) rfl pt53 (show decode e53.b 24 = .ok (.aload_n 1, 1) by decide +kernel)
theorem s53_25 : wp K d 53 25 L (.inr (.inr (.inl a)) :: st) h Q = (isO K a 0 ∧ wp K d 53 28 L (.inl (h a 8) :: st) h Q) := w_getI fr_4_28 (by decide) pt53 (show decode e53.b 25 = .ok (.getfield 28, 3) by decide +kernel)
theorem s53_28 : wp K d 53 28 L (.inl y :: .inl x :: st) h Q = if y ≤ x then wp K d 53 106 L st h Q else wp K d 53 31 L st h Q := w_icmpge rfl pt53 (show decode e53.b 28 = .ok (.if_icmp .ge (78), 3) by decide +kernel)
theorem s53_31 : wp K d 53 31 (.inr (.inr (.inl a)) :: L) st h Q = wp K d 53 32 (.inr (.inr (.inl a)) :: L) (.inr (.inr (.inl a)) :: st) h Q := w_aload_n (j := 0) rfl pt53 (show decode e53.b 31 = .ok (.aload_n 0, 1) by decide +kernel)
theorem s53_32 : wp K d 53 32 L (.inr (.inr (.inl a)) :: st) h Q = (isO K a 3 ∧ wp K d 53 35 L (.inr (.inr (.inl (rT K a 0))) :: st) h Q) := w_getR fr_4_9 (by decide) pt53 (show decode e53.b 32 = .ok (.getfield 9, 3) by decide +kernel)
theorem s53_35 : wp K d 53 35 (a0 :: .inr (.inr (.inl a)) :: L) st h Q = wp K d 53 36 (a0 :: .inr (.inr (.inl a)) :: L) (.inr (.inr (.inl a)) :: st) h Q := w_aload_n (j := 1) rfl pt53 (show decode e53.b 35 = .ok (.aload_n 1, 1) by decide +kernel)
theorem s53_36 : wp K d 53 36 L (.inr (.inr (.inl a)) :: st) h Q = (isO K a 0 ∧ wp K d 53 39 L (.inr (.inr (.inl (rT K a 9))) :: st) h Q) := w_getR fr_4_31 (by decide) pt53 (show decode e53.b 36 = .ok (.getfield 31, 3) by decide +kernel)
theorem s53_39 : wp K d 53 39 (a0 :: a1 :: a2 :: .inl x :: L) st h Q = wp K d 53 40 (a0 :: a1 :: a2 :: .inl x :: L) (.inl x :: st) h Q := w_iload_n (j := 3) rfl pt53 (show decode e53.b 39 = .ok (.iload_n 3, 1) by decide +kernel)
theorem s53_40 : wp K d 53 40 L (.inl x :: .inr (.inr (.inl a)) :: st) h Q = ((0 ≤ x ∧ x < alen K h a) ∧ wp K d 53 41 L (.inl (h a x.toNat) :: st) h Q) := w_iaload pt53 (show decode e53.b 40 = .ok (.iaload, 1) by decide +kernel)
theorem s53_41 : wp K d 53 41 L (.inl x :: .inr (.inr (.inl a)) :: st) h Q = ((0 ≤ x ∧ x < alen K h a) ∧ wp K d 53 42 L (.inl (h a x.toNat) :: st) h Q) := w_iaload pt53 (show decode e53.b 41 = .ok (.iaload, 1) by decide +kernel)
theorem s53_42 : wp K d 53 42 (a0 :: a1 :: a2 :: a3 :: w :: L) (.inl x :: st) h Q = wp K d 53 44 (a0 :: a1 :: a2 :: a3 :: .inl x :: L) st h Q := w_istore (j := 4) (ll4 ..) (Or.inl rfl) pt53 (show decode e53.b 42 = .ok (.istore 4, 2) by decide +kernel)
theorem s53_44 : wp K d 53 44 (.inr (.inr (.inl a)) :: L) st h Q = wp K d 53 45 (.inr (.inr (.inl a)) :: L) (.inr (.inr (.inl a)) :: st) h Q := w_aload_n (j := 0) rfl pt53 (show decode e53.b 44 = .ok (.aload_n 0, 1) by decide +kernel)
theorem s53_45 : wp K d 53 45 L (.inr (.inr (.inl a)) :: st) h Q = (isO K a 3 ∧ wp K d 53 48 L (.inr (.inr (.inl (rT K a 0))) :: st) h Q) := w_getR fr_4_9 (by decide) pt53 (show decode e53.b 45 = .ok (.getfield 9, 3) by decide +kernel)
theorem s53_48 : wp K d 53 48 (a0 :: .inr (.inr (.inl a)) :: L) st h Q = wp K d 53 49 (a0 :: .inr (.inr (.inl a)) :: L) (.inr (.inr (.inl a)) :: st) h Q := w_aload_n (j := 1) rfl pt53 (show decode e53.b 48 = .ok (.aload_n 1, 1) by decide +kernel)
theorem s53_49 : wp K d 53 49 L (.inr (.inr (.inl a)) :: st) h Q = (isO K a 0 ∧ wp K d 53 52 L (.inr (.inr (.inl (rT K a 10))) :: st) h Q) := w_getR fr_4_34 (by decide) pt53 (show decode e53.b 49 = .ok (.getfield 34, 3) by decide +kernel)
theorem s53_52 : wp K d 53 52 (a0 :: a1 :: a2 :: .inl x :: L) st h Q = wp K d 53 53 (a0 :: a1 :: a2 :: .inl x :: L) (.inl x :: st) h Q := w_iload_n (j := 3) rfl pt53 (show decode e53.b 52 = .ok (.iload_n 3, 1) by decide +kernel)
theorem s53_53 : wp K d 53 53 L (.inl x :: .inr (.inr (.inl a)) :: st) h Q = ((0 ≤ x ∧ x < alen K h a) ∧ wp K d 53 54 L (.inl (h a x.toNat) :: st) h Q) := w_iaload pt53 (show decode e53.b 53 = .ok (.iaload, 1) by decide +kernel)
theorem s53_54 : wp K d 53 54 L (.inl x :: .inr (.inr (.inl a)) :: st) h Q = ((0 ≤ x ∧ x < alen K h a) ∧ wp K d 53 55 L (.inl (h a x.toNat) :: st) h Q) := w_iaload pt53 (show decode e53.b 54 = .ok (.iaload, 1) by decide +kernel)
theorem s53_55 : wp K d 53 55 (a0 :: a1 :: a2 :: a3 :: a4 :: w :: L) (.inl x :: st) h Q = wp K d 53 57 (a0 :: a1 :: a2 :: a3 :: a4 :: .inl x :: L) st h Q := w_istore (j := 5) (ll5 ..) (Or.inl rfl) pt53 (show decode e53.b 55 = .ok (.istore 5, 2) by decide +kernel)
theorem s53_57 : wp K d 53 57 (a0 :: .inr (.inr (.inl a)) :: L) st h Q = wp K d 53 58 (a0 :: .inr (.inr (.inl a)) :: L) (.inr (.inr (.inl a)) :: st) h Q := w_aload_n (j := 1) rfl pt53 (show decode e53.b 57 = .ok (.aload_n 1, 1) by decide +kernel)
theorem s53_58 : wp K d 53 58 L (.inr (.inr (.inl a)) :: st) h Q = (isO K a 0 ∧ wp K d 53 61 L (.inr (.inr (.inl (rT K a 1))) :: st) h Q) := w_getR fr_4_58 (by decide) pt53 (show decode e53.b 58 = .ok (.getfield 58, 3) by decide +kernel)
theorem s53_61 : wp K d 53 61 (a0 :: a1 :: a2 :: a3 :: a4 :: .inl x :: L) st h Q = wp K d 53 63 (a0 :: a1 :: a2 :: a3 :: a4 :: .inl x :: L) (.inl x :: st) h Q := w_iload (j := 5) rfl pt53 (show decode e53.b 61 = .ok (.iload 5, 2) by decide +kernel)
theorem s53_63 : wp K d 53 63 L (.inl x :: .inr (.inr (.inl a)) :: st) h Q = ((0 ≤ x ∧ x < alen K h a) ∧ wp K d 53 64 L (.inl (h a x.toNat) :: st) h Q) := w_iaload pt53 (show decode e53.b 63 = .ok (.iaload, 1) by decide +kernel)
theorem s53_64 : wp K d 53 64 (a0 :: .inr (.inr (.inl a)) :: L) st h Q = wp K d 53 65 (a0 :: .inr (.inr (.inl a)) :: L) (.inr (.inr (.inl a)) :: st) h Q := w_aload_n (j := 1) rfl pt53 (show decode e53.b 64 = .ok (.aload_n 1, 1) by decide +kernel)
theorem s53_65 : wp K d 53 65 L (.inr (.inr (.inl a)) :: st) h Q = (isO K a 0 ∧ wp K d 53 68 L (.inr (.inr (.inl (rT K a 1))) :: st) h Q) := w_getR fr_4_58 (by decide) pt53 (show decode e53.b 65 = .ok (.getfield 58, 3) by decide +kernel)
theorem s53_68 : wp K d 53 68 (a0 :: a1 :: a2 :: a3 :: .inl x :: L) st h Q = wp K d 53 70 (a0 :: a1 :: a2 :: a3 :: .inl x :: L) (.inl x :: st) h Q := w_iload (j := 4) rfl pt53 (show decode e53.b 68 = .ok (.iload 4, 2) by decide +kernel)
theorem s53_70 : wp K d 53 70 L (.inl x :: .inr (.inr (.inl a)) :: st) h Q = ((0 ≤ x ∧ x < alen K h a) ∧ wp K d 53 71 L (.inl (h a x.toNat) :: st) h Q) := w_iaload pt53 (show decode e53.b 70 = .ok (.iaload, 1) by decide +kernel)
theorem s53_71 : wp K d 53 71 L (.inl y :: .inl x :: st) h Q = if x ≤ y then wp K d 53 100 L st h Q else wp K d 53 74 L st h Q := w_icmple rfl pt53 (show decode e53.b 71 = .ok (.if_icmp .le (29), 3) by decide +kernel)
theorem s53_74 : wp K d 53 74 (.inr (.inr (.inl a)) :: L) st h Q = wp K d 53 75 (.inr (.inr (.inl a)) :: L) (.inr (.inr (.inl a)) :: st) h Q := w_aload_n (j := 0) rfl pt53 (show decode e53.b 74 = .ok (.aload_n 0, 1) by decide +kernel)
theorem s53_75 : wp K d 53 75 L (.inr (.inr (.inl a)) :: st) h Q = (isO K a 3 ∧ wp K d 53 78 L (.inr (.inr (.inl (rT K a 0))) :: st) h Q) := w_getR fr_4_9 (by decide) pt53 (show decode e53.b 75 = .ok (.getfield 9, 3) by decide +kernel)
theorem s53_78 : wp K d 53 78 (a0 :: .inr (.inr (.inl a)) :: L) st h Q = wp K d 53 79 (a0 :: .inr (.inr (.inl a)) :: L) (.inr (.inr (.inl a)) :: st) h Q := w_aload_n (j := 1) rfl pt53 (show decode e53.b 78 = .ok (.aload_n 1, 1) by decide +kernel)
theorem s53_79 : wp K d 53 79 L (.inr (.inr (.inl a)) :: st) h Q = (isO K a 0 ∧ wp K d 53 82 L (.inr (.inr (.inl (rT K a 9))) :: st) h Q) := w_getR fr_4_31 (by decide) pt53 (show decode e53.b 79 = .ok (.getfield 31, 3) by decide +kernel)
theorem s53_82 : wp K d 53 82 (a0 :: a1 :: a2 :: .inl x :: L) st h Q = wp K d 53 83 (a0 :: a1 :: a2 :: .inl x :: L) (.inl x :: st) h Q := w_iload_n (j := 3) rfl pt53 (show decode e53.b 82 = .ok (.iload_n 3, 1) by decide +kernel)
theorem s53_83 : wp K d 53 83 L (.inl x :: .inr (.inr (.inl a)) :: st) h Q = ((0 ≤ x ∧ x < alen K h a) ∧ wp K d 53 84 L (.inl (h a x.toNat) :: st) h Q) := w_iaload pt53 (show decode e53.b 83 = .ok (.iaload, 1) by decide +kernel)
theorem s53_84 : wp K d 53 84 (a0 :: a1 :: a2 :: a3 :: a4 :: .inl x :: L) st h Q = wp K d 53 86 (a0 :: a1 :: a2 :: a3 :: a4 :: .inl x :: L) (.inl x :: st) h Q := w_iload (j := 5) rfl pt53 (show decode e53.b 84 = .ok (.iload 5, 2) by decide +kernel)
theorem s53_86 : wp K d 53 86 L (.inl y :: .inl x :: .inr (.inr (.inl a)) :: st) h Q = ((0 ≤ x ∧ x < aln K a) ∧ wp K d 53 87 L st (hput h a x.toNat y) Q) := w_iastore pt53 (show decode e53.b 86 = .ok (.iastore, 1) by decide +kernel)
theorem s53_87 : wp K d 53 87 (.inr (.inr (.inl a)) :: L) st h Q = wp K d 53 88 (.inr (.inr (.inl a)) :: L) (.inr (.inr (.inl a)) :: st) h Q := w_aload_n (j := 0) rfl pt53 (show decode e53.b 87 = .ok (.aload_n 0, 1) by decide +kernel)
theorem s53_88 : wp K d 53 88 L (.inr (.inr (.inl a)) :: st) h Q = (isO K a 3 ∧ wp K d 53 91 L (.inr (.inr (.inl (rT K a 0))) :: st) h Q) := w_getR fr_4_9 (by decide) pt53 (show decode e53.b 88 = .ok (.getfield 9, 3) by decide +kernel)
theorem s53_91 : wp K d 53 91 (a0 :: .inr (.inr (.inl a)) :: L) st h Q = wp K d 53 92 (a0 :: .inr (.inr (.inl a)) :: L) (.inr (.inr (.inl a)) :: st) h Q := w_aload_n (j := 1) rfl pt53 (show decode e53.b 91 = .ok (.aload_n 1, 1) by decide +kernel)
theorem s53_92 : wp K d 53 92 L (.inr (.inr (.inl a)) :: st) h Q = (isO K a 0 ∧ wp K d 53 95 L (.inr (.inr (.inl (rT K a 10))) :: st) h Q) := w_getR fr_4_34 (by decide) pt53 (show decode e53.b 92 = .ok (.getfield 34, 3) by decide +kernel)
theorem s53_95 : wp K d 53 95 (a0 :: a1 :: a2 :: .inl x :: L) st h Q = wp K d 53 96 (a0 :: a1 :: a2 :: .inl x :: L) (.inl x :: st) h Q := w_iload_n (j := 3) rfl pt53 (show decode e53.b 95 = .ok (.iload_n 3, 1) by decide +kernel)
theorem s53_96 : wp K d 53 96 L (.inl x :: .inr (.inr (.inl a)) :: st) h Q = ((0 ≤ x ∧ x < alen K h a) ∧ wp K d 53 97 L (.inl (h a x.toNat) :: st) h Q) := w_iaload pt53 (show decode e53.b 96 = .ok (.iaload, 1) by decide +kernel)
theorem s53_97 : wp K d 53 97 (a0 :: a1 :: a2 :: a3 :: .inl x :: L) st h Q = wp K d 53 99 (a0 :: a1 :: a2 :: a3 :: .inl x :: L) (.inl x :: st) h Q := w_iload (j := 4) rfl pt53 (show decode e53.b 97 = .ok (.iload 4, 2) by decide +kernel)
theorem s53_99 : wp K d 53 99 L (.inl y :: .inl x :: .inr (.inr (.inl a)) :: st) h Q = ((0 ≤ x ∧ x < aln K a) ∧ wp K d 53 100 L st (hput h a x.toNat y) Q) := w_iastore pt53 (show decode e53.b 99 = .ok (.iastore, 1) by decide +kernel)
theorem s53_100 : wp K d 53 100 (a0 :: a1 :: a2 :: .inl x :: L) st h Q = wp K d 53 103 (a0 :: a1 :: a2 :: .inl (w32 (x + (1))) :: L) st h Q := w_iinc (j := 3) (z := (1)) rfl (Or.inl rfl) (by decide) pt53 (show decode e53.b 100 = .ok (.iinc 3 (1), 3) by decide +kernel)
theorem s53_103 : wp K d 53 103 L st h Q = wp K d 53 23 L st h Q := w_goto rfl pt53 (show decode e53.b 103 = .ok (.goto (-80), 3) by decide +kernel)
theorem s53_106 : wp K d 53 106 (.inr (.inr (.inl a)) :: L) st h Q = wp K d 53 107 (.inr (.inr (.inl a)) :: L) (.inr (.inr (.inl a)) :: st) h Q := w_aload_n (j := 0) rfl pt53 (show decode e53.b 106 = .ok (.aload_n 0, 1) by decide +kernel)
theorem s53_107 : wp K d 53 107 L (.inr (.inr (.inl a)) :: st) h Q = (isO K a 3 ∧ wp K d 53 110 L (.inr (.inr (.inl (rT K a 0))) :: st) h Q) := w_getR fr_4_9 (by decide) pt53 (show decode e53.b 107 = .ok (.getfield 9, 3) by decide +kernel)
theorem s53_110 : wp K d 53 110 (a0 :: a1 :: .inl x :: L) st h Q = wp K d 53 111 (a0 :: a1 :: .inl x :: L) (.inl x :: st) h Q := w_iload_n (j := 2) rfl pt53 (show decode e53.b 110 = .ok (.iload_n 2, 1) by decide +kernel)
theorem s53_111 : wp K d 53 111 L (.inl x :: .inr (.inr (.inl a)) :: st) h Q = ((0 ≤ x ∧ x < alen K h a) ∧ wp K d 53 112 L (.inl (h a x.toNat) :: st) h Q) := w_iaload pt53 (show decode e53.b 111 = .ok (.iaload, 1) by decide +kernel)
theorem s53_112 : wp K d 53 112 L [.inl x] h Q = Q (some (.inl x)) h := w_ireturn pt53 (show decode e53.b 112 = .ok (.ireturn, 1) by decide +kernel) rfl
theorem s242_0 : wp K d 242 0 (.inl x :: L) st h Q = wp K d 242 1 (.inl x :: L) (.inl x :: st) h Q := w_iload_n (j := 0) rfl pt242 (show decode e242.b 0 = .ok (.iload_n 0, 1) by decide +kernel)
theorem s242_1 : wp K d 242 1 (.inl x :: L) st h Q = wp K d 242 2 (.inl x :: L) (.inl x :: st) h Q := w_iload_n (j := 0) rfl pt242 (show decode e242.b 1 = .ok (.iload_n 0, 1) by decide +kernel)
theorem s242_2 : wp K d 242 2 L st h Q = wp K d 242 3 L (.inl (1) :: st) h Q := w_iconst (z := (1)) (by decide) pt242 (show decode e242.b 2 = .ok (.iconst (1), 1) by decide +kernel)
theorem s242_3 : wp K d 242 3 L (.inl y :: .inl x :: st) h Q = ((0 ≤ x ∧ 0 ≤ y ∧ y < 32) ∧ wp K d 242 4 L (.inl (x / 2 ^ y.toNat) :: st) h Q) := w_iushr pt242 (show decode e242.b 3 = .ok (.iushr, 1) by decide +kernel)
theorem s242_4 : wp K d 242 4 L st h Q = wp K d 242 7 L (.inl (1431655765) :: st) h Q := w_ldc_w cr_11_265 pt242 (show decode e242.b 4 = .ok (.ldc_w 265, 3) by decide +kernel)
theorem s242_7 : wp K d 242 7 L (.inl y :: .inl x :: st) h Q = wp K d 242 8 L (.inl (bAnd x y) :: st) h Q := w_iand pt242 (show decode e242.b 7 = .ok (.iand, 1) by decide +kernel)
theorem s242_8 : wp K d 242 8 L (.inl y :: .inl x :: st) h Q = wp K d 242 9 L (.inl (w32 (x - y)) :: st) h Q := w_isub pt242 (show decode e242.b 8 = .ok (.isub, 1) by decide +kernel)
theorem s242_9 : wp K d 242 9 (w :: L) (.inl x :: st) h Q = wp K d 242 10 (.inl x :: L) st h Q := w_istore_n (j := 0) (ll0 ..) (Or.inl rfl) pt242 (show decode e242.b 9 = .ok (.istore_n 0, 1) by decide +kernel)
theorem s242_10 : wp K d 242 10 (.inl x :: L) st h Q = wp K d 242 11 (.inl x :: L) (.inl x :: st) h Q := w_iload_n (j := 0) rfl pt242 (show decode e242.b 10 = .ok (.iload_n 0, 1) by decide +kernel)
theorem s242_11 : wp K d 242 11 L st h Q = wp K d 242 14 L (.inl (858993459) :: st) h Q := w_ldc_w cr_11_266 pt242 (show decode e242.b 11 = .ok (.ldc_w 266, 3) by decide +kernel)
theorem s242_14 : wp K d 242 14 L (.inl y :: .inl x :: st) h Q = wp K d 242 15 L (.inl (bAnd x y) :: st) h Q := w_iand pt242 (show decode e242.b 14 = .ok (.iand, 1) by decide +kernel)
theorem s242_15 : wp K d 242 15 (.inl x :: L) st h Q = wp K d 242 16 (.inl x :: L) (.inl x :: st) h Q := w_iload_n (j := 0) rfl pt242 (show decode e242.b 15 = .ok (.iload_n 0, 1) by decide +kernel)
theorem s242_16 : wp K d 242 16 L st h Q = wp K d 242 17 L (.inl (2) :: st) h Q := w_iconst (z := (2)) (by decide) pt242 (show decode e242.b 16 = .ok (.iconst (2), 1) by decide +kernel)
theorem s242_17 : wp K d 242 17 L (.inl y :: .inl x :: st) h Q = ((0 ≤ x ∧ 0 ≤ y ∧ y < 32) ∧ wp K d 242 18 L (.inl (x / 2 ^ y.toNat) :: st) h Q) := w_iushr pt242 (show decode e242.b 17 = .ok (.iushr, 1) by decide +kernel)
theorem s242_18 : wp K d 242 18 L st h Q = wp K d 242 21 L (.inl (858993459) :: st) h Q := w_ldc_w cr_11_266 pt242 (show decode e242.b 18 = .ok (.ldc_w 266, 3) by decide +kernel)
theorem s242_21 : wp K d 242 21 L (.inl y :: .inl x :: st) h Q = wp K d 242 22 L (.inl (bAnd x y) :: st) h Q := w_iand pt242 (show decode e242.b 21 = .ok (.iand, 1) by decide +kernel)
theorem s242_22 : wp K d 242 22 L (.inl y :: .inl x :: st) h Q = wp K d 242 23 L (.inl (w32 (x + y)) :: st) h Q := w_iadd pt242 (show decode e242.b 22 = .ok (.iadd, 1) by decide +kernel)
theorem s242_23 : wp K d 242 23 (w :: L) (.inl x :: st) h Q = wp K d 242 24 (.inl x :: L) st h Q := w_istore_n (j := 0) (ll0 ..) (Or.inl rfl) pt242 (show decode e242.b 23 = .ok (.istore_n 0, 1) by decide +kernel)
theorem s242_24 : wp K d 242 24 (.inl x :: L) st h Q = wp K d 242 25 (.inl x :: L) (.inl x :: st) h Q := w_iload_n (j := 0) rfl pt242 (show decode e242.b 24 = .ok (.iload_n 0, 1) by decide +kernel)
theorem s242_25 : wp K d 242 25 (.inl x :: L) st h Q = wp K d 242 26 (.inl x :: L) (.inl x :: st) h Q := w_iload_n (j := 0) rfl pt242 (show decode e242.b 25 = .ok (.iload_n 0, 1) by decide +kernel)
theorem s242_26 : wp K d 242 26 L st h Q = wp K d 242 27 L (.inl (4) :: st) h Q := w_iconst (z := (4)) (by decide) pt242 (show decode e242.b 26 = .ok (.iconst (4), 1) by decide +kernel)
theorem s242_27 : wp K d 242 27 L (.inl y :: .inl x :: st) h Q = ((0 ≤ x ∧ 0 ≤ y ∧ y < 32) ∧ wp K d 242 28 L (.inl (x / 2 ^ y.toNat) :: st) h Q) := w_iushr pt242 (show decode e242.b 27 = .ok (.iushr, 1) by decide +kernel)
theorem s242_28 : wp K d 242 28 L (.inl y :: .inl x :: st) h Q = wp K d 242 29 L (.inl (w32 (x + y)) :: st) h Q := w_iadd pt242 (show decode e242.b 28 = .ok (.iadd, 1) by decide +kernel)
theorem s242_29 : wp K d 242 29 L st h Q = wp K d 242 32 L (.inl (252645135) :: st) h Q := w_ldc_w cr_11_267 pt242 (show decode e242.b 29 = .ok (.ldc_w 267, 3) by decide +kernel)
theorem s242_32 : wp K d 242 32 L (.inl y :: .inl x :: st) h Q = wp K d 242 33 L (.inl (bAnd x y) :: st) h Q := w_iand pt242 (show decode e242.b 32 = .ok (.iand, 1) by decide +kernel)
theorem s242_33 : wp K d 242 33 (w :: L) (.inl x :: st) h Q = wp K d 242 34 (.inl x :: L) st h Q := w_istore_n (j := 0) (ll0 ..) (Or.inl rfl) pt242 (show decode e242.b 33 = .ok (.istore_n 0, 1) by decide +kernel)
theorem s242_34 : wp K d 242 34 (.inl x :: L) st h Q = wp K d 242 35 (.inl x :: L) (.inl x :: st) h Q := w_iload_n (j := 0) rfl pt242 (show decode e242.b 34 = .ok (.iload_n 0, 1) by decide +kernel)
theorem s242_35 : wp K d 242 35 (.inl x :: L) st h Q = wp K d 242 36 (.inl x :: L) (.inl x :: st) h Q := w_iload_n (j := 0) rfl pt242 (show decode e242.b 35 = .ok (.iload_n 0, 1) by decide +kernel)
theorem s242_36 : wp K d 242 36 L st h Q = wp K d 242 38 L (.inl (8) :: st) h Q := w_bipush (z := (8)) (by decide) pt242 (show decode e242.b 36 = .ok (.bipush (8), 2) by decide +kernel)
theorem s242_38 : wp K d 242 38 L (.inl y :: .inl x :: st) h Q = ((0 ≤ x ∧ 0 ≤ y ∧ y < 32) ∧ wp K d 242 39 L (.inl (x / 2 ^ y.toNat) :: st) h Q) := w_iushr pt242 (show decode e242.b 38 = .ok (.iushr, 1) by decide +kernel)
theorem s242_39 : wp K d 242 39 L (.inl y :: .inl x :: st) h Q = wp K d 242 40 L (.inl (w32 (x + y)) :: st) h Q := w_iadd pt242 (show decode e242.b 39 = .ok (.iadd, 1) by decide +kernel)
theorem s242_40 : wp K d 242 40 (w :: L) (.inl x :: st) h Q = wp K d 242 41 (.inl x :: L) st h Q := w_istore_n (j := 0) (ll0 ..) (Or.inl rfl) pt242 (show decode e242.b 40 = .ok (.istore_n 0, 1) by decide +kernel)
theorem s242_41 : wp K d 242 41 (.inl x :: L) st h Q = wp K d 242 42 (.inl x :: L) (.inl x :: st) h Q := w_iload_n (j := 0) rfl pt242 (show decode e242.b 41 = .ok (.iload_n 0, 1) by decide +kernel)
theorem s242_42 : wp K d 242 42 (.inl x :: L) st h Q = wp K d 242 43 (.inl x :: L) (.inl x :: st) h Q := w_iload_n (j := 0) rfl pt242 (show decode e242.b 42 = .ok (.iload_n 0, 1) by decide +kernel)
theorem s242_43 : wp K d 242 43 L st h Q = wp K d 242 45 L (.inl (16) :: st) h Q := w_bipush (z := (16)) (by decide) pt242 (show decode e242.b 43 = .ok (.bipush (16), 2) by decide +kernel)
theorem s242_45 : wp K d 242 45 L (.inl y :: .inl x :: st) h Q = ((0 ≤ x ∧ 0 ≤ y ∧ y < 32) ∧ wp K d 242 46 L (.inl (x / 2 ^ y.toNat) :: st) h Q) := w_iushr pt242 (show decode e242.b 45 = .ok (.iushr, 1) by decide +kernel)
theorem s242_46 : wp K d 242 46 L (.inl y :: .inl x :: st) h Q = wp K d 242 47 L (.inl (w32 (x + y)) :: st) h Q := w_iadd pt242 (show decode e242.b 46 = .ok (.iadd, 1) by decide +kernel)
theorem s242_47 : wp K d 242 47 (w :: L) (.inl x :: st) h Q = wp K d 242 48 (.inl x :: L) st h Q := w_istore_n (j := 0) (ll0 ..) (Or.inl rfl) pt242 (show decode e242.b 47 = .ok (.istore_n 0, 1) by decide +kernel)
theorem s242_48 : wp K d 242 48 (.inl x :: L) st h Q = wp K d 242 49 (.inl x :: L) (.inl x :: st) h Q := w_iload_n (j := 0) rfl pt242 (show decode e242.b 48 = .ok (.iload_n 0, 1) by decide +kernel)
theorem s242_49 : wp K d 242 49 L st h Q = wp K d 242 51 L (.inl (63) :: st) h Q := w_bipush (z := (63)) (by decide) pt242 (show decode e242.b 49 = .ok (.bipush (63), 2) by decide +kernel)
theorem s242_51 : wp K d 242 51 L (.inl y :: .inl x :: st) h Q = wp K d 242 52 L (.inl (bAnd x y) :: st) h Q := w_iand pt242 (show decode e242.b 51 = .ok (.iand, 1) by decide +kernel)
theorem s242_52 : wp K d 242 52 L [.inl x] h Q = Q (some (.inl x)) h := w_ireturn pt242 (show decode e242.b 52 = .ok (.ireturn, 1) by decide +kernel) rfl
end RWS
