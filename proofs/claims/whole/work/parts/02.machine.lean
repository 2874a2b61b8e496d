/-! THE SMALL MACHINE: values, heap, tables, one step, runs. A state of it stands for a state of the machine (part 03). -/
abbrev AV : Type := Int ⊕ (Int ⊕ (Nat ⊕ Unit))
abbrev vI (x : Int) : AV := .inl x
abbrev vL (x : Int) : AV := .inr (.inl x)
abbrev vR (a : Nat) : AV := .inr (.inr (.inl a))
abbrev vU : AV := .inr (.inr (.inr ()))
abbrev HH : Type := Nat → Nat → Int
abbrev KK : Type := List (Nat ⊕ (Nat × List Nat))
def rput (f : Nat → Int) (k : Nat) (v : Int) : Nat → Int := fun j => if j = k then v else f j
def hset (h : HH) (a : Nat) (f : Nat → Int) : HH := fun i => if i = a then f else h i
def hput (h : HH) (a k : Nat) (v : Int) : HH := hset h a (rput (h a) k v)
def w32 (z : Int) : Int := Int.bmod z 4294967296
def w64 (z : Int) : Int := Int.bmod z 18446744073709551616
def bAnd (x y : Int) : Int := (Int32.ofInt x &&& Int32.ofInt y).toInt
def bOr (x y : Int) : Int := (Int32.ofInt x ||| Int32.ofInt y).toInt
def bXor (x y : Int) : Int := (Int32.ofInt x ^^^ Int32.ofInt y).toInt
/-- a method: name, bytes, locals, answer, arguments (without this), static, number of its owner, its objects' kind, may hold longs -/
abbrev ME : Type := MethodName × ByteArray × Nat × Option FieldType × Nat × Bool × Nat × Nat × Bool
abbrev ME.y (e : ME) : MethodName := e.1
abbrev ME.b (e : ME) : ByteArray := e.2.1
abbrev ME.ml (e : ME) : Nat := e.2.2.1
abbrev ME.ret (e : ME) : Option FieldType := e.2.2.2.1
abbrev ME.na (e : ME) : Nat := e.2.2.2.2.1
abbrev ME.st (e : ME) : Bool := e.2.2.2.2.2.1
abbrev ME.c (e : ME) : Nat := e.2.2.2.2.2.2.1
abbrev ME.ci (e : ME) : Nat := e.2.2.2.2.2.2.2.1
abbrev ME.lg (e : ME) : Bool := e.2.2.2.2.2.2.2.2
def PT_0 : List ME := [(yX0_init, cX0_init, 1, none, 0, false, 0, 0, true), (yX0_begin, cX0_begin, 3, none, 1, false, 0, 0, false), (yX0_takeFrom, cX0_takeFrom, 2, none, 1, false, 0, 0, false), (yX0_isStone, cX0_isStone, 2, (some .boolean), 1, false, 0, 0, false), (yX0_areTwo, cX0_areTwo, 3, (some .boolean), 2, false, 0, 0, false), (yX0_refusalOfWeight, cX0_refusalOfWeight, 3, (some .int), 2, false, 0, 0, false), (yX0_changeWeight, cX0_changeWeight, 4, (some .int), 2, false, 0, 0, false), (yX0_refusalOfScale, cX0_refusalOfScale, 3, (some .int), 2, false, 0, 0, false), (yX0_changeScale, cX0_changeScale, 4, (some .int), 2, false, 0, 0, false), (yX0_refusalOfWeighing, cX0_refusalOfWeighing, 3, (some .int), 2, false, 0, 0, false), (yX0_write, cX0_write, 4, none, 3, false, 0, 0, false), (yX0_refusalOfComparison, cX0_refusalOfComparison, 3, (some .int), 2, false, 0, 0, false), (yX0_addComparison, cX0_addComparison, 3, (some .int), 2, false, 0, 0, false), (yX0_turnLiking, cX0_turnLiking, 4, (some .int), 2, false, 0, 0, false), (yX0_allLikings, cX0_allLikings, 3, (some .int), 0, false, 0, 0, false), (yX0_allWeights, cX0_allWeights, 3, (some .int), 0, false, 0, 0, false), (yX0_answer, cX0_answer, 6, (some .int), 3, false, 0, 0, false), (yX0_byWeights, cX0_byWeights, 5, (some .int), 3, false, 0, 0, false), (yX0_otherWay, cX0_otherWay, 1, (some .int), 1, true, 0, 0, false), (yX0_firstWrong, cX0_firstWrong, 6, (some .int), 2, false, 0, 0, false), (yX1_init, cX1_init, 1, none, 0, false, 1, 1, true), (yX1_learn, cX1_learn, 2, none, 1, false, 1, 1, false), (yX1_learnTurned, cX1_learnTurned, 5, none, 2, false, 1, 1, false), (yX1_follow, cX1_follow, 3, none, 0, false, 1, 1, false), (yX1_ringedStones, cX1_ringedStones, 3, (some .int), 0, false, 1, 1, false), (yX1_liesOf, cX1_liesOf, 4, (some .int), 1, false, 1, 1, false), (yX1_isOpen, cX1_isOpen, 3, (some .boolean), 2, false, 1, 1, false), (yX1_openPairs, cX1_openPairs, 4, (some .int), 0, false, 1, 1, false), (yX1_allOrders, cX1_allOrders, 5, (some .int), 0, false, 1, 1, false), (yX1_ordersWithAhead, cX1_ordersWithAhead, 5, (some .int), 2, false, 1, 1, false), (yX1_stoneOfFirst, cX1_stoneOfFirst, 5, (some .int), 1, false, 1, 1, false), (yX1_leastFree, cX1_leastFree, 3, (some .int), 1, false, 1, 1, false), (yX1_halving, cX1_halving, 9, (some .int), 1, false, 1, 1, false), (yX2_bound, cX2_bound, 2, (some .int), 2, true, 2, 99, false), (yX2_halvings, cX2_halvings, 3, (some .int), 1, true, 2, 99, false), (yX2_byInsert, cX2_byInsert, 3, (some .int), 1, true, 2, 99, false), (yX2_byOrders, cX2_byOrders, 6, (some .int), 1, true, 2, 99, true), (yX3_init, cX3_init, 1, none, 0, false, 3, 2, true), (yX3_ringsOfThree, cX3_ringsOfThree, 6, (some .int), 1, false, 3, 2, false), (yX3_isRing, cX3_isRing, 4, (some .boolean), 4, true, 3, 2, false)]
def PT_1 : List ME := [(yX3_reckon, cX3_reckon, 5, none, 1, false, 3, 2, false), (yX3_turnedWith, cX3_turnedWith, 3, (some .int), 2, false, 3, 2, false), (yX3_fewestTurned, cX3_fewestTurned, 1, (some .int), 0, false, 3, 2, false), (yX3_stoneOfFirst, cX3_stoneOfFirst, 5, (some .int), 1, false, 3, 2, false), (yX3_leastBest, cX3_leastBest, 3, (some .int), 1, false, 3, 2, false), (yX4_init, cX4_init, 1, none, 0, false, 4, 3, true), (yX4_compared, cX4_compared, 4, (some .int), 3, true, 4, 3, false), (yX4_isInOrder, cX4_isInOrder, 1, (some .boolean), 1, true, 4, 3, false), (yX4_unsortedRows, cX4_unsortedRows, 6, (some .int), 1, false, 4, 3, false), (yX4_idleOnes, cX4_idleOnes, 7, (some .int), 1, false, 4, 3, false), (yX4_mendingOne, cX4_mendingOne, 7, (some .int), 1, false, 4, 3, false), (yX4_unsortedWith, cX4_unsortedWith, 6, (some .int), 3, false, 4, 3, false), (yX4_fewestRounds, cX4_fewestRounds, 7, (some .int), 1, false, 4, 3, false), (yX4_stoneBehind, cX4_stoneBehind, 6, (some .int), 2, false, 4, 3, false), (yX5_init, cX5_init, 1, none, 0, false, 5, 4, true), (yX5_carryOut, cX5_carryOut, 5, (some .int), 3, false, 5, 4, false), (yX5_stoneAt, cX5_stoneAt, 2, (some .int), 1, false, 5, 4, false), (yX5_isHeavier, cX5_isHeavier, 3, (some .boolean), 2, false, 5, 4, false), (yX5_tellTwo, cX5_tellTwo, 3, none, 2, false, 5, 4, false), (yX5_heaviestOf, cX5_heaviestOf, 5, (some .int), 2, false, 5, 4, false), (yX5_lightestOf, cX5_lightestOf, 5, (some .int), 2, false, 5, 4, false), (yX5_bothOneBehindTheOther, cX5_bothOneBehindTheOther, 4, none, 0, false, 5, 4, false), (yX5_bothByTwos, cX5_bothByTwos, 4, none, 0, false, 5, 4, false), (yX5_cup, cX5_cup, 4, none, 0, false, 5, 4, false), (yX5_playRound, cX5_playRound, 6, (some .int), 1, false, 5, 4, false), (yX5_insert, cX5_insert, 7, none, 2, false, 5, 4, false), (yX5_placeFor, cX5_placeFor, 8, (some .int), 3, false, 5, 4, false), (yX5_merge, cX5_merge, 7, none, 5, true, 5, 4, false), (yX5_join, cX5_join, 8, none, 3, false, 5, 4, false), (yX6_init, cX6_init, 1, none, 0, false, 6, 5, true), (yX6_isFull, cX6_isFull, 1, (some .boolean), 0, false, 6, 5, false), (yX6_take, cX6_take, 2, (some .int), 1, false, 6, 5, false), (yX6_read, cX6_read, 7, (some .int), 1, false, 6, 5, false), (yX6_faultOfForm, cX6_faultOfForm, 7, (some .int), 1, false, 6, 5, false), (yX6_mostDigits, cX6_mostDigits, 1, (some .int), 1, true, 6, 5, false), (yX6_leastDigits, cX6_leastDigits, 1, (some .int), 1, true, 6, 5, false), (yX6_digitAt, cX6_digitAt, 2, (some .int), 1, false, 6, 5, false), (yX6_carryOut, cX6_carryOut, 6, (some .boolean), 2, false, 6, 5, false), (yX6_beginAnew, cX6_beginAnew, 2, (some .boolean), 1, false, 6, 5, false), (yX6_putWeight, cX6_putWeight, 3, (some .boolean), 2, false, 6, 5, false)]
def PT_2 : List ME := [(yX6_putScale, cX6_putScale, 3, (some .boolean), 2, false, 6, 5, false), (yX6_putWeighing, cX6_putWeighing, 4, (some .boolean), 3, false, 6, 5, false), (yX6_putLiking, cX6_putLiking, 3, (some .boolean), 2, false, 6, 5, false), (yX6_putComparison, cX6_putComparison, 3, (some .boolean), 2, false, 6, 5, false), (yX7_init, cX7_init, 1, none, 0, false, 7, 6, true), (yX7_weighingsOf, cX7_weighingsOf, 9, (some .int), 5, false, 7, 6, false), (yX7_drawBelow99, cX7_drawBelow99, 1, (some .int), 0, false, 7, 6, false), (yX8_init, cX8_init, 1, none, 0, false, 8, 7, true), (yX8_tellsAlready, cX8_tellsAlready, 3, (some .boolean), 2, false, 8, 7, false), (yX8_fewestAtWorst, cX8_fewestAtWorst, 3, (some .int), 2, false, 8, 7, false), (yX8_leastMean, cX8_leastMean, 8, (some .int), 3, false, 8, 7, false), (yX8_commonDivisor, cX8_commonDivisor, 4, (some .int), 2, true, 8, 7, false), (yX8_fitting, cX8_fitting, 5, (some .int), 1, false, 8, 7, false), (yX8_layOut, cX8_layOut, 3, none, 1, false, 8, 7, false), (yX8_isOrder, cX8_isOrder, 4, (some .boolean), 1, false, 8, 7, false), (yX8_noteOrder, cX8_noteOrder, 4, none, 1, false, 8, 7, false), (yX8_answerOf, cX8_answerOf, 3, (some .int), 2, false, 8, 7, false), (yX8_isTold, cX8_isTold, 6, (some .boolean), 2, false, 8, 7, false), (yX8_indexOf, cX8_indexOf, 7, (some .int), 2, false, 8, 7, false), (yX8_solve, cX8_solve, 14, (some .int), 4, true, 8, 7, false), (yX9_init, cX9_init, 1, none, 0, false, 9, 8, true), (yX9_feed, cX9_feed, 2, (some .int), 1, false, 9, 8, false), (yX9_barn, cX9_barn, 1, (some .int), 0, false, 9, 8, false), (yX9_weight, cX9_weight, 2, (some .int), 1, false, 9, 8, false), (yX9_set, cX9_set, 4, (some .int), 2, false, 9, 8, false), (yX9_scale, cX9_scale, 4, (some .int), 2, false, 9, 8, false), (yX9_would, cX9_would, 3, (some .int), 2, false, 9, 8, false), (yX9_weigh, cX9_weigh, 5, (some .int), 2, false, 9, 8, false), (yX9_book, cX9_book, 2, (some .int), 1, false, 9, 8, false), (yX9_strike, cX9_strike, 1, (some .int), 0, false, 9, 8, false), (yX9_above, cX9_above, 2, (some .int), 1, false, 9, 8, false), (yX9_ringed, cX9_ringed, 1, (some .int), 0, false, 9, 8, false), (yX9_orders, cX9_orders, 2, (some .int), 1, false, 9, 8, false), (yX9_next, cX9_next, 2, (some .int), 1, false, 9, 8, false), (yX9_lies, cX9_lies, 1, (some .int), 0, false, 9, 8, false), (yX9_open, cX9_open, 1, (some .int), 0, false, 9, 8, false), (yX9_tells, cX9_tells, 3, (some .int), 1, false, 9, 8, false), (yX9_worst, cX9_worst, 3, (some .int), 1, false, 9, 8, false), (yX9_mean, cX9_mean, 4, (some .long), 2, false, 9, 8, false), (yX9_plan, cX9_plan, 2, (some .int), 1, false, 9, 8, false)]
def PT_3 : List ME := [(yX9_found, cX9_found, 3, (some .int), 2, false, 9, 8, false), (yX9_compare, cX9_compare, 4, (some .int), 2, false, 9, 8, false), (yX9_clear, cX9_clear, 2, (some .int), 0, false, 9, 8, false), (yX9_sorts, cX9_sorts, 1, (some .int), 0, false, 9, 8, false), (yX9_gap, cX9_gap, 1, (some .int), 0, false, 9, 8, false), (yX9_rounds, cX9_rounds, 1, (some .int), 0, false, 9, 8, false), (yX9_through, cX9_through, 2, (some .int), 1, false, 9, 8, false), (yX9_idle, cX9_idle, 1, (some .int), 0, false, 9, 8, false), (yX9_mends, cX9_mends, 1, (some .int), 0, false, 9, 8, false), (yX9_like, cX9_like, 3, (some .int), 2, false, 9, 8, false), (yX9_loops, cX9_loops, 1, (some .int), 0, false, 9, 8, false), (yX9_turns, cX9_turns, 2, (some .int), 1, false, 9, 8, false), (yX9_law, cX9_law, 3, (some .int), 2, false, 9, 8, false), (yX9_row, cX9_row, 2, (some .int), 1, false, 9, 8, false), (yX9_judge, cX9_judge, 2, (some .int), 0, false, 9, 8, false), (yX9_seeds, cX9_seeds, 4, (some .int), 3, false, 9, 8, false), (yX9_image, cX9_image, 1, (some .int), 0, false, 9, 8, false), (yX9_restore, cX9_restore, 1, (some .int), 0, false, 9, 8, false), (yX9_count, cX9_count, 2, (some .int), 1, false, 9, 8, false), (yX9_refuse, cX9_refuse, 2, (some .int), 1, false, 9, 8, false), (yX9_refusalOfWanted, cX9_refusalOfWanted, 2, (some .int), 1, false, 9, 8, false), (yX9_isKind, cX9_isKind, 1, (some .boolean), 1, true, 9, 8, false), (yX9_hasBit, cX9_hasBit, 2, (some .boolean), 2, true, 9, 8, false), (yX10_init, cX10_init, 1, none, 0, false, 10, 9, true), (yX10_in, cX10_in, 6, (some .boolean), 3, true, 10, 9, true), (yX10_begin, cX10_begin, 3, none, 1, false, 10, 9, false), (yX10_refuse, cX10_refuse, 2, (some .int), 1, false, 10, 9, false), (yX10_isStone, cX10_isStone, 2, (some .boolean), 1, false, 10, 9, false), (yX10_areTwo, cX10_areTwo, 3, (some .boolean), 2, false, 10, 9, false), (yX10_wrongNumber, cX10_wrongNumber, 3, (some .int), 3, true, 10, 9, false), (yX10_ones, cX10_ones, 3, (some .int), 1, true, 10, 9, false), (yX10_signOf, cX10_signOf, 2, (some .int), 2, true, 10, 9, false), (yX10_toldOf, cX10_toldOf, 8, (some .int), 3, false, 10, 9, false), (yX10_note, cX10_note, 4, none, 3, false, 10, 9, false), (yX10_feed, cX10_feed, 2, (some .int), 1, false, 10, 9, false), (yX10_here, cX10_here, 1, (some .int), 0, false, 10, 9, false), (yX10_readDigit, cX10_readDigit, 1, (some .int), 0, false, 10, 9, false), (yX10_readStatement, cX10_readStatement, 4, none, 0, false, 10, 9, false), (yX10_noteComes, cX10_noteComes, 5, (some .boolean), 3, false, 10, 9, false), (yX10_comparisonComes, cX10_comparisonComes, 4, (some .boolean), 2, false, 10, 9, false)]
def PT_4 : List ME := [(yX10_prefer, cX10_prefer, 3, none, 2, false, 10, 9, false), (yX10_comes, cX10_comes, 4, (some .boolean), 1, false, 10, 9, false), (yX10_barn, cX10_barn, 2, (some .int), 0, false, 10, 9, false), (yX10_carry, cX10_carry, 2, (some .int), 1, false, 10, 9, false), (yX10_carryAll, cX10_carryAll, 4, none, 2, false, 10, 9, false), (yX10_image, cX10_image, 1, (some .int), 0, false, 10, 9, false), (yX10_restore, cX10_restore, 1, (some .int), 0, false, 10, 9, false), (yX10_weight, cX10_weight, 2, (some .int), 1, false, 10, 9, false), (yX10_set, cX10_set, 5, (some .int), 2, false, 10, 9, false), (yX10_scale, cX10_scale, 5, (some .int), 2, false, 10, 9, false), (yX10_would, cX10_would, 3, (some .int), 2, false, 10, 9, false), (yX10_weigh, cX10_weigh, 3, (some .int), 2, false, 10, 9, false), (yX10_book, cX10_book, 2, (some .int), 1, false, 10, 9, false), (yX10_strike, cX10_strike, 1, (some .int), 0, false, 10, 9, false), (yX10_closeOver, cX10_closeOver, 3, none, 0, false, 10, 9, false), (yX10_know, cX10_know, 4, none, 1, false, 10, 9, false), (yX10_isOver, cX10_isOver, 3, (some .boolean), 2, false, 10, 9, false), (yX10_ringBits, cX10_ringBits, 3, (some .int), 0, false, 10, 9, false), (yX10_above, cX10_above, 2, (some .int), 1, false, 10, 9, false), (yX10_ringed, cX10_ringed, 1, (some .int), 0, false, 10, 9, false), (yX10_lies, cX10_lies, 4, (some .int), 0, false, 10, 9, false), (yX10_open, cX10_open, 4, (some .int), 0, false, 10, 9, false), (yX10_codes, cX10_codes, 3, (some .int), 0, false, 10, 9, false), (yX10_layOrder, cX10_layOrder, 5, (some .boolean), 1, false, 10, 9, false), (yX10_fits, cX10_fits, 4, (some .boolean), 0, false, 10, 9, false), (yX10_findOrders, cX10_findOrders, 3, none, 0, false, 10, 9, false), (yX10_countAhead, cX10_countAhead, 3, none, 0, false, 10, 9, false), (yX10_orders, cX10_orders, 2, (some .int), 1, false, 10, 9, false), (yX10_next, cX10_next, 11, (some .int), 1, false, 10, 9, false), (yX10_bitOf, cX10_bitOf, 2, (some .int), 2, true, 10, 9, false), (yX10_knownBits, cX10_knownBits, 4, (some .int), 0, false, 10, 9, false), (yX10_layKnown, cX10_layKnown, 4, none, 1, false, 10, 9, false), (yX10_wantedIn, cX10_wantedIn, 4, (some .int), 1, false, 10, 9, false), (yX10_areAgreed, cX10_areAgreed, 7, (some .boolean), 1, false, 10, 9, false), (yX10_withAbove, cX10_withAbove, 4, (some .int), 3, false, 10, 9, false), (yX10_solve, cX10_solve, 12, none, 2, false, 10, 9, false), (yX10_isWhole, cX10_isWhole, 4, (some .boolean), 1, false, 10, 9, false), (yX10_solveAll, cX10_solveAll, 4, none, 1, false, 10, 9, false), (yX10_onesOf, cX10_onesOf, 3, (some .int), 1, true, 10, 9, false), (yX10_wrongWanted, cX10_wrongWanted, 2, (some .int), 1, false, 10, 9, false)]
def PT_5 : List ME := [(yX10_tells, cX10_tells, 3, (some .int), 1, false, 10, 9, false), (yX10_worst, cX10_worst, 4, (some .int), 1, false, 10, 9, false), (yX10_divisor, cX10_divisor, 5, (some .int), 2, true, 10, 9, false), (yX10_mean, cX10_mean, 6, (some .long), 2, false, 10, 9, false), (yX10_isHeavier, cX10_isHeavier, 3, (some .boolean), 2, false, 10, 9, false), (yX10_endOf, cX10_endOf, 6, (some .int), 2, false, 10, 9, false), (yX10_planOne, cX10_planOne, 3, none, 0, false, 10, 9, false), (yX10_planPairs, cX10_planPairs, 4, none, 0, false, 10, 9, false), (yX10_planCup, cX10_planCup, 7, none, 0, false, 10, 9, false), (yX10_insertAll, cX10_insertAll, 9, none, 2, false, 10, 9, false), (yX10_mergeRows, cX10_mergeRows, 8, none, 2, false, 10, 9, false), (yX10_planMerge, cX10_planMerge, 5, none, 1, false, 10, 9, false), (yX10_planAll, cX10_planAll, 3, none, 1, false, 10, 9, false), (yX10_planBy, cX10_planBy, 2, none, 1, false, 10, 9, false), (yX10_plan, cX10_plan, 2, (some .int), 1, false, 10, 9, false), (yX10_found, cX10_found, 3, (some .int), 2, false, 10, 9, false), (yX10_compare, cX10_compare, 3, (some .int), 2, false, 10, 9, false), (yX10_clear, cX10_clear, 2, (some .int), 0, false, 10, 9, false), (yX10_passOne, cX10_passOne, 5, (some .int), 3, false, 10, 9, false), (yX10_passAll, cX10_passAll, 5, (some .int), 1, false, 10, 9, false), (yX10_isInOrder, cX10_isInOrder, 1, (some .boolean), 1, true, 10, 9, false), (yX10_gapWith, cX10_gapWith, 6, (some .int), 2, false, 10, 9, false), (yX10_sorts, cX10_sorts, 1, (some .int), 0, false, 10, 9, false), (yX10_gap, cX10_gap, 1, (some .int), 0, false, 10, 9, false), (yX10_rounds, cX10_rounds, 6, (some .int), 0, false, 10, 9, false), (yX10_through, cX10_through, 6, (some .int), 1, false, 10, 9, false), (yX10_idle, cX10_idle, 1, (some .int), 0, false, 10, 9, false), (yX10_mends, cX10_mends, 6, (some .int), 0, false, 10, 9, false), (yX10_isLiked, cX10_isLiked, 3, (some .boolean), 2, false, 10, 9, false), (yX10_like, cX10_like, 4, (some .int), 2, false, 10, 9, false), (yX10_isLoop, cX10_isLoop, 4, (some .boolean), 3, false, 10, 9, false), (yX10_loops, cX10_loops, 5, (some .int), 0, false, 10, 9, false), (yX10_against, cX10_against, 4, (some .int), 0, false, 10, 9, false), (yX10_turns, cX10_turns, 7, (some .int), 1, false, 10, 9, false), (yX10_halvings, cX10_halvings, 3, (some .int), 1, true, 10, 9, false), (yX10_byInsert, cX10_byInsert, 3, (some .int), 1, true, 10, 9, false), (yX10_byOrders, cX10_byOrders, 4, (some .int), 1, true, 10, 9, true), (yX10_law, cX10_law, 4, (some .int), 2, false, 10, 9, false), (yX10_row, cX10_row, 2, (some .int), 1, false, 10, 9, false), (yX10_judge, cX10_judge, 5, (some .int), 0, false, 10, 9, false)]
def PT_6 : List ME := [(yX10_seeds, cX10_seeds, 9, (some .int), 3, false, 10, 9, false), (yX10_count, cX10_count, 5, (some .int), 1, false, 10, 9, false), (yJ6_bitCount_0f7a4, cJ6_bitCount_0f7a4, 1, (some .int), 1, true, 11, 99, false), (yL_law, cL_law, 4, (some .boolean), 1, true, 12, 99, false)]
def PT : List ME := PT_0 ++ (PT_1 ++ (PT_2 ++ (PT_3 ++ (PT_4 ++ (PT_5 ++ (PT_6))))))
def clN : Nat → String := fun k => match k with
  | 0 => RX0
  | 1 => RX1
  | 2 => RX2
  | 3 => RX3
  | 4 => RX4
  | 5 => RX5
  | 6 => RX6
  | 7 => RX7
  | 8 => RX8
  | 9 => RX9
  | 10 => RX10
  | 11 => RJ6
  | _ => RL
/-- kind of a field: 0 an int, 1 a boolean, 2 a final reference, 3 another -/
def FKL : Nat → List Nat := fun ci => match ci with
  | 0 => [0, 2, 0, 0, 0, 2, 2, 2, 0, 2, 2, 2]
  | 1 => [0, 2, 2, 2]
  | 2 => [0, 2, 2]
  | 3 => [2, 2]
  | 4 => [2, 0, 0, 2, 0, 2, 2, 2, 2, 0]
  | 5 => [2, 0, 2]
  | 6 => [2, 0]
  | 7 => [0, 0, 2, 2, 2, 2, 2]
  | 8 => [2, 2, 1, 2, 2, 2, 2, 2, 2, 2, 2, 0, 2]
  | 9 => [0, 0, 0, 0, 0, 2, 2, 2, 2, 2, 2, 2, 0, 2, 2, 0, 0, 1, 0, 2, 2, 2, 2, 2, 1, 0, 1, 3, 2, 2, 0, 0, 2, 2, 2, 0, 0, 2, 2, 0, 2, 2, 2, 2, 2, 0, 2, 2, 0]
  | _ => []
def FFL : Nat → List Bool := fun ci => match ci with
  | 0 => [false, true, false, false, false, true, true, true, false, true, true, true]
  | 1 => [false, true, true, true]
  | 2 => [false, true, true]
  | 3 => [true, true]
  | 4 => [true, false, false, true, false, true, true, true, true, false]
  | 5 => [true, false, true]
  | 6 => [true, false]
  | 7 => [false, false, true, true, true, true, true]
  | 8 => [true, true, false, true, true, true, true, true, true, true, true, false, true]
  | 9 => [false, false, false, false, false, true, true, true, true, true, true, true, false, true, true, false, false, false, false, true, true, true, true, true, false, false, false, false, true, true, false, false, true, true, true, false, false, true, true, false, true, true, true, true, true, false, true, true, false]
  | _ => []
def FK (ci k : Nat) : Nat := (FKL ci).getD k 4
def FF (ci k : Nat) : Bool := (FFL ci).getD k true
/-- field references: owner, entry; kind of object, slot, by a nest mate, the word's place -/
def FRL : List ((Nat × Nat) × Nat × Nat × Bool × Nat) := [((0, 9), 0, 1, false, 126), ((0, 15), 0, 5, false, 134), ((0, 18), 0, 6, false, 137), ((0, 21), 0, 7, false, 140), ((0, 24), 0, 9, false, 146), ((0, 27), 0, 10, false, 148), ((0, 30), 0, 11, false, 150), ((0, 33), 0, 2, false, 129), ((0, 37), 0, 3, false, 130), ((0, 44), 0, 0, false, 121), ((0, 47), 0, 4, false, 131), ((0, 50), 0, 8, false, 143), ((1, 9), 1, 0, false, 203), ((1, 15), 1, 1, false, 205), ((1, 19), 1, 2, false, 208), ((1, 22), 1, 3, false, 209), ((1, 29), 0, 0, true, 123), ((1, 32), 0, 4, true, 132), ((1, 35), 0, 7, true, 141), ((1, 42), 0, 5, true, 135), ((1, 45), 0, 6, true, 138), ((3, 9), 2, 0, false, 303), ((3, 15), 2, 1, false, 304), ((3, 19), 2, 2, false, 305), ((3, 22), 0, 0, true, 122), ((3, 25), 0, 11, true, 151), ((4, 9), 3, 0, false, 290), ((4, 15), 3, 1, false, 291), ((4, 22), 0, 0, true, 124), ((4, 28), 0, 8, true, 144), ((4, 31), 0, 9, true, 147), ((4, 34), 0, 10, true, 149), ((4, 58), 0, 1, true, 128), ((5, 9), 4, 0, false, 253), ((5, 15), 4, 1, false, 254), ((5, 19), 4, 2, false, 255), ((5, 22), 4, 3, false, 256), ((5, 25), 4, 4, false, 257), ((5, 28), 4, 5, false, 258), ((5, 31), 4, 6, false, 259), ((5, 34), 4, 7, false, 260), ((5, 37), 4, 8, false, 261), ((5, 40), 4, 9, false, 262), ((6, 9), 5, 0, false, 186), ((6, 15), 5, 1, false, 187), ((6, 22), 5, 2, false, 189), ((7, 9), 6, 0, false, 319), ((7, 15), 6, 1, false, 320), ((8, 9), 7, 0, false, 225), ((8, 15), 7, 1, false, 226), ((8, 18), 7, 2, false, 227), ((8, 22), 7, 3, false, 228), ((8, 25), 7, 4, false, 229), ((8, 28), 7, 5, false, 230), ((8, 31), 7, 6, false, 231), ((8, 56), 1, 0, true, 204), ((8, 63), 1, 1, true, 206), ((9, 10), 8, 0, false, 326), ((9, 16), 8, 1, false, 327), ((9, 19), 8, 2, false, 328), ((9, 26), 8, 3, false, 329), ((9, 33), 8, 4, false, 330), ((9, 40), 8, 5, false, 331), ((9, 47), 8, 6, false, 332), ((9, 54), 8, 7, false, 333), ((9, 61), 8, 8, false, 334), ((9, 68), 8, 9, false, 335), ((9, 72), 8, 10, false, 336), ((9, 76), 8, 11, false, 337), ((9, 80), 8, 12, false, 338), ((9, 102), 0, 1, true, 127), ((9, 122), 0, 4, true, 133), ((9, 136), 0, 5, true, 136), ((9, 139), 0, 6, true, 139), ((9, 142), 0, 7, true, 142), ((9, 149), 1, 1, true, 207), ((9, 192), 0, 0, true, 125), ((9, 208), 0, 8, true, 145), ((9, 262), 5, 1, true, 188), ((10, 7), 9, 0, false, 950), ((10, 13), 9, 5, false, 955), ((10, 17), 9, 6, false, 956), ((10, 20), 9, 7, false, 957), ((10, 23), 9, 8, false, 958), ((10, 26), 9, 9, false, 959), ((10, 29), 9, 10, false, 960), ((10, 32), 9, 11, false, 961), ((10, 35), 9, 13, false, 963), ((10, 38), 9, 14, false, 964), ((10, 41), 9, 19, false, 969), ((10, 44), 9, 20, false, 970), ((10, 47), 9, 21, false, 971), ((10, 50), 9, 22, false, 972), ((10, 53), 9, 23, false, 973), ((10, 56), 9, 28, false, 978), ((10, 59), 9, 29, false, 979), ((10, 62), 9, 32, false, 982), ((10, 65), 9, 33, false, 983), ((10, 68), 9, 34, false, 984), ((10, 71), 9, 37, false, 987), ((10, 74), 9, 38, false, 988), ((10, 77), 9, 40, false, 990), ((10, 80), 9, 41, false, 991), ((10, 83), 9, 42, false, 992), ((10, 86), 9, 43, false, 993), ((10, 89), 9, 44, false, 994), ((10, 92), 9, 46, false, 996), ((10, 95), 9, 47, false, 997), ((10, 98), 9, 12, false, 962), ((10, 105), 9, 3, false, 953), ((10, 108), 9, 4, false, 954), ((10, 123), 9, 2, false, 952), ((10, 126), 9, 1, false, 951), ((10, 133), 9, 15, false, 965), ((10, 136), 9, 16, false, 966), ((10, 139), 9, 17, false, 967), ((10, 151), 9, 18, false, 968), ((10, 190), 9, 26, false, 976), ((10, 193), 9, 27, false, 977), ((10, 196), 9, 25, false, 975), ((10, 202), 9, 24, false, 974), ((10, 226), 9, 30, false, 980), ((10, 229), 9, 31, false, 981), ((10, 251), 9, 35, false, 985), ((10, 290), 9, 36, false, 986), ((10, 300), 9, 39, false, 989), ((10, 330), 9, 45, false, 995), ((10, 362), 9, 48, false, 998)]
def MRL : List ((Nat × Nat) × Nat × Bool × Nat) := [((0, 40), 1, false, 117), ((0, 53), 1003, false, 404), ((0, 59), 3, false, 428), ((0, 63), 141, true, 444), ((0, 66), 4, false, 459), ((0, 70), 142, true, 476), ((0, 73), 242, false, 935), ((0, 79), 17, false, 517), ((0, 83), 18, false, 524), ((0, 86), 1002, false, 521), ((0, 91), 16, false, 901), ((1, 25), 22, false, 549), ((1, 38), 18, false, 553), ((1, 48), 23, false, 554), ((1, 51), 142, true, 558), ((1, 55), 21, false, 612), ((1, 59), 24, false, 579), ((1, 63), 26, false, 593), ((1, 66), 28, false, 592), ((1, 69), 31, false, 580), ((1, 72), 29, false, 597), ((1, 76), 1000, false, 601), ((2, 7), 34, false, 879), ((2, 13), 35, false, 882), ((2, 16), 36, false, 885), ((3, 28), 39, false, 842), ((3, 32), 142, true, 845), ((3, 36), 41, false, 854), ((3, 40), 1001, false, 859), ((3, 45), 242, false, 858), ((3, 51), 44, false, 868), ((4, 18), 142, true, 783), ((4, 37), 46, false, 780), ((4, 41), 47, false, 784), ((4, 45), 48, false, 824), ((4, 49), 51, false, 825), ((4, 52), 1000, false, 799), ((5, 43), 1001, false, 705), ((5, 49), 1003, false, 706), ((5, 55), 61, false, 707), ((5, 58), 62, false, 727), ((5, 61), 63, false, 731), ((5, 64), 65, false, 739), ((5, 68), 67, false, 747), ((5, 72), 57, false, 715), ((5, 76), 59, false, 711), ((5, 80), 60, false, 719), ((5, 83), 58, false, 723), ((5, 86), 64, false, 735), ((5, 90), 66, false, 743), ((5, 94), 68, false, 750), ((6, 21), 0, false, 185), ((6, 26), 73, false, 390), ((6, 30), 2, false, 400), ((6, 34), 77, false, 407), ((6, 38), 74, false, 394), ((6, 41), 75, false, 397), ((6, 44), 76, false, 411), ((6, 47), 78, false, 415), ((6, 51), 79, false, 420), ((6, 54), 80, false, 436), ((6, 57), 81, false, 451), ((6, 61), 82, false, 467), ((6, 64), 83, false, 479), ((6, 67), 1, false, 419), ((6, 71), 5, false, 424), ((6, 75), 6, false, 432), ((6, 78), 7, false, 440), ((6, 81), 8, false, 447), ((6, 84), 9, false, 455), ((6, 87), 10, false, 463), ((6, 91), 4, false, 471), ((6, 94), 13, false, 472), ((6, 97), 11, false, 483), ((6, 100), 12, false, 487), ((7, 19), 86, false, 910), ((7, 23), 55, false, 917), ((8, 34), 92, false, 633), ((8, 38), 97, false, 657), ((8, 42), 99, false, 669), ((8, 46), 242, false, 678), ((8, 52), 91, false, 693), ((8, 59), 93, false, 637), ((8, 66), 142, true, 656), ((8, 69), 1001, false, 641), ((8, 74), 94, false, 644), ((8, 78), 95, false, 648), ((8, 81), 96, false, 652), ((8, 84), 98, false, 672), ((8, 88), 1000, false, 677), ((9, 9), 0, false, 113), ((9, 25), 69, false, 180), ((9, 32), 20, false, 199), ((9, 39), 87, false, 221), ((9, 46), 54, false, 249), ((9, 53), 45, false, 286), ((9, 60), 37, false, 299), ((9, 67), 84, false, 315), ((9, 83), 139, false, 370), ((9, 87), 70, false, 374), ((9, 91), 71, false, 378), ((9, 94), 72, false, 386), ((9, 98), 3, false, 495), ((9, 105), 5, false, 500), ((9, 109), 6, false, 501), ((9, 112), 7, false, 506), ((9, 115), 8, false, 507), ((9, 118), 4, false, 512), ((9, 125), 16, false, 513), ((9, 129), 9, false, 531), ((9, 132), 10, false, 532), ((9, 145), 21, false, 545), ((9, 152), 24, false, 563), ((9, 156), 28, false, 571), ((9, 159), 30, false, 575), ((9, 162), 32, false, 588), ((9, 166), 25, false, 608), ((9, 169), 27, false, 617), ((9, 172), 140, false, 625), ((9, 175), 88, false, 629), ((9, 179), 89, false, 665), ((9, 185), 90, false, 689), ((9, 189), 141, false, 700), ((9, 195), 55, false, 701), ((9, 199), 56, false, 758), ((9, 202), 11, false, 766), ((9, 205), 12, false, 767), ((9, 211), 48, false, 776), ((9, 214), 52, false, 795), ((9, 217), 53, false, 804), ((9, 221), 49, false, 812), ((9, 224), 50, false, 820), ((9, 227), 13, false, 833), ((9, 230), 38, false, 838), ((9, 233), 40, false, 850), ((9, 236), 42, false, 860), ((9, 239), 43, false, 864), ((9, 240), 33, false, 876), ((9, 245), 19, false, 897), ((9, 249), 85, false, 906), ((9, 253), 2, false, 922), ((9, 256), 14, false, 931), ((9, 259), 15, false, 936), ((10, 101), 145, false, 946), ((10, 111), 144, false, 1124), ((10, 115), 147, false, 1141), ((10, 119), 151, false, 1197), ((10, 129), 146, false, 1102), ((10, 143), 155, false, 1114), ((10, 154), 156, false, 1118), ((10, 157), 148, false, 1149), ((10, 161), 153, false, 1153), ((10, 169), 158, false, 1145), ((10, 173), 160, false, 1157), ((10, 177), 159, false, 1161), ((10, 180), 157, false, 1110), ((10, 183), 164, false, 1127), ((10, 187), 161, false, 1135), ((10, 199), 163, false, 1131), ((10, 205), 149, false, 1181), ((10, 211), 152, false, 1193), ((10, 214), 174, false, 1220), ((10, 217), 176, false, 1232), ((10, 220), 175, false, 1216), ((10, 223), 177, false, 1228), ((10, 232), 182, false, 1252), ((10, 235), 183, false, 1256), ((10, 238), 184, false, 1260), ((10, 242), 186, false, 1264), ((10, 245), 185, false, 1248), ((10, 248), 189, false, 1296), ((10, 254), 192, false, 1284), ((10, 257), 191, false, 1310), ((10, 260), 190, false, 1292), ((10, 263), 193, false, 1280), ((10, 267), 194, false, 1319), ((10, 270), 198, false, 1303), ((10, 273), 196, false, 1306), ((10, 276), 195, false, 1314), ((10, 279), 199, false, 1276), ((10, 282), 197, false, 1299), ((10, 287), 202, false, 1328), ((10, 293), 204, false, 1347), ((10, 296), 205, false, 1343), ((10, 303), 210, false, 1371), ((10, 306), 209, false, 1363), ((10, 309), 211, false, 1367), ((10, 312), 206, false, 1339), ((10, 315), 207, false, 1351), ((10, 318), 208, false, 1355), ((10, 321), 212, false, 1359), ((10, 324), 213, false, 1335), ((10, 327), 218, false, 1399), ((10, 333), 219, false, 1395), ((10, 336), 220, false, 1403), ((10, 339), 221, false, 1391), ((10, 342), 228, false, 1430), ((10, 345), 230, false, 1438), ((10, 348), 232, false, 1446), ((10, 351), 234, false, 1455), ((10, 356), 235, false, 1458), ((10, 359), 236, false, 1461), ((10, 368), 150, false, 1483), ((12, 9), 100, false, 105), ((12, 12), 143, false, 942), ((12, 13), 101, false, 366), ((12, 17), 154, false, 1098), ((12, 18), 102, false, 382), ((12, 22), 162, false, 1106), ((12, 23), 103, false, 491), ((12, 26), 167, false, 1173), ((12, 27), 104, false, 496), ((12, 31), 168, false, 1177), ((12, 32), 105, false, 502), ((12, 35), 169, false, 1184), ((12, 36), 106, false, 508), ((12, 39), 170, false, 1189), ((12, 40), 107, false, 527), ((12, 43), 171, false, 1200), ((12, 44), 108, false, 533), ((12, 47), 172, false, 1204), ((12, 48), 109, false, 537), ((12, 51), 173, false, 1208), ((12, 52), 110, false, 541), ((12, 55), 178, false, 1212), ((12, 56), 111, false, 559), ((12, 59), 179, false, 1224), ((12, 60), 112, false, 567), ((12, 63), 187, false, 1244), ((12, 64), 113, false, 584), ((12, 67), 188, false, 1268), ((12, 68), 114, false, 604), ((12, 71), 180, false, 1236), ((12, 72), 115, false, 613), ((12, 75), 181, false, 1240), ((12, 76), 116, false, 621), ((12, 79), 200, false, 1272), ((12, 80), 117, false, 661), ((12, 83), 201, false, 1288), ((12, 84), 118, false, 684), ((12, 88), 203, false, 1323), ((12, 89), 119, false, 696), ((12, 92), 214, false, 1331), ((12, 93), 120, false, 754), ((12, 96), 215, false, 1375), ((12, 97), 121, false, 762), ((12, 100), 216, false, 1379), ((12, 101), 122, false, 768), ((12, 104), 217, false, 1383), ((12, 105), 123, false, 772), ((12, 108), 222, false, 1387), ((12, 109), 124, false, 787), ((12, 112), 223, false, 1406), ((12, 113), 125, false, 791), ((12, 116), 224, false, 1410), ((12, 117), 126, false, 800), ((12, 120), 225, false, 1414), ((12, 121), 127, false, 808), ((12, 124), 226, false, 1418), ((12, 125), 128, false, 816), ((12, 128), 227, false, 1422), ((12, 129), 129, false, 829), ((12, 132), 229, false, 1426), ((12, 133), 130, false, 834), ((12, 136), 231, false, 1434), ((12, 137), 131, false, 846), ((12, 140), 233, false, 1442), ((12, 141), 132, false, 872), ((12, 144), 237, false, 1450), ((12, 145), 133, false, 889), ((12, 148), 238, false, 1464), ((12, 149), 134, false, 893), ((12, 152), 239, false, 1468), ((12, 153), 135, false, 902), ((12, 157), 240, false, 1472), ((12, 158), 136, false, 918), ((12, 161), 165, false, 1165), ((12, 162), 137, false, 923), ((12, 165), 166, false, 1169), ((12, 166), 138, false, 927), ((12, 169), 241, false, 1479)]
def CRL : List ((Nat × Nat) × Int × Nat) := [((7, 29), 1103515245, 914), ((7, 30), 2147483647, 915), ((7, 31), 65536, 916), ((8, 87), 1000000, 676), ((10, 266), 99999, 1318), ((10, 365), 1103515245, 1476), ((10, 366), 2147483647, 1477), ((10, 367), 65536, 1478), ((11, 265), 1431655765, 681), ((11, 266), 858993459, 682), ((11, 267), 252645135, 683)]
def LRL : List ((Nat × Nat) × Int × Nat) := [((2, 19), 2, 888), ((9, 183), 4000000000000000000, 688), ((10, 147), 48, 1122), ((10, 149), 57, 1123), ((10, 165), 2, 1139), ((10, 167), 6, 1140), ((10, 209), 5, 1188), ((10, 285), 4000000000000000000, 1327), ((10, 354), 3, 1454), ((10, 371), 11, 1486), ((10, 373), 16, 1487)]
def FR (c idx : Nat) : Option (Nat × Nat × Bool × Nat) := FRL.lookup (c, idx)
def MR (c idx : Nat) : Option (Nat × Bool × Nat) := MRL.lookup (c, idx)
def CR (c idx : Nat) : Option (Int × Nat) := CRL.lookup (c, idx)
def LR (c idx : Nat) : Option (Int × Nat) := LRL.lookup (c, idx)
/-- is it an object of that kind; an array, its length (the script is 10000, its length stands in row 10001) -/
def kO (K : KK) (a : Nat) : Option (Nat × List Nat) := match K[a]? with
  | some (.inr x) => some x
  | _ => none
def kC (K : KK) (a : Nat) : Nat := match kO K a with
  | some x => x.1
  | none => 99
def rT (K : KK) (a k : Nat) : Nat := match kO K a with
  | some x => x.2.getD k 0
  | none => 0
abbrev isO (K : KK) (a ci : Nat) : Prop := kC K a = ci ∧ ci < 99
def aln (K : KK) (a : Nat) : Int := match K[a]? with
  | some (.inl n) => n
  | _ => 0
def alen (K : KK) (h : HH) (a : Nat) : Int := if a = 10000 then h 10001 0 else aln K a
/-- a step: on in the method; an end; a call (method, its locals, what stays on the stack) -/
abbrev RES : Type := (Nat × List AV × List AV × HH) ⊕ ((Option AV × HH) ⊕ (Nat × List AV × List AV))
def nx (pc : Nat) (L st : List AV) (h : HH) : Option RES := some (.inl (pc, L, st, h))
def gd (p : Prop) [Decidable p] (x : Option RES) : Option RES := if p then x else none
def notL : AV → Bool
  | .inr (.inl _) => false
  | _ => true
def isR : AV → Bool
  | .inr (.inr (.inl _)) => true
  | _ => false
def ld (n pc i : Nat) (L st : List AV) (h : HH) (ok : AV → Bool) : Option RES := match L[i]? with
  | some v => gd (ok v = true) (nx (pc + n) L (v :: st) h)
  | none => none
def okI : AV → Bool
  | .inl _ => true
  | _ => false
def okL : AV → Bool
  | .inr (.inl _) => true
  | _ => false
def okR : AV → Bool
  | .inr (.inr (.inl _)) => true
  | _ => false
def sto (lg : Bool) (n pc i : Nat) (L st : List AV) (h : HH) (ok : AV → Bool) : Option RES := match st with
  | v :: r => gd (ok v = true ∧ i < L.length ∧ (lg = false ∨ notL (L.getD (i - 1) vU) = true)) (nx (pc + n) (L.set i v) r h)
  | [] => none
def stoL (lg : Bool) (n pc i : Nat) (L st : List AV) (h : HH) : Option RES := match st with
  | .inr (.inl z) :: r => gd (lg = true ∧ i + 1 < L.length ∧ notL (L.getD (i - 1) vU) = true ∧ notL (L.getD (i + 1) vU) = true) (nx (pc + n) ((L.set i (vL z)).set (i + 1) vU) r h)
  | _ => none
def bin (pc : Nat) (L st : List AV) (h : HH) (f : Int → Int → Int) : Option RES := match st with
  | .inl y :: .inl x :: r => nx (pc + 1) L (vI (f x y) :: r) h
  | _ => none
def binG (pc : Nat) (L st : List AV) (h : HH) (p : Int → Int → Bool) (f : Int → Int → Int) : Option RES := match st with
  | .inl y :: .inl x :: r => gd (p x y = true) (nx (pc + 1) L (vI (f x y) :: r) h)
  | _ => none
def binL (pc : Nat) (L st : List AV) (h : HH) (f : Int → Int → Int) : Option RES := match st with
  | .inr (.inl y) :: .inr (.inl x) :: r => nx (pc + 1) L (vL (f x y) :: r) h
  | _ => none
def tg (pc : Nat) (off : Int) : Nat := ((pc : Int) + off).toNat
def jmp (pc : Nat) (off : Int) (c : Prop) [Decidable c] (L st : List AV) (h : HH) : Option RES := gd (0 ≤ (pc : Int) + off) (if c then nx (tg pc off) L st h else nx (pc + 3) L st h)
def jif (pc : Nat) (L st : List AV) (h : HH) (off : Int) (p : Int → Bool) : Option RES := match st with
  | .inl x :: r => jmp pc off (p x = true) L r h
  | _ => none
def jcm (pc : Nat) (L st : List AV) (h : HH) (off : Int) (p : Int → Int → Bool) : Option RES := match st with
  | .inl y :: .inl x :: r => jmp pc off (p x y = true) L r h
  | _ => none
def cnd : ClassFile.Cond → Int → Int → Bool
  | .eq, x, y => decide (x = y)
  | .ne, x, y => decide (x ≠ y)
  | .lt, x, y => decide (x < y)
  | .ge, x, y => decide (y ≤ x)
  | .gt, x, y => decide (y < x)
  | .le, x, y => decide (x ≤ y)
def swT (d lo hi : Int) (offs : List Int) (x : Int) : Int := if x < lo ∨ hi < x then d else offs.getD (x - lo).toNat 0
def lay : List AV → List AV
  | [] => []
  | v :: r => if notL v then v :: lay r else v :: vU :: lay r
def padL (n : Nat) (L : List AV) : List AV := L ++ List.replicate (n - L.length) vU
def noL (L : List AV) : Bool := L.all notL
def getF (K : KK) (c pc idx : Nat) (L st : List AV) (h : HH) : Option RES := match st with
  | .inr (.inr (.inl a)) :: r => match FR c idx with
    | some (ci, k, _, _) => gd (isO K a ci) (if FK ci k = 2 then nx (pc + 3) L (vR (rT K a k) :: r) h else if FK ci k = 3 then gd (0 ≤ h a k) (nx (pc + 3) L (vR (h a k).toNat :: r) h) else nx (pc + 3) L (vI (h a k) :: r) h)
    | none => none
  | _ => none
def putF (K : KK) (c pc idx : Nat) (L st : List AV) (h : HH) : Option RES := match st with
  | .inl x :: .inr (.inr (.inl a)) :: r => match FR c idx with
    | some (ci, k, _, _) => gd (isO K a ci ∧ FF ci k = false ∧ (FK ci k = 0 ∨ (FK ci k = 1 ∧ (x = 0 ∨ x = 1)))) (nx (pc + 3) L r (hput h a k x))
    | none => none
  | .inr (.inr (.inl b)) :: .inr (.inr (.inl a)) :: r => match FR c idx with
    | some (ci, k, _, _) => gd (isO K a ci ∧ FF ci k = false ∧ FK ci k = 3 ∧ b < 10000) (nx (pc + 3) L r (hput h a k b))
    | none => none
  | _ => none
def aLd (K : KK) (pc : Nat) (L st : List AV) (h : HH) : Option RES := match st with
  | .inl i :: .inr (.inr (.inl a)) :: r => gd (0 ≤ i ∧ i < alen K h a) (nx (pc + 1) L (vI (h a i.toNat) :: r) h)
  | _ => none
def aSt (K : KK) (pc : Nat) (L st : List AV) (h : HH) : Option RES := match st with
  | .inl x :: .inl i :: .inr (.inr (.inl a)) :: r => gd (0 ≤ i ∧ i < aln K a) (nx (pc + 1) L r (hput h a i.toNat x))
  | _ => none
def aLn (K : KK) (pc : Nat) (L st : List AV) (h : HH) : Option RES := match st with
  | .inr (.inr (.inl a)) :: r => gd (0 < alen K h a ∨ (a = 10000 ∧ h 10000 4096 = 1)) (nx (pc + 1) L (vI (alen K h a) :: r) h)
  | _ => none
def kcS (c pc idx : Nat) (L st : List AV) (h : HH) : Option RES := match MR c idx with
  | some (1000, _, _) => match st with
    | [.inl y, .inl x] => nx (pc + 3) L [vI (if x < y then y else x)] h
    | [.inl y, .inl x, w] => nx (pc + 3) L [vI (if x < y then y else x), w] h
    | [.inl y, .inl x, w, v] => nx (pc + 3) L [vI (if x < y then y else x), w, v] h
    | _ => none
  | some (1001, _, _) => match st with
    | [.inl y, .inl x] => nx (pc + 3) L [vI (if y < x then y else x)] h
    | [.inl y, .inl x, w] => nx (pc + 3) L [vI (if y < x then y else x), w] h
    | [.inl y, .inl x, w, v] => nx (pc + 3) L [vI (if y < x then y else x), w, v] h
    | _ => none
  | some (1002, _, _) => match st with
    | [.inl x] => nx (pc + 3) L [vI (if 0 ≤ x then x else w32 (0 - x))] h
    | _ => none
  | some (mi2, _, _) => match PT[mi2]? with
    | some e2 => gd (e2.st = true ∧ e2.na ≤ st.length ∧ (st.drop e2.na).length ≤ 4 ∧ (e2.lg = true ∨ noL (st.take e2.na) = true) ∧ (lay (st.take e2.na).reverse).length ≤ e2.ml) (some (.inr (.inr (mi2, padL e2.ml (lay (st.take e2.na).reverse), st.drop e2.na))))
    | none => none
  | none => none
def kcA (K : KK) (c pc idx : Nat) (L st : List AV) (h : HH) : Option RES := match MR c idx, st with
  | some (1003, _, _), [.inl n, .inl dp, .inr (.inr (.inl b)), .inl sp, .inr (.inr (.inl a))] => gd (0 ≤ n ∧ 0 ≤ dp ∧ 0 ≤ sp ∧ sp + n ≤ aln K a ∧ dp + n ≤ aln K b ∧ 0 < aln K a ∧ 0 < aln K b) (nx (pc + 3) L [] (hset h b (fun j => if dp.toNat ≤ j ∧ j < dp.toNat + n.toNat then h a (sp.toNat + (j - dp.toNat)) else h b j)))
  | _, _ => none
def kcV (K : KK) (c idx : Nat) (st : List AV) : Option RES := match MR c idx with
  | some (mi2, _, _) => match PT[mi2]? with
    | some e2 => match st.drop e2.na with
      | .inr (.inr (.inl a)) :: r => gd (e2.st = false ∧ isO K a e2.ci ∧ r.length ≤ 4 ∧ e2.lg = false ∧ noL (st.take e2.na) = true ∧ e2.na + 1 ≤ e2.ml) (some (.inr (.inr (mi2, padL e2.ml (vR a :: (st.take e2.na).reverse), r))))
      | _ => none
    | none => none
  | none => none
def rets (e : ME) (st : List AV) (h : HH) : Option RES := match st with
  | [.inl x] => gd (e.ret = some .int ∨ (e.ret = some .boolean ∧ (x = 0 ∨ x = 1))) (some (.inr (.inl (some (vI x), h))))
  | _ => none
def retL (e : ME) (st : List AV) (h : HH) : Option RES := match st with
  | [.inr (.inl x)] => gd (e.ret = some .long) (some (.inr (.inl (some (vL x), h))))
  | _ => none
def stepI (K : KK) (e : ME) (pc n : Nat) (L st : List AV) (h : HH) : Instr → Option RES
  | .iconst z => gd (n = 1 ∧ -1 ≤ z ∧ z ≤ 5) (nx (pc + 1) L (vI z :: st) h)
  | .bipush z => gd (n = 2 ∧ -128 ≤ z ∧ z ≤ 127) (nx (pc + 2) L (vI z :: st) h)
  | .sipush z => gd (n = 3 ∧ -32768 ≤ z ∧ z ≤ 32767) (nx (pc + 3) L (vI z :: st) h)
  | .lconst z => gd (n = 1) (nx (pc + 1) L (vL (z.val : Int) :: st) h)
  | .ldc i => match CR e.c i with
    | some q => gd (n = 2) (nx (pc + 2) L (vI q.1 :: st) h)
    | none => none
  | .ldc_w i => match CR e.c i with
    | some q => gd (n = 3) (nx (pc + 3) L (vI q.1 :: st) h)
    | none => none
  | .ldc2_w i => match LR e.c i with
    | some q => gd (n = 3) (nx (pc + 3) L (vL q.1 :: st) h)
    | none => none
  | .iload_n k => gd (n = 1) (ld 1 pc k.val L st h okI)
  | .iload i => gd (n = 2) (ld 2 pc i L st h okI)
  | .lload_n k => gd (n = 1) (ld 1 pc k.val L st h okL)
  | .lload i => gd (n = 2) (ld 2 pc i L st h okL)
  | .aload_n k => gd (n = 1) (ld 1 pc k.val L st h okR)
  | .aload i => gd (n = 2) (ld 2 pc i L st h okR)
  | .istore_n k => gd (n = 1) (sto e.lg 1 pc k.val L st h okI)
  | .istore i => gd (n = 2) (sto e.lg 2 pc i L st h okI)
  | .astore_n k => gd (n = 1) (sto e.lg 1 pc k.val L st h okR)
  | .astore i => gd (n = 2) (sto e.lg 2 pc i L st h okR)
  | .lstore_n k => gd (n = 1) (stoL e.lg 1 pc k.val L st h)
  | .lstore i => gd (n = 2) (stoL e.lg 2 pc i L st h)
  | .iinc i z => match L[i]? with
    | some (.inl x) => gd (n = 3 ∧ (e.lg = false ∨ notL (L.getD (i - 1) vU) = true) ∧ -32768 ≤ z ∧ z ≤ 32767) (nx (pc + 3) (L.set i (vI (w32 (x + z)))) st h)
    | _ => none
  | .iadd => gd (n = 1) (bin pc L st h (fun x y => w32 (x + y)))
  | .isub => gd (n = 1) (bin pc L st h (fun x y => w32 (x - y)))
  | .imul => gd (n = 1) (bin pc L st h (fun x y => w32 (x * y)))
  | .iand => gd (n = 1) (bin pc L st h bAnd)
  | .ior => gd (n = 1) (bin pc L st h bOr)
  | .ixor => gd (n = 1) (bin pc L st h bXor)
  | .idiv => gd (n = 1) (binG pc L st h (fun _ y => decide (y ≠ 0)) (fun x y => w32 (x.tdiv y)))
  | .irem => gd (n = 1) (binG pc L st h (fun _ y => decide (y ≠ 0)) (fun x y => x.tmod y))
  | .ishl => gd (n = 1) (binG pc L st h (fun _ y => decide (0 ≤ y ∧ y < 32)) (fun x y => w32 (x * 2 ^ y.toNat)))
  | .ishr => gd (n = 1) (binG pc L st h (fun _ y => decide (0 ≤ y ∧ y < 32)) (fun x y => x / 2 ^ y.toNat))
  | .iushr => gd (n = 1) (binG pc L st h (fun x y => decide (0 ≤ x ∧ 0 ≤ y ∧ y < 32)) (fun x y => x / 2 ^ y.toNat))
  | .ineg => match st with
    | .inl x :: r => gd (n = 1) (nx (pc + 1) L (vI (w32 (-x)) :: r) h)
    | _ => none
  | .i2l => match st with
    | .inl x :: r => gd (n = 1) (nx (pc + 1) L (vL x :: r) h)
    | _ => none
  | .lsub => gd (n = 1) (binL pc L st h (fun x y => w64 (x - y)))
  | .lmul => gd (n = 1) (binL pc L st h (fun x y => w64 (x * y)))
  | .lshl => match st with
    | .inl y :: .inr (.inl x) :: r => gd (n = 1 ∧ 0 ≤ y ∧ y < 64) (nx (pc + 1) L (vL (w64 (x * 2 ^ y.toNat)) :: r) h)
    | _ => none
  | .lcmp => match st with
    | .inr (.inl y) :: .inr (.inl x) :: r => gd (n = 1) (nx (pc + 1) L (vI (if x < y then -1 else if x = y then 0 else 1) :: r) h)
    | _ => none
  | .dup => match st with
    | v :: r => gd (n = 1 ∧ notL v = true) (nx (pc + 1) L (v :: v :: r) h)
    | _ => none
  | .dup2 => match st with
    | v :: w :: r => gd (n = 1 ∧ notL v = true ∧ notL w = true) (nx (pc + 1) L (v :: w :: v :: w :: r) h)
    | _ => none
  | .pop => match st with
    | v :: r => gd (n = 1 ∧ notL v = true) (nx (pc + 1) L r h)
    | _ => none
  | .goto off => gd (n = 3 ∧ 0 ≤ (pc : Int) + off) (nx (tg pc off) L st h)
  | .ifCond c off => gd (n = 3) (jif pc L st h off (fun x => cnd c x 0))
  | .if_icmp c off => gd (n = 3) (jcm pc L st h off (fun x y => cnd c x y))
  | .tableswitch d lo hi offs => match st with
    | .inl x :: r => gd (0 ≤ (pc : Int) + swT d lo hi offs.toList x ∧ hi - lo < offs.size) (nx (tg pc (swT d lo hi offs.toList x)) L r h)
    | _ => none
  | .lookupswitch d ps => match st with
    | .inl x :: r => gd (0 ≤ (pc : Int) + Op.lookupswitch.offset ps.toList d x ∧ (ps.toList.zip (ps.toList.drop 1)).all (fun (a, next) => decide (a.1 < next.1)) = true) (nx (tg pc (Op.lookupswitch.offset ps.toList d x)) L r h)
    | _ => none
  | .getfield i => gd (n = 3) (getF K e.c pc i L st h)
  | .putfield i => gd (n = 3) (putF K e.c pc i L st h)
  | .iaload => gd (n = 1) (aLd K pc L st h)
  | .iastore => gd (n = 1) (aSt K pc L st h)
  | .arraylength => gd (n = 1) (aLn K pc L st h)
  | .invokestatic i => gd (n = 3) (match kcA K e.c pc i L st h with
    | some r => some r
    | none => kcS e.c pc i L st h)
  | .invokevirtual i => gd (n = 3) (kcV K e.c i st)
  | .ireturn => gd (n = 1) (rets e st h)
  | .lreturn => gd (n = 1) (retL e st h)
  | .return_ => match st with
    | [] => gd (n = 1 ∧ e.ret = none) (some (.inr (.inl (none, h))))
    | _ => none
  | _ => none
def stepS (K : KK) (mi pc : Nat) (L st : List AV) (h : HH) : Option RES := match PT[mi]? with
  | some e => match decode e.b pc with
    | .ok (i, n) => stepI K e pc n L st h i
    | _ => none
  | none => none
def run (K : KK) : Nat → Nat → Nat → Nat → List AV → List AV → HH → Option (Option AV × HH)
  | _, 0, _, _, _, _, _ => none
  | d, n + 1, mi, pc, L, st, h => match stepS K mi pc L st h with
    | none => none
    | some (.inl (pc', L', st', h')) => run K d n mi pc' L' st' h'
    | some (.inr (.inl r)) => some r
    | some (.inr (.inr (m2, L2, rest))) => match d with
      | 0 => none
      | d' + 1 => match run K d' n m2 0 L2 [] h with
        | none => none
        | some (r, h') => run K (d' + 1) n mi (pc + 3) L (r.toList ++ rest) h'
def wp (K : KK) (d mi pc : Nat) (L st : List AV) (h : HH) (Q : Option AV → HH → Prop) : Prop := ∃ n r, run K d n mi pc L st h = some r ∧ Q r.1 r.2
