set_option maxRecDepth 20000 in
theorem ggX0_gather_X1_rowsEnd : GoodIn wsX0_gather wsX1_rowsEnd := goodIn_r _ [16, 17, 35, 36, 37, 38, 39, 40, 41, 42, 43, 44, 45] (by decide +kernel) (by decide +kernel)
set_option maxRecDepth 20000 in
theorem gX0_gather_X1_rowsEnd : GoodIn wsX0_gather (wsV RX0 36 RX1 yX1_rowsEnd wsX1_rowsEnd) := goodIn_app (goodIn_of _ (by decide +kernel)) ggX0_gather_X1_rowsEnd
set_option maxRecDepth 20000 in
theorem ggX0_gather_X3_cameOf : GoodIn wsX0_gather wsX3_cameOf := goodIn_r _ [22, 23, 24, 25, 26, 27, 46, 47, 48, 35, 36, 37, 38, 39, 40, 41, 42, 43, 44, 45] (by decide +kernel) (by decide +kernel)
set_option maxRecDepth 20000 in
theorem gX0_gather_X3_cameOf : GoodIn wsX0_gather (wsV RX0 45 RX3 yX3_cameOf wsX3_cameOf) := goodIn_app (goodIn_of _ (by decide +kernel)) ggX0_gather_X3_cameOf
set_option maxRecDepth 20000 in
theorem ggX0_mostAtOnce_X0_helpedAt : GoodIn wsX0_mostAtOnce wsX0_helpedAt := goodIn_r _ [11, 1, 2, 12, 13, 14, 15, 16, 17, 18, 19] (by decide +kernel) (by decide +kernel)
set_option maxRecDepth 20000 in
theorem gX0_mostAtOnce_X0_helpedAt : GoodIn wsX0_mostAtOnce (wsV RX0 58 RX0 yX0_helpedAt wsX0_helpedAt) := goodIn_app (goodIn_of _ (by decide +kernel)) ggX0_mostAtOnce_X0_helpedAt
set_option maxRecDepth 20000 in
theorem ggX0_leastHelpers_X0_firstRule : GoodIn wsX0_leastHelpers wsX0_firstRule := goodIn_r _ [5, 6, 7, 8, 9, 10, 4, 11, 12, 13, 14, 15, 16, 17, 18, 19, 20, 21, 22, 23, 24, 25, 26, 27, 28, 29, 30, 31, 32, 33, 34, 35, 36, 37, 38, 39, 40, 41, 42, 43, 44, 45, 46, 47, 48, 49, 50, 51, 52, 53, 54, 55] (by decide +kernel) (by decide +kernel)
set_option maxRecDepth 20000 in
theorem gX0_leastHelpers_X0_firstRule : GoodIn wsX0_leastHelpers (wsV RX0 68 RX0 yX0_firstRule wsX0_firstRule) := goodIn_app (goodIn_of _ (by decide +kernel)) ggX0_leastHelpers_X0_firstRule
set_option maxRecDepth 20000 in
theorem ggX0_leastHelpers_X0_mostAtOnce : GoodIn wsX0_leastHelpers wsX0_mostAtOnce := goodIn_r _ [11, 7, 12, 13, 14, 15, 16, 17, 18, 19, 4, 20, 21, 49, 50, 51, 52, 53, 54, 55] (by decide +kernel) (by decide +kernel)
set_option maxRecDepth 20000 in
theorem gX0_leastHelpers_X0_mostAtOnce : GoodIn wsX0_leastHelpers (wsV RX0 71 RX0 yX0_mostAtOnce wsX0_mostAtOnce) := goodIn_app (goodIn_of _ (by decide +kernel)) ggX0_leastHelpers_X0_mostAtOnce
set_option maxRecDepth 20000 in
theorem ggX0_firstRule_X0_mostAtOnce : GoodIn wsX0_firstRule wsX0_mostAtOnce := goodIn_r _ [7, 2, 8, 9, 10, 11, 12, 13, 14, 15, 6, 16, 17, 45, 46, 47, 48, 49, 50, 51] (by decide +kernel) (by decide +kernel)
set_option maxRecDepth 20000 in
theorem gX0_firstRule_X0_mostAtOnce : GoodIn wsX0_firstRule (wsV RX0 71 RX0 yX0_mostAtOnce wsX0_mostAtOnce) := goodIn_app (goodIn_of _ (by decide +kernel)) ggX0_firstRule_X0_mostAtOnce
set_option maxRecDepth 20000 in
theorem ggX0_firstRule_X0_isPossible : GoodIn wsX0_firstRule wsX0_isPossible := goodIn_r _ [21, 2, 8, 22, 17, 23, 24, 25, 6, 26, 27, 28, 29, 30, 13, 14, 15, 16, 45, 46, 47, 48, 49, 50, 51] (by decide +kernel) (by decide +kernel)
set_option maxRecDepth 20000 in
theorem gX0_firstRule_X0_isPossible : GoodIn wsX0_firstRule (wsV RX0 74 RX0 yX0_isPossible wsX0_isPossible) := goodIn_app (goodIn_of _ (by decide +kernel)) ggX0_firstRule_X0_isPossible
set_option maxRecDepth 20000 in
theorem ggX0_firstRule_X0_isOrderedBy : GoodIn wsX0_firstRule wsX0_isOrderedBy := goodIn_r _ [34, 2, 35, 22, 17, 8, 36, 37, 38, 39, 40, 27, 28, 29, 6, 30, 41, 42, 43, 44, 45, 46, 47, 48, 49, 50, 51] (by decide +kernel) (by decide +kernel)
set_option maxRecDepth 20000 in
theorem gX0_firstRule_X0_isOrderedBy : GoodIn wsX0_firstRule (wsV RX0 78 RX0 yX0_isOrderedBy wsX0_isOrderedBy) := goodIn_app (goodIn_of _ (by decide +kernel)) ggX0_firstRule_X0_isOrderedBy
set_option maxRecDepth 20000 in
theorem ggX0_isPossible_X0_isIdleAt : GoodIn wsX0_isPossible wsX0_isIdleAt := goodIn_r _ [9, 1, 10, 11, 12, 8, 13, 3, 2, 14, 15, 16, 17, 4, 18, 19, 20, 21, 22, 23, 24] (by decide +kernel) (by decide +kernel)
set_option maxRecDepth 20000 in
theorem gX0_isPossible_X0_isIdleAt : GoodIn wsX0_isPossible (wsV RX0 81 RX0 yX0_isIdleAt wsX0_isIdleAt) := goodIn_app (goodIn_of _ (by decide +kernel)) ggX0_isPossible_X0_isIdleAt
set_option maxRecDepth 20000 in
theorem ggX0_isIdleAt_X0_isLeftAt : GoodIn wsX0_isIdleAt wsX0_isLeftAt := goodIn_r _ [6, 7, 8, 14, 15, 16, 17, 18, 19, 20] (by decide +kernel) (by decide +kernel)
set_option maxRecDepth 20000 in
theorem gX0_isIdleAt_X0_isLeftAt : GoodIn wsX0_isIdleAt (wsV RX0 85 RX0 yX0_isLeftAt wsX0_isLeftAt) := goodIn_app (goodIn_of _ (by decide +kernel)) ggX0_isIdleAt_X0_isLeftAt
set_option maxRecDepth 20000 in
theorem ggX0_isIdleAt_X0_helpedAt : GoodIn wsX0_isIdleAt wsX0_helpedAt := goodIn_r _ [12, 1, 8, 13, 14, 15, 16, 17, 18, 19, 20] (by decide +kernel) (by decide +kernel)
set_option maxRecDepth 20000 in
theorem gX0_isIdleAt_X0_helpedAt : GoodIn wsX0_isIdleAt (wsV RX0 58 RX0 yX0_helpedAt wsX0_helpedAt) := goodIn_app (goodIn_of _ (by decide +kernel)) ggX0_isIdleAt_X0_helpedAt
set_option maxRecDepth 20000 in
theorem ggX0_isOrderedBy_X4_rank : GoodIn wsX0_isOrderedBy wsX4_rank := goodIn_r _ [9, 10] (by decide +kernel) (by decide +kernel)
set_option maxRecDepth 20000 in
theorem gX0_isOrderedBy_X4_rank_n88 : GoodIn wsX0_isOrderedBy (wsX4_rank) := ggX0_isOrderedBy_X4_rank
set_option maxRecDepth 20000 in
theorem ggX0_isOrderedBy_X0_isLeftAt : GoodIn wsX0_isOrderedBy wsX0_isLeftAt := goodIn_r _ [15, 3, 5, 20, 21, 22, 23, 24, 25, 26] (by decide +kernel) (by decide +kernel)
set_option maxRecDepth 20000 in
theorem gX0_isOrderedBy_X0_isLeftAt : GoodIn wsX0_isOrderedBy (wsV RX0 85 RX0 yX0_isLeftAt wsX0_isLeftAt) := goodIn_app (goodIn_of _ (by decide +kernel)) ggX0_isOrderedBy_X0_isLeftAt
set_option maxRecDepth 20000 in
theorem ggX0_isOrderedBy_X0_isAhead : GoodIn wsX0_isOrderedBy wsX0_isAhead := goodIn_r _ [19, 2, 20, 21, 22, 23, 24, 25, 26] (by decide +kernel) (by decide +kernel)
set_option maxRecDepth 20000 in
theorem gX0_isOrderedBy_X0_isAhead : GoodIn wsX0_isOrderedBy (wsV RX0 92 RX0 yX0_isAhead wsX0_isAhead) := goodIn_app (goodIn_of _ (by decide +kernel)) ggX0_isOrderedBy_X0_isAhead
set_option maxRecDepth 20000 in
theorem ggX1_init_J7_fill_53178 : GoodIn wsX1_init wsJ7_fill_53178 := goodIn_r _ [19] (by decide +kernel) (by decide +kernel)
set_option maxRecDepth 20000 in
theorem gX1_init_J7_fill_53178 : GoodIn wsX1_init (va_wsS RX1 46 yJ7_fill_53178 wsJ7_fill_53178) := goodIn_app (goodIn_of _ (by decide +kernel)) ggX1_init_J7_fill_53178
set_option maxRecDepth 20000 in
theorem ggX1_addStep_X1_firstRow : GoodIn wsX1_addStep wsX1_firstRow := goodIn_r _ [9] (by decide +kernel) (by decide +kernel)
set_option maxRecDepth 20000 in
theorem gX1_addStep_X1_firstRow : GoodIn wsX1_addStep (wsV RX1 52 RX1 yX1_firstRow wsX1_firstRow) := goodIn_app (goodIn_of _ (by decide +kernel)) ggX1_addStep_X1_firstRow
set_option maxRecDepth 20000 in
theorem ggX1_lastRow_X1_firstRow : GoodIn wsX1_lastRow wsX1_firstRow := goodIn_r _ [6] (by decide +kernel) (by decide +kernel)
set_option maxRecDepth 20000 in
theorem gX1_lastRow_X1_firstRow : GoodIn wsX1_lastRow (wsV RX1 52 RX1 yX1_firstRow wsX1_firstRow) := goodIn_app (goodIn_of _ (by decide +kernel)) ggX1_lastRow_X1_firstRow
set_option maxRecDepth 20000 in
theorem ggX2_run_X2_open : GoodIn wsX2_run wsX2_open := goodIn_r _ [7, 2, 8, 9, 10, 11, 12, 13, 14, 15, 16, 17, 18, 19, 20, 67, 68, 69, 70, 71, 72, 73, 74, 75, 76, 77, 78, 79, 80, 81, 82, 83, 84, 85] (by decide +kernel) (by decide +kernel)
set_option maxRecDepth 20000 in
theorem gX2_run_X2_open : GoodIn wsX2_run (wsV RX2 36 RX2 yX2_open wsX2_open) := goodIn_app (goodIn_of _ (by decide +kernel)) ggX2_run_X2_open
set_option maxRecDepth 20000 in
theorem ggX2_run_X2_nextTick : GoodIn wsX2_run wsX2_nextTick := goodIn_r _ [24, 1, 11, 14, 25, 26, 27, 28, 67, 68, 69, 70, 71, 72, 73, 74, 75, 76, 77, 78, 79, 80, 81, 82, 83, 84, 85] (by decide +kernel) (by decide +kernel)
set_option maxRecDepth 20000 in
theorem gX2_run_X2_nextTick : GoodIn wsX2_run (wsV RX2 40 RX2 yX2_nextTick wsX2_nextTick) := goodIn_app (goodIn_of _ (by decide +kernel)) ggX2_run_X2_nextTick
set_option maxRecDepth 20000 in
theorem ggX2_run_X2_advance : GoodIn wsX2_run wsX2_advance := goodIn_r _ [32, 11, 14, 12, 33, 34, 35, 6, 36, 13, 37, 8, 1, 38, 39, 40, 41, 19, 42, 43, 44, 17, 18, 20, 45, 46, 47, 48, 49, 10, 67, 68, 69, 70, 71, 72, 73, 74, 75, 76, 77, 78, 79, 80, 81, 82, 83, 84, 85] (by decide +kernel) (by decide +kernel)
set_option maxRecDepth 20000 in
theorem gX2_run_X2_advance : GoodIn wsX2_run (wsV RX2 45 RX2 yX2_advance wsX2_advance) := goodIn_app (goodIn_of _ (by decide +kernel)) ggX2_run_X2_advance
set_option maxRecDepth 20000 in
theorem ggX2_run_X2_beginAt : GoodIn wsX2_run wsX2_beginAt := goodIn_r _ [53, 8, 10, 13, 54, 55, 56, 12, 14, 57, 58, 59, 6, 60, 11, 37, 61, 49, 62, 63, 64, 65, 66, 78, 79, 80, 81, 82, 83, 84, 85, 67, 68, 69, 70, 71, 72, 73, 74, 75, 76, 77] (by decide +kernel) (by decide +kernel)
set_option maxRecDepth 20000 in
theorem gX2_run_X2_beginAt : GoodIn wsX2_run (wsV RX2 54 RX2 yX2_beginAt wsX2_beginAt) := goodIn_app (goodIn_of _ (by decide +kernel)) ggX2_run_X2_beginAt
set_option maxRecDepth 20000 in
theorem ggX2_sumOfTimes_X1_lastRow : GoodIn wsX2_sumOfTimes wsX1_lastRow := goodIn_r _ [8, 9, 10, 11, 12, 7, 13, 14, 15, 16, 17, 18, 19, 20, 21, 22, 23, 24] (by decide +kernel) (by decide +kernel)
set_option maxRecDepth 20000 in
theorem gX2_sumOfTimes_X1_lastRow : GoodIn wsX2_sumOfTimes (wsV RX2 61 RX1 yX1_lastRow wsX1_lastRow) := goodIn_app (goodIn_of _ (by decide +kernel)) ggX2_sumOfTimes_X1_lastRow
set_option maxRecDepth 20000 in
theorem ggX2_end_X1_lastRow : GoodIn wsX2_end wsX1_lastRow := goodIn_r _ [11, 12, 13, 14, 15, 10, 16, 17, 18, 19, 20, 21, 22, 23, 24, 25, 26, 27] (by decide +kernel) (by decide +kernel)
set_option maxRecDepth 20000 in
theorem gX2_end_X1_lastRow : GoodIn wsX2_end (wsV RX2 61 RX1 yX1_lastRow wsX1_lastRow) := goodIn_app (goodIn_of _ (by decide +kernel)) ggX2_end_X1_lastRow
set_option maxRecDepth 20000 in
theorem ggX2_open_X1_firstRow : GoodIn wsX2_open wsX1_firstRow := goodIn_r _ [14] (by decide +kernel) (by decide +kernel)
set_option maxRecDepth 20000 in
theorem gX2_open_X1_firstRow : GoodIn wsX2_open (wsV RX2 77 RX1 yX1_firstRow wsX1_firstRow) := goodIn_app (goodIn_of _ (by decide +kernel)) ggX2_open_X1_firstRow
set_option maxRecDepth 20000 in
theorem ggX2_advance_X2_finish : GoodIn wsX2_advance wsX2_finish := goodIn_r _ [8, 9, 10, 11, 3, 2, 12, 13, 14, 15, 16, 17, 18, 19, 20, 21, 22, 23, 24, 25, 26, 7, 27, 28, 29, 41, 42, 43, 44, 45, 46, 47, 48, 30, 31, 32, 33, 34, 35, 36, 37, 38, 39, 40] (by decide +kernel) (by decide +kernel)
set_option maxRecDepth 20000 in
theorem gX2_advance_X2_finish : GoodIn wsX2_advance (wsV RX2 83 RX2 yX2_finish wsX2_finish) := goodIn_app (goodIn_of _ (by decide +kernel)) ggX2_advance_X2_finish
set_option maxRecDepth 20000 in
theorem ggX2_advance_X2_arrive : GoodIn wsX2_advance wsX2_arrive := goodIn_r _ [27, 9, 28, 3, 2, 12, 29, 10, 41, 42, 43, 44, 45, 46, 47, 48, 30, 31, 32, 33, 34, 35, 36, 37, 38, 39, 40] (by decide +kernel) (by decide +kernel)
set_option maxRecDepth 20000 in
theorem gX2_advance_X2_arrive : GoodIn wsX2_advance (wsV RX2 86 RX2 yX2_arrive wsX2_arrive) := goodIn_app (goodIn_of _ (by decide +kernel)) ggX2_advance_X2_arrive
set_option maxRecDepth 20000 in
theorem ggX2_finish_X1_lastRow : GoodIn wsX2_finish wsX1_lastRow := goodIn_r _ [12, 13, 14, 15, 16, 11, 17, 33, 34, 35, 36, 37, 38, 39, 40, 41, 42, 43] (by decide +kernel) (by decide +kernel)
set_option maxRecDepth 20000 in
theorem gX2_finish_X1_lastRow : GoodIn wsX2_finish (wsV RX2 61 RX1 yX1_lastRow wsX1_lastRow) := goodIn_app (goodIn_of _ (by decide +kernel)) ggX2_finish_X1_lastRow
set_option maxRecDepth 20000 in
theorem ggX2_finish_X2_arrive : GoodIn wsX2_finish wsX2_arrive := goodIn_r _ [22, 1, 23, 4, 5, 6, 24, 2, 25, 26, 27, 28, 29, 30, 31, 32, 33, 34, 35, 36, 37, 38, 39, 40, 41, 42, 43] (by decide +kernel) (by decide +kernel)
set_option maxRecDepth 20000 in
theorem gX2_finish_X2_arrive : GoodIn wsX2_finish (wsV RX2 86 RX2 yX2_arrive wsX2_arrive) := goodIn_app (goodIn_of _ (by decide +kernel)) ggX2_finish_X2_arrive
set_option maxRecDepth 20000 in
theorem ggX2_beginAt_X2_firstWaiting : GoodIn wsX2_beginAt wsX2_firstWaiting := goodIn_r _ [13, 14, 3, 7, 15, 16, 17, 6, 18, 19, 20, 21, 22, 31, 32, 33, 34, 35, 36, 37, 38, 39, 40, 41, 23, 24, 25, 26, 27, 28, 29, 30] (by decide +kernel) (by decide +kernel)
set_option maxRecDepth 20000 in
theorem gX2_beginAt_X2_firstWaiting : GoodIn wsX2_beginAt (wsV RX2 95 RX2 yX2_firstWaiting wsX2_firstWaiting) := goodIn_app (goodIn_of _ (by decide +kernel)) ggX2_beginAt_X2_firstWaiting
set_option maxRecDepth 20000 in
theorem ggX2_firstWaiting_X4_rank : GoodIn wsX2_firstWaiting wsX4_rank := goodIn_r _ [11, 12] (by decide +kernel) (by decide +kernel)
set_option maxRecDepth 20000 in
theorem gX2_firstWaiting_X4_rank_n108 : GoodIn wsX2_firstWaiting (wsX4_rank) := ggX2_firstWaiting_X4_rank
set_option maxRecDepth 20000 in
theorem ggX3_size_X1_rowsEnd : GoodIn wsX3_size wsX1_rowsEnd := goodIn_r _ [6, 7, 11, 12, 13, 14, 15, 16, 17, 18, 19, 20, 21] (by decide +kernel) (by decide +kernel)
set_option maxRecDepth 20000 in
theorem gX3_size_X1_rowsEnd : GoodIn wsX3_size (wsV RX3 22 RX1 yX1_rowsEnd wsX1_rowsEnd) := goodIn_app (goodIn_of _ (by decide +kernel)) ggX3_size_X1_rowsEnd
