set_option maxRecDepth 20000 in
theorem ggX4_init_X1_init : GoodIn wsX4_init wsX1_init := goodIn_r _ [24, 25, 2, 3, 26, 27, 28, 29, 30, 31, 32, 33, 34, 35, 36, 37, 38, 39, 40, 41, 74, 75, 76, 77, 78, 79, 80, 81, 82, 83, 84] (by decide +kernel) (by decide +kernel)
set_option maxRecDepth 20000 in
theorem gX4_init_X1_init : GoodIn wsX4_init (wsX1_init) := ggX4_init_X1_init
set_option maxRecDepth 20000 in
theorem ggX4_init_X3_init : GoodIn wsX4_init wsX3_init := goodIn_r _ [44, 45, 2, 3, 46, 47, 29, 48, 49, 91, 92, 93] (by decide +kernel) (by decide +kernel)
set_option maxRecDepth 20000 in
theorem gX4_init_X3_init : GoodIn wsX4_init (wsX3_init) := ggX4_init_X3_init
set_option maxRecDepth 20000 in
theorem ggX4_init_X0_init : GoodIn wsX4_init wsX0_init := goodIn_r _ [52, 53, 2, 3, 54, 55, 29, 56, 57, 58, 59, 60, 61, 94, 95, 96, 97, 98, 99, 100] (by decide +kernel) (by decide +kernel)
set_option maxRecDepth 20000 in
theorem gX4_init_X0_init : GoodIn wsX4_init (wsX0_init) := ggX4_init_X0_init
set_option maxRecDepth 20000 in
theorem ggX4_init_X2_init : GoodIn wsX4_init wsX2_init := goodIn_r _ [64, 65, 2, 3, 29, 66, 67, 68, 69, 70, 71, 72, 73, 101, 102, 103, 104, 105, 106, 107, 108] (by decide +kernel) (by decide +kernel)
set_option maxRecDepth 20000 in
theorem gX4_init_X2_init : GoodIn wsX4_init (wsX2_init) := ggX4_init_X2_init
set_option maxRecDepth 20000 in
theorem ggX4_place_X4_needPlaceNumbers : GoodIn wsX4_place wsX4_needPlaceNumbers := goodIn_ca (goodIn_r _ [9, 10, 11, 8, 12, 13, 14] (by decide +kernel) (by decide +kernel)) (goodIn_sub (fun _ h => List.mem_cons_of_mem _ (List.mem_append_right _ h)) (by decide +kernel))
set_option maxRecDepth 20000 in
theorem gX4_place_X4_needPlaceNumbers : GoodIn wsX4_place (va_wsS RX4 44 yX4_needPlaceNumbers wsX4_needPlaceNumbers) := goodIn_app (goodIn_of _ (by decide +kernel)) ggX4_place_X4_needPlaceNumbers
set_option maxRecDepth 20000 in
theorem ggX4_place_X1_setPlace : GoodIn wsX4_place wsX1_setPlace := goodIn_r _ [19, 20, 21, 22, 29, 30, 31, 32, 33, 34, 35, 36, 37, 38, 39] (by decide +kernel) (by decide +kernel)
set_option maxRecDepth 20000 in
theorem gX4_place_X1_setPlace : GoodIn wsX4_place (wsV RX4 59 RX1 yX1_setPlace wsX1_setPlace) := goodIn_app (goodIn_of _ (by decide +kernel)) ggX4_place_X1_setPlace
set_option maxRecDepth 20000 in
theorem ggX4_change_X4_needPlace : GoodIn wsX4_change wsX4_needPlace := goodIn_ca (goodIn_r _ [7, 8, 9, 1, 10, 27, 28, 29, 30, 31, 32, 33, 34, 35, 36, 37, 38, 39, 40, 41, 42, 43] (by decide +kernel) (by decide +kernel)) (goodIn_sub (fun _ h => List.mem_cons_of_mem _ (List.mem_append_left _ (List.mem_append_right _ h))) (by decide +kernel))
set_option maxRecDepth 20000 in
theorem gX4_change_X4_needPlace : GoodIn wsX4_change (wsV RX4 63 RX4 yX4_needPlace wsX4_needPlace) := goodIn_app (goodIn_of _ (by decide +kernel)) ggX4_change_X4_needPlace
set_option maxRecDepth 20000 in
theorem ggX4_change_X4_needPlaceNumbers : GoodIn wsX4_change wsX4_needPlaceNumbers := goodIn_ca (goodIn_r _ [13, 14, 15, 6, 16, 17, 18] (by decide +kernel) (by decide +kernel)) (goodIn_sub (fun _ h => List.mem_cons_of_mem _ (List.mem_append_right _ h)) (by decide +kernel))
set_option maxRecDepth 20000 in
theorem gX4_change_X4_needPlaceNumbers : GoodIn wsX4_change (va_wsS RX4 44 yX4_needPlaceNumbers wsX4_needPlaceNumbers) := goodIn_app (goodIn_of _ (by decide +kernel)) ggX4_change_X4_needPlaceNumbers
set_option maxRecDepth 20000 in
theorem ggX4_change_X1_setPlace : GoodIn wsX4_change wsX1_setPlace := goodIn_r _ [23, 24, 25, 26, 33, 34, 35, 36, 37, 38, 39, 40, 41, 42, 43] (by decide +kernel) (by decide +kernel)
set_option maxRecDepth 20000 in
theorem gX4_change_X1_setPlace : GoodIn wsX4_change (wsV RX4 59 RX1 yX1_setPlace wsX1_setPlace) := goodIn_app (goodIn_of _ (by decide +kernel)) ggX4_change_X1_setPlace
set_option maxRecDepth 20000 in
theorem ggX4_ask_X4_needPlace : GoodIn wsX4_ask wsX4_needPlace := goodIn_ca (goodIn_r _ [13, 14, 15, 4, 16, 35, 36, 37, 38, 39, 40, 41, 42, 43, 44, 45, 46, 47, 48, 49, 50, 51] (by decide +kernel) (by decide +kernel)) (goodIn_sub (fun _ h => List.mem_cons_of_mem _ (List.mem_append_left _ (List.mem_append_right _ h))) (by decide +kernel))
set_option maxRecDepth 20000 in
theorem gX4_ask_X4_needPlace : GoodIn wsX4_ask (wsV RX4 63 RX4 yX4_needPlace wsX4_needPlace) := goodIn_app (goodIn_of _ (by decide +kernel)) ggX4_ask_X4_needPlace
set_option maxRecDepth 20000 in
theorem ggX4_ask_X4_needWithin : GoodIn wsX4_ask wsX4_needWithin := goodIn_ca (goodIn_r _ [19, 20, 21] (by decide +kernel) (by decide +kernel)) (goodIn_sub (fun _ h => List.mem_cons_of_mem _ (List.mem_append_right _ h)) (by decide +kernel))
set_option maxRecDepth 20000 in
theorem gX4_ask_X4_needWithin : GoodIn wsX4_ask (va_wsS RX4 67 yX4_needWithin wsX4_needWithin) := goodIn_app (goodIn_of _ (by decide +kernel)) ggX4_ask_X4_needWithin
set_option maxRecDepth 20000 in
theorem ggX4_ask_X1_addStep : GoodIn wsX4_ask wsX1_addStep := goodIn_r _ [26, 27, 28, 29, 30, 31, 32, 33, 25, 34, 41, 42, 43, 44, 45, 46, 47, 48, 49, 50, 51] (by decide +kernel) (by decide +kernel)
set_option maxRecDepth 20000 in
theorem gX4_ask_X1_addStep : GoodIn wsX4_ask (wsV RX4 83 RX1 yX1_addStep wsX1_addStep) := goodIn_app (goodIn_of _ (by decide +kernel)) ggX4_ask_X1_addStep
set_option maxRecDepth 20000 in
theorem ggX4_step_X4_needAsk : GoodIn wsX4_step wsX4_needAsk := goodIn_ca (goodIn_r _ [8, 9, 10, 1, 11, 35, 36, 37, 38, 39, 40, 41, 42, 43, 44, 45, 46, 47, 48, 49, 50, 51] (by decide +kernel) (by decide +kernel)) (goodIn_sub (fun _ h => List.mem_cons_of_mem _ (List.mem_append_left _ (List.mem_append_right _ h))) (by decide +kernel))
set_option maxRecDepth 20000 in
theorem gX4_step_X4_needAsk : GoodIn wsX4_step (wsV RX4 87 RX4 yX4_needAsk wsX4_needAsk) := goodIn_app (goodIn_of _ (by decide +kernel)) ggX4_step_X4_needAsk
set_option maxRecDepth 20000 in
theorem ggX4_step_X4_needPlace : GoodIn wsX4_step wsX4_needPlace := goodIn_ca (goodIn_r _ [15, 9, 10, 1, 16, 35, 36, 37, 38, 39, 40, 41, 42, 43, 44, 45, 46, 47, 48, 49, 50, 51] (by decide +kernel) (by decide +kernel)) (goodIn_sub (fun _ h => List.mem_cons_of_mem _ (List.mem_append_left _ (List.mem_append_right _ h))) (by decide +kernel))
set_option maxRecDepth 20000 in
theorem gX4_step_X4_needPlace : GoodIn wsX4_step (wsV RX4 63 RX4 yX4_needPlace wsX4_needPlace) := goodIn_app (goodIn_of _ (by decide +kernel)) ggX4_step_X4_needPlace
set_option maxRecDepth 20000 in
theorem ggX4_step_X4_needWithin : GoodIn wsX4_step wsX4_needWithin := goodIn_ca (goodIn_r _ [19, 20, 21] (by decide +kernel) (by decide +kernel)) (goodIn_sub (fun _ h => List.mem_cons_of_mem _ (List.mem_append_right _ h)) (by decide +kernel))
set_option maxRecDepth 20000 in
theorem gX4_step_X4_needWithin : GoodIn wsX4_step (va_wsS RX4 67 yX4_needWithin wsX4_needWithin) := goodIn_app (goodIn_of _ (by decide +kernel)) ggX4_step_X4_needWithin
set_option maxRecDepth 20000 in
theorem ggX4_step_X1_addStep : GoodIn wsX4_step wsX1_addStep := goodIn_r _ [26, 27, 28, 29, 30, 31, 32, 33, 25, 34, 41, 42, 43, 44, 45, 46, 47, 48, 49, 50, 51] (by decide +kernel) (by decide +kernel)
set_option maxRecDepth 20000 in
theorem gX4_step_X1_addStep : GoodIn wsX4_step (wsV RX4 83 RX1 yX1_addStep wsX1_addStep) := goodIn_app (goodIn_of _ (by decide +kernel)) ggX4_step_X1_addStep
set_option maxRecDepth 20000 in
theorem ggX4_seen_X4_needStep : GoodIn wsX4_seen wsX4_needStep := goodIn_ca (goodIn_r _ [9, 10, 11, 12, 13, 14, 15, 16, 8, 17, 18, 19, 20, 21, 22, 23, 35, 36, 37, 38, 39, 40, 41, 42, 43, 44, 45, 46, 47, 48, 49, 50, 51] (by decide +kernel) (by decide +kernel)) (goodIn_sub (fun _ h => List.mem_cons_of_mem _ (List.mem_append_right _ h)) (by decide +kernel))
set_option maxRecDepth 20000 in
theorem gX4_seen_X4_needStep : GoodIn wsX4_seen (wsV RX4 93 RX4 yX4_needStep wsX4_needStep) := goodIn_app (goodIn_of _ (by decide +kernel)) ggX4_seen_X4_needStep
set_option maxRecDepth 20000 in
theorem ggX4_seen_X4_needWithin : GoodIn wsX4_seen wsX4_needWithin := goodIn_ca (goodIn_r _ [26, 1, 2] (by decide +kernel) (by decide +kernel)) (goodIn_sub (fun _ h => List.mem_cons_of_mem _ (List.mem_append_left _ (List.mem_append_right _ h))) (by decide +kernel))
set_option maxRecDepth 20000 in
theorem gX4_seen_X4_needWithin : GoodIn wsX4_seen (va_wsS RX4 67 yX4_needWithin wsX4_needWithin) := goodIn_app (goodIn_of _ (by decide +kernel)) ggX4_seen_X4_needWithin
set_option maxRecDepth 20000 in
theorem ggX4_seen_X3_tell : GoodIn wsX4_seen wsX3_tell := goodIn_r _ [31, 32, 33, 34, 52, 53, 54] (by decide +kernel) (by decide +kernel)
set_option maxRecDepth 20000 in
theorem gX4_seen_X3_tell : GoodIn wsX4_seen (wsV RX4 103 RX3 yX3_tell wsX3_tell) := goodIn_app (goodIn_of _ (by decide +kernel)) ggX4_seen_X3_tell
set_option maxRecDepth 20000 in
theorem ggX4_unsee_X4_needStep : GoodIn wsX4_unsee wsX4_needStep := goodIn_ca (goodIn_r _ [7, 8, 9, 10, 11, 12, 13, 14, 6, 15, 16, 17, 18, 19, 20, 21, 22, 23, 24, 25, 26, 27, 31, 32, 33, 34, 35, 36, 37, 38, 39, 40, 41] (by decide +kernel) (by decide +kernel)) (goodIn_sub (fun _ h => List.mem_cons_of_mem _ (List.mem_append_right _ h)) (by decide +kernel))
set_option maxRecDepth 20000 in
theorem gX4_unsee_X4_needStep : GoodIn wsX4_unsee (wsV RX4 93 RX4 yX4_needStep wsX4_needStep) := goodIn_app (goodIn_of _ (by decide +kernel)) ggX4_unsee_X4_needStep
set_option maxRecDepth 20000 in
theorem ggX4_played_X4_needStep : GoodIn wsX4_played wsX4_needStep := goodIn_ca (goodIn_r _ [9, 10, 11, 12, 13, 14, 15, 16, 8, 17, 18, 19, 20, 21, 22, 23, 99, 100, 101, 102, 103, 104, 113, 114, 115, 116, 117, 118, 119, 120, 121, 122, 123] (by decide +kernel) (by decide +kernel)) (goodIn_sub (fun _ h => List.mem_cons_of_mem _ (List.mem_append_left _ (List.mem_append_right _ h))) (by decide +kernel))
set_option maxRecDepth 20000 in
theorem gX4_played_X4_needStep : GoodIn wsX4_played (wsV RX4 93 RX4 yX4_needStep wsX4_needStep) := goodIn_app (goodIn_of _ (by decide +kernel)) ggX4_played_X4_needStep
set_option maxRecDepth 20000 in
theorem ggX4_played_X4_needWhat : GoodIn wsX4_played wsX4_needWhat := goodIn_ca (goodIn_r _ [26, 27, 28] (by decide +kernel) (by decide +kernel)) (goodIn_sub (fun _ h => List.mem_cons_of_mem _ (List.mem_append_right _ h)) (by decide +kernel))
set_option maxRecDepth 20000 in
theorem gX4_played_X4_needWhat : GoodIn wsX4_played (va_wsS RX4 110 yX4_needWhat wsX4_needWhat) := goodIn_app (goodIn_of _ (by decide +kernel)) ggX4_played_X4_needWhat
set_option maxRecDepth 20000 in
theorem ggX4_played_X4_refreshPlay : GoodIn wsX4_played wsX4_refreshPlay := goodIn_r _ [32, 33, 1, 12, 34, 35, 36, 37, 38, 39, 40, 41, 42, 43, 44, 45, 46, 47, 48, 49, 50, 51, 52, 53, 20, 21, 22, 23, 54, 55, 56, 57, 58, 59, 60, 61, 62, 63, 64, 65, 66, 67, 68, 69, 70, 71, 72, 73, 74, 75, 76, 77, 78, 79, 80, 81, 82, 83, 84, 85, 86, 87, 88, 89, 90, 91, 92, 93, 94, 95, 96, 8, 97, 98, 99, 100, 101, 102, 103, 104, 113, 114, 115, 116, 117, 118, 119, 120, 121, 122, 123, 105, 106, 107, 108, 109, 110, 111, 112] (by decide +kernel) (by decide +kernel)
set_option maxRecDepth 20000 in
theorem gX4_played_X4_refreshPlay : GoodIn wsX4_played (wsV RX4 114 RX4 yX4_refreshPlay wsX4_refreshPlay) := goodIn_app (goodIn_of _ (by decide +kernel)) ggX4_played_X4_refreshPlay
set_option maxRecDepth 20000 in
theorem ggX4_trace_X4_refreshPlay : GoodIn wsX4_trace wsX4_refreshPlay := goodIn_r _ [11, 12, 3, 1, 13, 14, 15, 16, 17, 18, 19, 20, 21, 22, 23, 24, 25, 26, 27, 28, 29, 30, 31, 32, 33, 34, 35, 36, 37, 38, 39, 40, 41, 42, 43, 44, 45, 46, 47, 48, 49, 50, 51, 52, 53, 54, 55, 56, 57, 58, 59, 60, 61, 62, 63, 64, 65, 66, 67, 68, 69, 70, 71, 72, 73, 74, 75, 76, 77, 78, 79, 10, 80, 81, 100, 101, 102, 103, 104, 105, 114, 115, 116, 117, 118, 119, 120, 121, 122, 123, 124, 106, 107, 108, 109, 110, 111, 112, 113] (by decide +kernel) (by decide +kernel)
set_option maxRecDepth 20000 in
theorem gX4_trace_X4_refreshPlay : GoodIn wsX4_trace (wsV RX4 114 RX4 yX4_refreshPlay wsX4_refreshPlay) := goodIn_app (goodIn_of _ (by decide +kernel)) ggX4_trace_X4_refreshPlay
set_option maxRecDepth 20000 in
theorem ggX4_trace_X1_rowsEnd : GoodIn wsX4_trace wsX1_rowsEnd := goodIn_r _ [85, 86, 114, 115, 116, 117, 118, 119, 120, 121, 122, 123, 124] (by decide +kernel) (by decide +kernel)
set_option maxRecDepth 20000 in
theorem gX4_trace_X1_rowsEnd : GoodIn wsX4_trace (wsV RX4 126 RX1 yX1_rowsEnd wsX1_rowsEnd) := goodIn_app (goodIn_of _ (by decide +kernel)) ggX4_trace_X1_rowsEnd
set_option maxRecDepth 20000 in
theorem ggX4_trace_X1_isStep : GoodIn wsX4_trace wsX1_isStep := goodIn_r _ [90, 91, 114, 115, 116, 117, 118, 119, 120, 121, 122, 123, 124] (by decide +kernel) (by decide +kernel)
set_option maxRecDepth 20000 in
theorem gX4_trace_X1_isStep : GoodIn wsX4_trace (wsV RX4 130 RX1 yX1_isStep wsX1_isStep) := goodIn_app (goodIn_of _ (by decide +kernel)) ggX4_trace_X1_isStep
set_option maxRecDepth 20000 in
theorem ggX4_trace_X3_tell : GoodIn wsX4_trace wsX3_tell := goodIn_r _ [96, 97, 98, 99, 125, 126, 127] (by decide +kernel) (by decide +kernel)
set_option maxRecDepth 20000 in
theorem gX4_trace_X3_tell : GoodIn wsX4_trace (wsV RX4 103 RX3 yX3_tell wsX3_tell) := goodIn_app (goodIn_of _ (by decide +kernel)) ggX4_trace_X3_tell
set_option maxRecDepth 20000 in
theorem ggX4_unlike_X4_refreshPlay : GoodIn wsX4_unlike wsX4_refreshPlay := goodIn_r _ [13, 14, 5, 1, 15, 16, 17, 18, 19, 20, 21, 22, 23, 24, 25, 26, 27, 28, 29, 30, 31, 32, 33, 34, 35, 36, 37, 38, 39, 40, 41, 42, 43, 44, 45, 46, 47, 48, 49, 50, 51, 52, 53, 54, 55, 56, 57, 58, 59, 60, 61, 62, 63, 64, 65, 66, 67, 68, 69, 70, 71, 72, 73, 74, 75, 76, 77, 78, 79, 80, 81, 12, 82, 83, 89, 90, 91, 92, 93, 94, 106, 107, 108, 109, 110, 111, 112, 113, 114, 115, 116, 98, 99, 100, 101, 102, 103, 104, 105] (by decide +kernel) (by decide +kernel)
set_option maxRecDepth 20000 in
theorem gX4_unlike_X4_refreshPlay : GoodIn wsX4_unlike (wsV RX4 114 RX4 yX4_refreshPlay wsX4_refreshPlay) := goodIn_app (goodIn_of _ (by decide +kernel)) ggX4_unlike_X4_refreshPlay
set_option maxRecDepth 20000 in
theorem ggX4_unlike_X1_rowsEnd : GoodIn wsX4_unlike wsX1_rowsEnd := goodIn_r _ [87, 88, 106, 107, 108, 109, 110, 111, 112, 113, 114, 115, 116] (by decide +kernel) (by decide +kernel)
set_option maxRecDepth 20000 in
theorem gX4_unlike_X1_rowsEnd : GoodIn wsX4_unlike (wsV RX4 126 RX1 yX1_rowsEnd wsX1_rowsEnd) := goodIn_app (goodIn_of _ (by decide +kernel)) ggX4_unlike_X1_rowsEnd
set_option maxRecDepth 20000 in
theorem ggX4_found_X4_needPlace : GoodIn wsX4_found wsX4_needPlace := goodIn_ca (goodIn_r _ [8, 9, 10, 2, 11, 89, 90, 91, 92, 93, 94, 95, 96, 97, 98, 99, 100, 101, 102, 103, 104, 105] (by decide +kernel) (by decide +kernel)) (goodIn_sub (fun _ h => List.mem_cons_of_mem _ (List.mem_append_right _ h)) (by decide +kernel))
set_option maxRecDepth 20000 in
theorem gX4_found_X4_needPlace : GoodIn wsX4_found (wsV RX4 63 RX4 yX4_needPlace wsX4_needPlace) := goodIn_app (goodIn_of _ (by decide +kernel)) ggX4_found_X4_needPlace
set_option maxRecDepth 20000 in
theorem ggX4_found_X0_gather : GoodIn wsX4_found wsX0_gather := goodIn_r _ [16, 17, 18, 19, 20, 21, 22, 23, 24, 25, 26, 27, 28, 29, 30, 31, 32, 33, 34, 35, 36, 37, 38, 39, 40, 41, 42, 43, 106, 107, 108, 109, 110, 111, 112, 95, 96, 97, 98, 99, 100, 101, 102, 103, 104, 105, 113, 114, 115] (by decide +kernel) (by decide +kernel)
set_option maxRecDepth 20000 in
theorem gX4_found_X0_gather : GoodIn wsX4_found (wsV RX4 139 RX0 yX0_gather wsX0_gather) := goodIn_app (goodIn_of _ (by decide +kernel)) ggX4_found_X0_gather
set_option maxRecDepth 20000 in
theorem ggX4_found_X0_firstRule : GoodIn wsX4_found wsX0_firstRule := goodIn_r _ [47, 18, 17, 48, 49, 50, 15, 51, 22, 52, 53, 54, 55, 56, 57, 58, 59, 24, 60, 61, 62, 63, 21, 64, 65, 66, 67, 68, 69, 70, 71, 72, 73, 74, 75, 76, 26, 77, 7, 78, 79, 80, 81, 82, 83, 106, 107, 108, 109, 110, 111, 112] (by decide +kernel) (by decide +kernel)
set_option maxRecDepth 20000 in
theorem gX4_found_X0_firstRule : GoodIn wsX4_found (wsV RX4 143 RX0 yX0_firstRule wsX0_firstRule) := goodIn_app (goodIn_of _ (by decide +kernel)) ggX4_found_X0_firstRule
set_option maxRecDepth 20000 in
theorem ggX4_found_X0_leastHelpers : GoodIn wsX4_found wsX0_leastHelpers := goodIn_r _ [87, 88, 45, 46, 15, 47, 18, 17, 48, 49, 50, 51, 22, 52, 53, 54, 55, 56, 57, 58, 59, 24, 60, 61, 62, 63, 21, 64, 65, 66, 67, 68, 69, 70, 71, 72, 73, 74, 75, 76, 26, 77, 7, 78, 79, 80, 81, 82, 83, 106, 107, 108, 109, 110, 111, 112] (by decide +kernel) (by decide +kernel)
set_option maxRecDepth 20000 in
theorem gX4_found_X0_leastHelpers : GoodIn wsX4_found (wsV RX4 146 RX0 yX0_leastHelpers wsX0_leastHelpers) := goodIn_app (goodIn_of _ (by decide +kernel)) ggX4_found_X0_leastHelpers
set_option maxRecDepth 20000 in
theorem ggX4_overlap_X4_needPlace : GoodIn wsX4_overlap wsX4_needPlace := goodIn_ca (goodIn_r _ [8, 9, 10, 2, 11, 56, 57, 58, 59, 60, 61, 62, 63, 64, 65, 66, 67, 68, 69, 70, 71, 72] (by decide +kernel) (by decide +kernel)) (goodIn_sub (fun _ h => List.mem_cons_of_mem _ (List.mem_append_right _ h)) (by decide +kernel))
set_option maxRecDepth 20000 in
theorem gX4_overlap_X4_needPlace : GoodIn wsX4_overlap (wsV RX4 63 RX4 yX4_needPlace wsX4_needPlace) := goodIn_app (goodIn_of _ (by decide +kernel)) ggX4_overlap_X4_needPlace
set_option maxRecDepth 20000 in
theorem ggX4_overlap_X0_gather : GoodIn wsX4_overlap wsX0_gather := goodIn_r _ [16, 17, 18, 19, 20, 21, 22, 23, 24, 25, 26, 27, 28, 29, 30, 31, 32, 33, 34, 35, 36, 37, 38, 39, 40, 41, 42, 43, 73, 74, 75, 76, 77, 78, 79, 62, 63, 64, 65, 66, 67, 68, 69, 70, 71, 72, 80, 81, 82] (by decide +kernel) (by decide +kernel)
set_option maxRecDepth 20000 in
theorem gX4_overlap_X0_gather : GoodIn wsX4_overlap (wsV RX4 139 RX0 yX0_gather wsX0_gather) := goodIn_app (goodIn_of _ (by decide +kernel)) ggX4_overlap_X0_gather
set_option maxRecDepth 20000 in
theorem ggX4_overlap_X0_mostAtOnce : GoodIn wsX4_overlap wsX0_mostAtOnce := goodIn_r _ [47, 17, 22, 48, 49, 50, 51, 52, 53, 54, 15, 55, 24, 73, 74, 75, 76, 77, 78, 79] (by decide +kernel) (by decide +kernel)
set_option maxRecDepth 20000 in
theorem gX4_overlap_X0_mostAtOnce : GoodIn wsX4_overlap (wsV RX4 149 RX0 yX0_mostAtOnce wsX0_mostAtOnce) := goodIn_app (goodIn_of _ (by decide +kernel)) ggX4_overlap_X0_mostAtOnce
set_option maxRecDepth 20000 in
theorem ggX4_counts_X4_needPlace : GoodIn wsX4_counts wsX4_needPlace := goodIn_ca (goodIn_r _ [6, 7, 8, 9, 10, 136, 137, 138, 139, 140, 141, 142, 143, 144, 145, 146, 147, 148, 149, 150, 151, 152] (by decide +kernel) (by decide +kernel)) (goodIn_sub (fun _ h => List.mem_cons_of_mem _ (List.mem_append_left _ (List.mem_append_left _ (List.mem_append_right _ h)))) (by decide +kernel))
set_option maxRecDepth 20000 in
theorem gX4_counts_X4_needPlace : GoodIn wsX4_counts (wsV RX4 63 RX4 yX4_needPlace wsX4_needPlace) := goodIn_app (goodIn_of _ (by decide +kernel)) ggX4_counts_X4_needPlace
set_option maxRecDepth 20000 in
theorem ggX4_counts_X4_needWithin : GoodIn wsX4_counts wsX4_needWithin := goodIn_ca (goodIn_r _ [13, 14, 15] (by decide +kernel) (by decide +kernel)) (goodIn_sub (fun _ h => List.mem_cons_of_mem _ (List.mem_append_left _ (List.mem_append_right _ h))) (by decide +kernel))
set_option maxRecDepth 20000 in
theorem gX4_counts_X4_needWithin : GoodIn wsX4_counts (va_wsS RX4 67 yX4_needWithin wsX4_needWithin) := goodIn_app (goodIn_of _ (by decide +kernel)) ggX4_counts_X4_needWithin
set_option maxRecDepth 20000 in
theorem ggX4_counts_X4_needWhat : GoodIn wsX4_counts wsX4_needWhat := goodIn_ca (goodIn_r _ [18, 19, 20] (by decide +kernel) (by decide +kernel)) (goodIn_sub (fun _ h => List.mem_cons_of_mem _ (List.mem_append_right _ h)) (by decide +kernel))
set_option maxRecDepth 20000 in
theorem gX4_counts_X4_needWhat : GoodIn wsX4_counts (va_wsS RX4 110 yX4_needWhat wsX4_needWhat) := goodIn_app (goodIn_of _ (by decide +kernel)) ggX4_counts_X4_needWhat
set_option maxRecDepth 20000 in
theorem ggX4_counts_X4_countsByTracks : GoodIn wsX4_counts wsX4_countsByTracks := goodIn_r _ [24, 9, 25, 26, 27, 28, 29, 30, 31, 32, 33, 34, 35, 36, 37, 38, 39, 40, 41, 42, 43, 44, 45, 46, 5, 47, 48, 49, 50, 51, 52, 53, 54, 55, 56, 57, 136, 137, 138, 139, 140, 141, 142, 143, 144, 145, 146, 147, 148, 149, 150, 151, 152, 153, 154, 155] (by decide +kernel) (by decide +kernel)
set_option maxRecDepth 20000 in
theorem gX4_counts_X4_countsByTracks : GoodIn wsX4_counts (wsV RX4 152 RX4 yX4_countsByTracks wsX4_countsByTracks) := goodIn_app (goodIn_of _ (by decide +kernel)) ggX4_counts_X4_countsByTracks
set_option maxRecDepth 20000 in
theorem ggX4_counts_X4_countsByPlay : GoodIn wsX4_counts wsX4_countsByPlay := goodIn_r _ [61, 9, 25, 62, 63, 64, 65, 66, 67, 68, 5, 69, 70, 71, 72, 73, 74, 75, 76, 77, 78, 79, 80, 81, 82, 83, 84, 85, 86, 87, 88, 89, 90, 91, 92, 32, 93, 94, 95, 96, 97, 98, 52, 53, 54, 99, 100, 101, 102, 103, 104, 105, 106, 107, 108, 109, 110, 111, 112, 113, 114, 115, 116, 117, 118, 119, 120, 121, 122, 123, 124, 125, 126, 127, 128, 129, 130, 131, 132, 133, 134, 135, 29, 30, 31, 33, 34, 45, 46, 47, 48, 49, 50, 51, 55, 56, 57, 136, 137, 138, 139, 140, 141, 142, 143, 144, 145, 146, 147, 148, 149, 150, 151, 152, 156, 157, 158, 159, 160, 161, 162, 163] (by decide +kernel) (by decide +kernel)
set_option maxRecDepth 20000 in
theorem gX4_counts_X4_countsByPlay : GoodIn wsX4_counts (wsV RX4 156 RX4 yX4_countsByPlay wsX4_countsByPlay) := goodIn_app (goodIn_of _ (by decide +kernel)) ggX4_counts_X4_countsByPlay
set_option maxRecDepth 20000 in
theorem ggX4_total_X4_refreshPlay : GoodIn wsX4_total wsX4_refreshPlay := goodIn_r _ [7, 8, 1, 2, 9, 10, 11, 12, 13, 14, 15, 16, 17, 18, 19, 20, 21, 22, 23, 24, 25, 26, 27, 28, 29, 30, 31, 32, 33, 34, 35, 36, 37, 38, 39, 40, 41, 42, 43, 44, 45, 46, 47, 48, 49, 50, 51, 52, 53, 54, 55, 56, 57, 58, 59, 60, 61, 62, 63, 64, 65, 66, 67, 68, 69, 70, 71, 72, 73, 74, 75, 6, 76, 77, 82, 83, 84, 85, 86, 87, 88, 89, 90, 91, 92, 93, 94, 95, 96, 97, 98, 99, 100, 101, 102, 103, 104, 105, 106] (by decide +kernel) (by decide +kernel)
set_option maxRecDepth 20000 in
theorem gX4_total_X4_refreshPlay : GoodIn wsX4_total (wsV RX4 114 RX4 yX4_refreshPlay wsX4_refreshPlay) := goodIn_app (goodIn_of _ (by decide +kernel)) ggX4_total_X4_refreshPlay
set_option maxRecDepth 20000 in
theorem ggX4_total_X2_sumOfTimes : GoodIn wsX4_total wsX2_sumOfTimes := goodIn_r _ [81, 23, 67, 27, 51, 52, 53, 31, 54, 55, 56, 29, 30, 32, 88, 89, 90, 91, 92, 93, 94, 95, 96, 97, 98, 99, 100, 101, 102, 103, 104, 105, 106] (by decide +kernel) (by decide +kernel)
set_option maxRecDepth 20000 in
theorem gX4_total_X2_sumOfTimes : GoodIn wsX4_total (wsV RX4 159 RX2 yX2_sumOfTimes wsX2_sumOfTimes) := goodIn_app (goodIn_of _ (by decide +kernel)) ggX4_total_X2_sumOfTimes
set_option maxRecDepth 20000 in
theorem ggX4_saved_X4_needPlace : GoodIn wsX4_saved wsX4_needPlace := goodIn_ca (goodIn_r _ [5, 6, 7, 8, 9, 94, 95, 96, 97, 98, 99, 100, 101, 102, 103, 104, 105, 106, 107, 108, 109, 110] (by decide +kernel) (by decide +kernel)) (goodIn_sub (fun _ h => List.mem_cons_of_mem _ (List.mem_append_right _ h)) (by decide +kernel))
set_option maxRecDepth 20000 in
theorem gX4_saved_X4_needPlace : GoodIn wsX4_saved (wsV RX4 63 RX4 yX4_needPlace wsX4_needPlace) := goodIn_app (goodIn_of _ (by decide +kernel)) ggX4_saved_X4_needPlace
set_option maxRecDepth 20000 in
theorem ggX4_saved_X4_refreshPlay : GoodIn wsX4_saved wsX4_refreshPlay := goodIn_r _ [13, 14, 15, 8, 16, 17, 18, 19, 20, 21, 22, 23, 24, 25, 26, 27, 28, 29, 30, 31, 32, 33, 34, 35, 36, 37, 38, 39, 40, 41, 42, 43, 44, 45, 46, 47, 48, 49, 50, 51, 52, 53, 54, 55, 56, 57, 58, 59, 60, 61, 62, 63, 64, 65, 66, 67, 68, 69, 70, 71, 72, 73, 74, 75, 76, 77, 78, 79, 80, 81, 82, 4, 83, 84, 94, 95, 96, 97, 98, 99, 100, 101, 102, 103, 104, 105, 106, 107, 108, 109, 110, 111, 112, 113, 114, 115, 116, 117, 118] (by decide +kernel) (by decide +kernel)
set_option maxRecDepth 20000 in
theorem gX4_saved_X4_refreshPlay : GoodIn wsX4_saved (wsV RX4 114 RX4 yX4_refreshPlay wsX4_refreshPlay) := goodIn_app (goodIn_of _ (by decide +kernel)) ggX4_saved_X4_refreshPlay
set_option maxRecDepth 20000 in
theorem ggX4_saved_X4_gainAt : GoodIn wsX4_saved wsX4_gainAt := goodIn_r _ [88, 89, 8, 15, 16, 17, 18, 19, 20, 21, 22, 23, 24, 25, 26, 27, 28, 29, 30, 31, 32, 33, 34, 35, 36, 37, 38, 39, 40, 41, 42, 43, 44, 45, 46, 47, 48, 49, 50, 51, 52, 53, 54, 55, 56, 57, 58, 59, 60, 61, 62, 63, 64, 65, 66, 67, 68, 69, 70, 71, 72, 73, 74, 75, 76, 77, 78, 79, 80, 81, 82, 4, 83, 84, 90, 91, 92, 93, 94, 95, 96, 97, 98, 99, 100, 101, 102, 103, 104, 105, 106, 107, 108, 109, 110, 111, 112, 113, 114, 115, 116, 117, 118] (by decide +kernel) (by decide +kernel)
set_option maxRecDepth 20000 in
theorem gX4_saved_X4_gainAt : GoodIn wsX4_saved (wsV RX4 163 RX4 yX4_gainAt wsX4_gainAt) := goodIn_app (goodIn_of _ (by decide +kernel)) ggX4_saved_X4_gainAt
set_option maxRecDepth 20000 in
theorem ggX4_narrow_X4_refreshPlay : GoodIn wsX4_narrow wsX4_refreshPlay := goodIn_r _ [7, 8, 9, 1, 10, 11, 12, 13, 14, 15, 16, 17, 18, 19, 20, 21, 22, 23, 24, 25, 26, 27, 28, 29, 30, 31, 32, 33, 34, 35, 36, 37, 38, 39, 40, 41, 42, 43, 44, 45, 46, 47, 48, 49, 50, 51, 52, 53, 54, 55, 56, 57, 58, 59, 60, 61, 62, 63, 64, 65, 66, 67, 68, 69, 70, 71, 72, 73, 74, 75, 76, 6, 77, 78, 88, 89, 90, 91, 92, 93, 94, 95, 96, 97, 98, 99, 100, 101, 102, 103, 104, 105, 106, 107, 108, 109, 110, 111, 112] (by decide +kernel) (by decide +kernel)
set_option maxRecDepth 20000 in
theorem gX4_narrow_X4_refreshPlay : GoodIn wsX4_narrow (wsV RX4 114 RX4 yX4_refreshPlay wsX4_refreshPlay) := goodIn_app (goodIn_of _ (by decide +kernel)) ggX4_narrow_X4_refreshPlay
set_option maxRecDepth 20000 in
theorem ggX4_narrow_X4_gainAt : GoodIn wsX4_narrow wsX4_gainAt := goodIn_r _ [82, 83, 1, 9, 10, 11, 12, 13, 14, 15, 16, 17, 18, 19, 20, 21, 22, 23, 24, 25, 26, 27, 28, 29, 30, 31, 32, 33, 34, 35, 36, 37, 38, 39, 40, 41, 42, 43, 44, 45, 46, 47, 48, 49, 50, 51, 52, 53, 54, 55, 56, 57, 58, 59, 60, 61, 62, 63, 64, 65, 66, 67, 68, 69, 70, 71, 72, 73, 74, 75, 76, 6, 77, 78, 84, 85, 86, 87, 88, 89, 90, 91, 92, 93, 94, 95, 96, 97, 98, 99, 100, 101, 102, 103, 104, 105, 106, 107, 108, 109, 110, 111, 112] (by decide +kernel) (by decide +kernel)
set_option maxRecDepth 20000 in
theorem gX4_narrow_X4_gainAt : GoodIn wsX4_narrow (wsV RX4 163 RX4 yX4_gainAt wsX4_gainAt) := goodIn_app (goodIn_of _ (by decide +kernel)) ggX4_narrow_X4_gainAt
set_option maxRecDepth 20000 in
theorem ggX4_alone_X4_needAsk : GoodIn wsX4_alone wsX4_needAsk := goodIn_ca (goodIn_r _ [10, 11, 12, 1, 13, 25, 26, 27, 28, 29, 30, 31, 32, 33, 34, 35, 36, 37, 38, 39, 40, 41] (by decide +kernel) (by decide +kernel)) (goodIn_sub (fun _ h => List.mem_cons_of_mem _ (List.mem_append_right _ h)) (by decide +kernel))
set_option maxRecDepth 20000 in
theorem gX4_alone_X4_needAsk : GoodIn wsX4_alone (wsV RX4 87 RX4 yX4_needAsk wsX4_needAsk) := goodIn_app (goodIn_of _ (by decide +kernel)) ggX4_alone_X4_needAsk
set_option maxRecDepth 20000 in
theorem ggX4_alone_X1_firstRow : GoodIn wsX4_alone wsX1_firstRow := goodIn_r _ [18] (by decide +kernel) (by decide +kernel)
set_option maxRecDepth 20000 in
theorem gX4_alone_X1_firstRow : GoodIn wsX4_alone (wsV RX4 167 RX1 yX1_firstRow wsX1_firstRow) := goodIn_app (goodIn_of _ (by decide +kernel)) ggX4_alone_X1_firstRow
set_option maxRecDepth 20000 in
theorem ggX4_alone_X1_lastRow : GoodIn wsX4_alone wsX1_lastRow := goodIn_r _ [22, 23, 24, 15, 16, 17, 18, 31, 32, 33, 34, 35, 36, 37, 38, 39, 40, 41] (by decide +kernel) (by decide +kernel)
set_option maxRecDepth 20000 in
theorem gX4_alone_X1_lastRow : GoodIn wsX4_alone (wsV RX4 171 RX1 yX1_lastRow wsX1_lastRow) := goodIn_app (goodIn_of _ (by decide +kernel)) ggX4_alone_X1_lastRow
set_option maxRecDepth 20000 in
theorem ggX4_count_X3_size : GoodIn wsX4_count wsX3_size := goodIn_r _ [11, 12, 13, 14, 15, 16, 17, 18, 117, 118, 119, 106, 107, 108, 109, 110, 111, 112, 113, 114, 115, 116] (by decide +kernel) (by decide +kernel)
set_option maxRecDepth 20000 in
theorem gX4_count_X3_size : GoodIn wsX4_count (wsV RX4 183 RX3 yX3_size wsX3_size) := goodIn_app (goodIn_of _ (by decide +kernel)) ggX4_count_X3_size
set_option maxRecDepth 20000 in
theorem ggX4_count_X4_refreshPlay : GoodIn wsX4_count wsX4_refreshPlay := goodIn_r _ [23, 24, 6, 1, 25, 26, 27, 28, 29, 30, 31, 32, 33, 34, 35, 36, 37, 38, 39, 40, 41, 42, 43, 44, 45, 46, 16, 47, 48, 49, 50, 51, 52, 53, 54, 55, 56, 57, 58, 59, 60, 61, 62, 63, 64, 65, 66, 67, 68, 69, 70, 71, 72, 73, 74, 75, 76, 77, 78, 79, 80, 81, 82, 83, 84, 85, 86, 87, 88, 89, 90, 22, 91, 92, 100, 101, 102, 103, 104, 105, 106, 107, 108, 109, 110, 111, 112, 113, 114, 115, 116, 120, 121, 122, 123, 124, 125, 126, 127] (by decide +kernel) (by decide +kernel)
set_option maxRecDepth 20000 in
theorem gX4_count_X4_refreshPlay : GoodIn wsX4_count (wsV RX4 114 RX4 yX4_refreshPlay wsX4_refreshPlay) := goodIn_app (goodIn_of _ (by decide +kernel)) ggX4_count_X4_refreshPlay
set_option maxRecDepth 20000 in
theorem ggX4_count_X2_end : GoodIn wsX4_count wsX2_end := goodIn_r _ [96, 39, 82, 97, 98, 54, 99, 66, 67, 68, 16, 69, 70, 71, 45, 46, 47, 106, 107, 108, 109, 110, 111, 112, 113, 114, 115, 116, 120, 121, 122, 123, 124, 125, 126, 127] (by decide +kernel) (by decide +kernel)
set_option maxRecDepth 20000 in
theorem gX4_count_X2_end : GoodIn wsX4_count (wsV RX4 187 RX2 yX2_end wsX2_end) := goodIn_app (goodIn_of _ (by decide +kernel)) ggX4_count_X2_end
set_option maxRecDepth 20000 in
theorem ggX4_countsByPlay_X4_refreshPlay : GoodIn wsX4_countsByPlay wsX4_refreshPlay := goodIn_r _ [11, 12, 3, 1, 13, 14, 15, 16, 17, 18, 19, 20, 21, 22, 23, 24, 25, 26, 27, 28, 29, 30, 31, 32, 33, 34, 35, 36, 37, 38, 39, 40, 41, 42, 43, 44, 45, 46, 47, 48, 49, 50, 51, 52, 53, 54, 55, 56, 57, 58, 59, 60, 61, 62, 63, 64, 65, 66, 67, 68, 69, 70, 71, 72, 73, 74, 75, 76, 77, 78, 79, 10, 80, 81, 97, 98, 99, 100, 101, 102, 103, 104, 105, 106, 107, 108, 109, 110, 111, 112, 113, 114, 115, 116, 117, 118, 119, 120, 121] (by decide +kernel) (by decide +kernel)
set_option maxRecDepth 20000 in
theorem gX4_countsByPlay_X4_refreshPlay : GoodIn wsX4_countsByPlay (wsV RX4 114 RX4 yX4_refreshPlay wsX4_refreshPlay) := goodIn_app (goodIn_of _ (by decide +kernel)) ggX4_countsByPlay_X4_refreshPlay
set_option maxRecDepth 20000 in
theorem ggX4_countsByPlay_X1_rowsEnd : GoodIn wsX4_countsByPlay wsX1_rowsEnd := goodIn_r _ [85, 86, 103, 104, 105, 106, 107, 108, 109, 110, 111, 112, 113] (by decide +kernel) (by decide +kernel)
set_option maxRecDepth 20000 in
theorem gX4_countsByPlay_X1_rowsEnd : GoodIn wsX4_countsByPlay (wsV RX4 126 RX1 yX1_rowsEnd wsX1_rowsEnd) := goodIn_app (goodIn_of _ (by decide +kernel)) ggX4_countsByPlay_X1_rowsEnd
set_option maxRecDepth 20000 in
theorem ggX4_countsByPlay_X4_share : GoodIn wsX4_countsByPlay wsX4_share := goodIn_r _ [89, 90, 91, 10, 92, 93, 42, 43, 44, 94, 95, 96] (by decide +kernel) (by decide +kernel)
set_option maxRecDepth 20000 in
theorem gX4_countsByPlay_X4_share : GoodIn wsX4_countsByPlay (va_wsS RX4 190 yX4_share wsX4_share) := goodIn_app (goodIn_of _ (by decide +kernel)) ggX4_countsByPlay_X4_share
set_option maxRecDepth 20000 in
theorem ggX4_countsByTracks_X1_rowsEnd : GoodIn wsX4_countsByTracks wsX1_rowsEnd := goodIn_r _ [10, 11, 42, 43, 44, 45, 46, 47, 48, 49, 50, 51, 52] (by decide +kernel) (by decide +kernel)
set_option maxRecDepth 20000 in
theorem gX4_countsByTracks_X1_rowsEnd : GoodIn wsX4_countsByTracks (wsV RX4 126 RX1 yX1_rowsEnd wsX1_rowsEnd) := goodIn_app (goodIn_of _ (by decide +kernel)) ggX4_countsByTracks_X1_rowsEnd
set_option maxRecDepth 20000 in
theorem ggX4_countsByTracks_X3_cameOf : GoodIn wsX4_countsByTracks wsX3_cameOf := goodIn_r _ [16, 17, 18, 19, 20, 21, 53, 54, 55, 42, 43, 44, 45, 46, 47, 48, 49, 50, 51, 52] (by decide +kernel) (by decide +kernel)
set_option maxRecDepth 20000 in
theorem gX4_countsByTracks_X3_cameOf : GoodIn wsX4_countsByTracks (wsV RX4 194 RX3 yX3_cameOf wsX3_cameOf) := goodIn_app (goodIn_of _ (by decide +kernel)) ggX4_countsByTracks_X3_cameOf
set_option maxRecDepth 20000 in
theorem ggX4_countsByTracks_X4_share : GoodIn wsX4_countsByTracks wsX4_share := goodIn_r _ [25, 26, 27, 24, 28, 29, 30, 31, 32, 33, 34, 35] (by decide +kernel) (by decide +kernel)
set_option maxRecDepth 20000 in
theorem gX4_countsByTracks_X4_share : GoodIn wsX4_countsByTracks (va_wsS RX4 190 yX4_share wsX4_share) := goodIn_app (goodIn_of _ (by decide +kernel)) ggX4_countsByTracks_X4_share
set_option maxRecDepth 20000 in
theorem ggX4_share_X4_ticksShared : GoodIn wsX4_share wsX4_ticksShared := goodIn_r _ [4, 5, 6, 7, 8, 9, 10, 11] (by decide +kernel) (by decide +kernel)
set_option maxRecDepth 20000 in
theorem gX4_share_X4_ticksShared : GoodIn wsX4_share (va_wsS RX4 198 yX4_ticksShared wsX4_ticksShared) := goodIn_app (goodIn_of _ (by decide +kernel)) ggX4_share_X4_ticksShared
set_option maxRecDepth 20000 in
theorem ggX4_gainAt_X2_run : GoodIn wsX4_gainAt wsX2_run := goodIn_r _ [8, 9, 10, 11, 12, 13, 7, 14, 15, 16, 17, 18, 19, 20, 21, 22, 23, 24, 25, 26, 27, 28, 29, 30, 31, 32, 33, 34, 35, 36, 37, 38, 39, 40, 41, 42, 43, 44, 45, 46, 47, 48, 49, 50, 51, 52, 53, 54, 55, 56, 57, 58, 59, 60, 61, 62, 63, 64, 65, 66, 67, 68, 69, 70, 71, 72, 73, 84, 85, 86, 87, 88, 89, 90, 91, 92, 93, 94, 95, 96, 97, 98, 99, 100, 101, 102] (by decide +kernel) (by decide +kernel)
set_option maxRecDepth 20000 in
theorem gX4_gainAt_X2_run : GoodIn wsX4_gainAt (wsV RX4 210 RX2 yX2_run wsX2_run) := goodIn_app (goodIn_of _ (by decide +kernel)) ggX4_gainAt_X2_run
set_option maxRecDepth 20000 in
theorem ggX4_gainAt_X2_sumOfTimes : GoodIn wsX4_gainAt wsX2_sumOfTimes := goodIn_r _ [77, 18, 62, 22, 46, 47, 48, 26, 49, 50, 51, 24, 25, 27, 84, 85, 86, 87, 88, 89, 90, 91, 92, 93, 94, 95, 96, 97, 98, 99, 100, 101, 102] (by decide +kernel) (by decide +kernel)
set_option maxRecDepth 20000 in
theorem gX4_gainAt_X2_sumOfTimes : GoodIn wsX4_gainAt (wsV RX4 159 RX2 yX2_sumOfTimes wsX2_sumOfTimes) := goodIn_app (goodIn_of _ (by decide +kernel)) ggX4_gainAt_X2_sumOfTimes
set_option maxRecDepth 20000 in
theorem ggX4_refreshPlay_X2_run : GoodIn wsX4_refreshPlay wsX2_run := goodIn_r _ [8, 9, 10, 11, 12, 13, 7, 14, 15, 16, 17, 18, 19, 20, 21, 22, 23, 24, 25, 26, 27, 28, 29, 30, 31, 32, 33, 34, 35, 36, 37, 38, 39, 40, 41, 42, 43, 44, 45, 46, 47, 48, 49, 50, 51, 52, 53, 54, 55, 56, 57, 58, 59, 60, 61, 62, 63, 64, 65, 66, 67, 68, 69, 70, 71, 72, 73, 80, 81, 82, 83, 84, 85, 86, 87, 88, 89, 90, 91, 92, 93, 94, 95, 96, 97, 98] (by decide +kernel) (by decide +kernel)
set_option maxRecDepth 20000 in
theorem gX4_refreshPlay_X2_run : GoodIn wsX4_refreshPlay (wsV RX4 210 RX2 yX2_run wsX2_run) := goodIn_app (goodIn_of _ (by decide +kernel)) ggX4_refreshPlay_X2_run
set_option maxRecDepth 20000 in
theorem ggX4_needStep_X4_needAsk : GoodIn wsX4_needStep wsX4_needAsk := goodIn_ca (goodIn_r _ [9, 1, 2, 3, 10, 16, 17, 18, 19, 20, 21, 22, 23, 24, 25, 26, 27, 28, 29, 30, 31, 32] (by decide +kernel) (by decide +kernel)) (goodIn_sub (fun _ h => List.mem_cons_of_mem _ (List.mem_append_right _ h)) (by decide +kernel))
set_option maxRecDepth 20000 in
theorem gX4_needStep_X4_needAsk : GoodIn wsX4_needStep (wsV RX4 87 RX4 yX4_needAsk wsX4_needAsk) := goodIn_app (goodIn_of _ (by decide +kernel)) ggX4_needStep_X4_needAsk
set_option maxRecDepth 20000 in
theorem ggX4_needStep_X1_firstRow : GoodIn wsX4_needStep wsX1_firstRow := goodIn_r _ [15] (by decide +kernel) (by decide +kernel)
set_option maxRecDepth 20000 in
theorem gX4_needStep_X1_firstRow : GoodIn wsX4_needStep (wsV RX4 167 RX1 yX1_firstRow wsX1_firstRow) := goodIn_app (goodIn_of _ (by decide +kernel)) ggX4_needStep_X1_firstRow
set_option maxRecDepth 20000 in
theorem ggX4_needPlaceNumbers_X4_needWithin : GoodIn wsX4_needPlaceNumbers wsX4_needWithin := goodIn_ca (goodIn_r _ [4, 5, 6] (by decide +kernel) (by decide +kernel)) (goodIn_sub (fun _ h => List.mem_cons_of_mem _ (List.mem_append_right _ h)) (by decide +kernel))
set_option maxRecDepth 20000 in
theorem gX4_needPlaceNumbers_X4_needWithin : GoodIn wsX4_needPlaceNumbers (va_wsS RX4 67 yX4_needWithin wsX4_needWithin) := goodIn_app (goodIn_of _ (by decide +kernel)) ggX4_needPlaceNumbers_X4_needWithin
