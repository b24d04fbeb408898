set_option maxRecDepth 20000 in
theorem ggX5_noPlace_X5_in : GoodIn wsX5_noPlace wsX5_in := goodIn_r _ [5] (by decide +kernel) (by decide +kernel)
set_option maxRecDepth 20000 in
theorem gX5_noPlace_X5_in : GoodIn wsX5_noPlace (va_wsS RX5 66 yX5_in wsX5_in) := goodIn_app (goodIn_of _ (by decide +kernel)) ggX5_noPlace_X5_in
set_option maxRecDepth 20000 in
theorem ggX5_noAsk_X5_in : GoodIn wsX5_noAsk wsX5_in := goodIn_r _ [5] (by decide +kernel) (by decide +kernel)
set_option maxRecDepth 20000 in
theorem gX5_noAsk_X5_in : GoodIn wsX5_noAsk (va_wsS RX5 66 yX5_in wsX5_in) := goodIn_app (goodIn_of _ (by decide +kernel)) ggX5_noAsk_X5_in
set_option maxRecDepth 20000 in
theorem ggX5_noStep_X5_noAsk : GoodIn wsX5_noStep wsX5_noAsk := goodIn_r _ [6, 7, 8, 9, 5, 10, 11, 12, 13, 14, 15, 16, 17, 18, 19, 20, 21, 22, 23, 24, 25, 26, 27, 28, 29] (by decide +kernel) (by decide +kernel)
set_option maxRecDepth 20000 in
theorem gX5_noStep_X5_noAsk : GoodIn wsX5_noStep (wsV RX5 73 RX5 yX5_noAsk wsX5_noAsk) := goodIn_app (goodIn_of _ (by decide +kernel)) ggX5_noStep_X5_noAsk
set_option maxRecDepth 20000 in
theorem ggX5_noStep_X5_in : GoodIn wsX5_noStep wsX5_in := goodIn_r _ [10] (by decide +kernel) (by decide +kernel)
set_option maxRecDepth 20000 in
theorem gX5_noStep_X5_in : GoodIn wsX5_noStep (va_wsS RX5 66 yX5_in wsX5_in) := goodIn_app (goodIn_of _ (by decide +kernel)) ggX5_noStep_X5_in
set_option maxRecDepth 20000 in
theorem ggX5_isPlace_X5_in : GoodIn wsX5_isPlace wsX5_in := goodIn_r _ [4] (by decide +kernel) (by decide +kernel)
set_option maxRecDepth 20000 in
theorem gX5_isPlace_X5_in : GoodIn wsX5_isPlace (va_wsS RX5 66 yX5_in wsX5_in) := goodIn_app (goodIn_of _ (by decide +kernel)) ggX5_isPlace_X5_in
set_option maxRecDepth 20000 in
theorem ggX5_place_X5_isPlace : GoodIn wsX5_place wsX5_isPlace := goodIn_r _ [9, 10, 11, 8, 12] (by decide +kernel) (by decide +kernel)
set_option maxRecDepth 20000 in
theorem gX5_place_X5_isPlace : GoodIn wsX5_place (va_wsS RX5 77 yX5_isPlace wsX5_isPlace) := goodIn_app (goodIn_of _ (by decide +kernel)) ggX5_place_X5_isPlace
set_option maxRecDepth 20000 in
theorem ggX5_place_X5_throwsIf : GoodIn wsX5_place wsX5_throwsIf := goodIn_r _ [16, 1, 17, 18, 19, 20, 21, 22, 23, 24, 25, 26, 27, 28, 29, 30, 31, 32, 33, 34, 35] (by decide +kernel) (by decide +kernel)
set_option maxRecDepth 20000 in
theorem gX5_place_X5_throwsIf : GoodIn wsX5_place (wsV RX5 80 RX5 yX5_throwsIf wsX5_throwsIf) := goodIn_app (goodIn_of _ (by decide +kernel)) ggX5_place_X5_throwsIf
set_option maxRecDepth 20000 in
theorem ggX5_change_X5_noPlace : GoodIn wsX5_change wsX5_noPlace := goodIn_r _ [9, 10, 11, 12, 8, 13, 21, 22, 23, 24, 25, 26, 27, 28, 29, 30, 31, 32, 33, 34, 35, 36, 37, 38, 39] (by decide +kernel) (by decide +kernel)
set_option maxRecDepth 20000 in
theorem gX5_change_X5_noPlace : GoodIn wsX5_change (wsV RX5 84 RX5 yX5_noPlace wsX5_noPlace) := goodIn_app (goodIn_of _ (by decide +kernel)) ggX5_change_X5_noPlace
set_option maxRecDepth 20000 in
theorem ggX5_change_X5_throwsIf : GoodIn wsX5_change wsX5_throwsIf := goodIn_r _ [17, 1, 21, 22, 23, 24, 25, 26, 27, 28, 29, 30, 31, 32, 33, 34, 35, 36, 37, 38, 39] (by decide +kernel) (by decide +kernel)
set_option maxRecDepth 20000 in
theorem gX5_change_X5_throwsIf : GoodIn wsX5_change (wsV RX5 80 RX5 yX5_throwsIf wsX5_throwsIf) := goodIn_app (goodIn_of _ (by decide +kernel)) ggX5_change_X5_throwsIf
set_option maxRecDepth 20000 in
theorem ggX5_change_X5_isPlace : GoodIn wsX5_change wsX5_isPlace := goodIn_r _ [20, 11, 12, 8, 13] (by decide +kernel) (by decide +kernel)
set_option maxRecDepth 20000 in
theorem gX5_change_X5_isPlace : GoodIn wsX5_change (va_wsS RX5 77 yX5_isPlace wsX5_isPlace) := goodIn_app (goodIn_of _ (by decide +kernel)) ggX5_change_X5_isPlace
set_option maxRecDepth 20000 in
theorem ggX5_ask_X5_noPlace : GoodIn wsX5_ask wsX5_noPlace := goodIn_r _ [13, 14, 15, 16, 12, 17, 22, 23, 24, 25, 26, 27, 28, 29, 30, 31, 32, 33, 34, 35, 36, 37, 38, 39, 40] (by decide +kernel) (by decide +kernel)
set_option maxRecDepth 20000 in
theorem gX5_ask_X5_noPlace : GoodIn wsX5_ask (wsV RX5 84 RX5 yX5_noPlace wsX5_noPlace) := goodIn_app (goodIn_of _ (by decide +kernel)) ggX5_ask_X5_noPlace
set_option maxRecDepth 20000 in
theorem ggX5_ask_X5_throwsIf : GoodIn wsX5_ask wsX5_throwsIf := goodIn_r _ [21, 1, 22, 23, 24, 25, 26, 27, 28, 29, 30, 31, 32, 33, 34, 35, 36, 37, 38, 39, 40] (by decide +kernel) (by decide +kernel)
set_option maxRecDepth 20000 in
theorem gX5_ask_X5_throwsIf : GoodIn wsX5_ask (wsV RX5 80 RX5 yX5_throwsIf wsX5_throwsIf) := goodIn_app (goodIn_of _ (by decide +kernel)) ggX5_ask_X5_throwsIf
set_option maxRecDepth 20000 in
theorem ggX5_ask_X5_in : GoodIn wsX5_ask wsX5_in := goodIn_r _ [17] (by decide +kernel) (by decide +kernel)
set_option maxRecDepth 20000 in
theorem gX5_ask_X5_in : GoodIn wsX5_ask (va_wsS RX5 66 yX5_in wsX5_in) := goodIn_app (goodIn_of _ (by decide +kernel)) ggX5_ask_X5_in
set_option maxRecDepth 20000 in
theorem ggX5_step_X5_noAsk : GoodIn wsX5_step wsX5_noAsk := goodIn_r _ [9, 10, 11, 12, 8, 13, 23, 24, 25, 26, 27, 28, 29, 30, 31, 32, 33, 34, 35, 36, 37, 38, 39, 40, 41] (by decide +kernel) (by decide +kernel)
set_option maxRecDepth 20000 in
theorem gX5_step_X5_noAsk : GoodIn wsX5_step (wsV RX5 73 RX5 yX5_noAsk wsX5_noAsk) := goodIn_app (goodIn_of _ (by decide +kernel)) ggX5_step_X5_noAsk
set_option maxRecDepth 20000 in
theorem ggX5_step_X5_noPlace : GoodIn wsX5_step wsX5_noPlace := goodIn_r _ [17, 18, 11, 12, 8, 13, 23, 24, 25, 26, 27, 28, 29, 30, 31, 32, 33, 34, 35, 36, 37, 38, 39, 40, 41] (by decide +kernel) (by decide +kernel)
set_option maxRecDepth 20000 in
theorem gX5_step_X5_noPlace : GoodIn wsX5_step (wsV RX5 84 RX5 yX5_noPlace wsX5_noPlace) := goodIn_app (goodIn_of _ (by decide +kernel)) ggX5_step_X5_noPlace
set_option maxRecDepth 20000 in
theorem ggX5_step_X5_throwsIf : GoodIn wsX5_step wsX5_throwsIf := goodIn_r _ [22, 1, 23, 24, 25, 26, 27, 28, 29, 30, 31, 32, 33, 34, 35, 36, 37, 38, 39, 40, 41] (by decide +kernel) (by decide +kernel)
set_option maxRecDepth 20000 in
theorem gX5_step_X5_throwsIf : GoodIn wsX5_step (wsV RX5 80 RX5 yX5_throwsIf wsX5_throwsIf) := goodIn_app (goodIn_of _ (by decide +kernel)) ggX5_step_X5_throwsIf
set_option maxRecDepth 20000 in
theorem ggX5_step_X5_in : GoodIn wsX5_step wsX5_in := goodIn_r _ [13] (by decide +kernel) (by decide +kernel)
set_option maxRecDepth 20000 in
theorem gX5_step_X5_in : GoodIn wsX5_step (va_wsS RX5 66 yX5_in wsX5_in) := goodIn_app (goodIn_of _ (by decide +kernel)) ggX5_step_X5_in
set_option maxRecDepth 20000 in
theorem ggX5_seen_X5_noStep : GoodIn wsX5_seen wsX5_noStep := goodIn_r _ [10, 11, 12, 13, 14, 9, 15, 16, 17, 18, 19, 24, 25, 26, 27, 28, 29, 30, 31, 32, 33, 34, 35, 36, 37, 38, 39, 40, 41, 42] (by decide +kernel) (by decide +kernel)
set_option maxRecDepth 20000 in
theorem gX5_seen_X5_noStep : GoodIn wsX5_seen (wsV RX5 88 RX5 yX5_noStep wsX5_noStep) := goodIn_app (goodIn_of _ (by decide +kernel)) ggX5_seen_X5_noStep
set_option maxRecDepth 20000 in
theorem ggX5_seen_X5_throwsIf : GoodIn wsX5_seen wsX5_throwsIf := goodIn_r _ [23, 1, 24, 25, 26, 27, 28, 29, 30, 31, 32, 33, 34, 35, 36, 37, 38, 39, 40, 41, 42] (by decide +kernel) (by decide +kernel)
set_option maxRecDepth 20000 in
theorem gX5_seen_X5_throwsIf : GoodIn wsX5_seen (wsV RX5 80 RX5 yX5_throwsIf wsX5_throwsIf) := goodIn_app (goodIn_of _ (by decide +kernel)) ggX5_seen_X5_throwsIf
set_option maxRecDepth 20000 in
theorem ggX5_seen_X5_in : GoodIn wsX5_seen wsX5_in := goodIn_r _ [19] (by decide +kernel) (by decide +kernel)
set_option maxRecDepth 20000 in
theorem gX5_seen_X5_in : GoodIn wsX5_seen (va_wsS RX5 66 yX5_in wsX5_in) := goodIn_app (goodIn_of _ (by decide +kernel)) ggX5_seen_X5_in
set_option maxRecDepth 20000 in
theorem ggX5_unsee_X5_noStep : GoodIn wsX5_unsee wsX5_noStep := goodIn_r _ [7, 8, 9, 10, 11, 6, 12, 13, 14, 15, 16, 21, 22, 23, 24, 25, 26, 27, 28, 29, 30, 31, 32, 33, 34, 35, 36, 37, 38, 39] (by decide +kernel) (by decide +kernel)
set_option maxRecDepth 20000 in
theorem gX5_unsee_X5_noStep : GoodIn wsX5_unsee (wsV RX5 88 RX5 yX5_noStep wsX5_noStep) := goodIn_app (goodIn_of _ (by decide +kernel)) ggX5_unsee_X5_noStep
set_option maxRecDepth 20000 in
theorem ggX5_unsee_X5_throwsIf : GoodIn wsX5_unsee wsX5_throwsIf := goodIn_r _ [20, 1, 21, 22, 23, 24, 25, 26, 27, 28, 29, 30, 31, 32, 33, 34, 35, 36, 37, 38, 39] (by decide +kernel) (by decide +kernel)
set_option maxRecDepth 20000 in
theorem gX5_unsee_X5_throwsIf : GoodIn wsX5_unsee (wsV RX5 80 RX5 yX5_throwsIf wsX5_throwsIf) := goodIn_app (goodIn_of _ (by decide +kernel)) ggX5_unsee_X5_throwsIf
set_option maxRecDepth 20000 in
theorem ggX5_next_X5_isAhead : GoodIn wsX5_next wsX5_isAhead := goodIn_r _ [8, 9, 10, 11, 12, 13, 14, 15, 16, 17, 18, 19, 20, 21, 22, 23, 24, 25, 26, 27, 28, 29, 30] (by decide +kernel) (by decide +kernel)
set_option maxRecDepth 20000 in
theorem gX5_next_X5_isAhead : GoodIn wsX5_next (wsV RX5 93 RX5 yX5_isAhead wsX5_isAhead) := goodIn_app (goodIn_of _ (by decide +kernel)) ggX5_next_X5_isAhead
set_option maxRecDepth 20000 in
theorem ggX5_begins_X5_busy : GoodIn wsX5_begins wsX5_busy := goodIn_r _ [9, 10, 11, 2, 3, 12, 23, 24, 25, 26, 27, 28, 29, 30, 31, 32, 33, 34, 35, 36, 37, 38, 39, 40, 41] (by decide +kernel) (by decide +kernel)
set_option maxRecDepth 20000 in
theorem gX5_begins_X5_busy : GoodIn wsX5_begins (wsV RX5 97 RX5 yX5_busy wsX5_busy) := goodIn_app (goodIn_of _ (by decide +kernel)) ggX5_begins_X5_busy
set_option maxRecDepth 20000 in
theorem ggX5_begins_X5_next : GoodIn wsX5_begins wsX5_next := goodIn_r _ [16, 10, 1, 11, 17, 18, 19, 8, 20, 21, 4, 22, 23, 24, 25, 26, 27, 28, 29, 30, 31, 32, 33, 34, 35, 36, 37, 38, 39, 40, 41] (by decide +kernel) (by decide +kernel)
set_option maxRecDepth 20000 in
theorem gX5_begins_X5_next : GoodIn wsX5_begins (wsV RX5 101 RX5 yX5_next wsX5_next) := goodIn_app (goodIn_of _ (by decide +kernel)) ggX5_begins_X5_next
set_option maxRecDepth 20000 in
theorem ggX5_plays_X5_forgets : GoodIn wsX5_plays wsX5_forgets := goodIn_r _ [27, 4, 6, 18, 11, 19, 45, 46, 47, 48, 49, 50, 51, 52, 53, 54, 55, 56, 57, 58, 59, 60, 61, 62, 63] (by decide +kernel) (by decide +kernel)
set_option maxRecDepth 20000 in
theorem gX5_plays_X5_forgets : GoodIn wsX5_plays (wsV RX5 104 RX5 yX5_forgets wsX5_forgets) := goodIn_app (goodIn_of _ (by decide +kernel)) ggX5_plays_X5_forgets
set_option maxRecDepth 20000 in
theorem ggX5_plays_X5_begins : GoodIn wsX5_plays wsX5_begins := goodIn_r _ [31, 19, 18, 11, 1, 32, 33, 34, 26, 35, 3, 17, 6, 36, 37, 38, 39, 40, 41, 42, 43, 4, 44, 45, 46, 47, 48, 49, 50, 51, 52, 53, 54, 55, 56, 57, 58, 59, 60, 61, 62, 63] (by decide +kernel) (by decide +kernel)
set_option maxRecDepth 20000 in
theorem gX5_plays_X5_begins : GoodIn wsX5_plays (wsV RX5 115 RX5 yX5_begins wsX5_begins) := goodIn_app (goodIn_of _ (by decide +kernel)) ggX5_plays_X5_begins
set_option maxRecDepth 20000 in
theorem ggX5_played_X5_noStep : GoodIn wsX5_played wsX5_noStep := goodIn_r _ [9, 10, 11, 12, 13, 8, 14, 15, 16, 17, 18, 65, 66, 67, 68, 69, 70, 71, 72, 73, 74, 75, 76, 77, 78, 79, 80, 81, 82, 83] (by decide +kernel) (by decide +kernel)
set_option maxRecDepth 20000 in
theorem gX5_played_X5_noStep : GoodIn wsX5_played (wsV RX5 88 RX5 yX5_noStep wsX5_noStep) := goodIn_app (goodIn_of _ (by decide +kernel)) ggX5_played_X5_noStep
set_option maxRecDepth 20000 in
theorem ggX5_played_X5_throwsIf : GoodIn wsX5_played wsX5_throwsIf := goodIn_r _ [22, 1, 65, 66, 67, 68, 69, 70, 71, 72, 73, 74, 75, 76, 77, 78, 79, 80, 81, 82, 83] (by decide +kernel) (by decide +kernel)
set_option maxRecDepth 20000 in
theorem gX5_played_X5_throwsIf : GoodIn wsX5_played (wsV RX5 80 RX5 yX5_throwsIf wsX5_throwsIf) := goodIn_app (goodIn_of _ (by decide +kernel)) ggX5_played_X5_throwsIf
set_option maxRecDepth 20000 in
theorem ggX5_played_X5_in : GoodIn wsX5_played wsX5_in := goodIn_r _ [18] (by decide +kernel) (by decide +kernel)
set_option maxRecDepth 20000 in
theorem gX5_played_X5_in : GoodIn wsX5_played (va_wsS RX5 66 yX5_in wsX5_in) := goodIn_app (goodIn_of _ (by decide +kernel)) ggX5_played_X5_in
set_option maxRecDepth 20000 in
theorem ggX5_played_X5_plays : GoodIn wsX5_played wsX5_plays := goodIn_r _ [26, 27, 28, 15, 2, 29, 30, 31, 32, 33, 34, 4, 35, 36, 37, 10, 38, 39, 3, 40, 41, 42, 43, 44, 45, 46, 8, 47, 48, 49, 50, 51, 52, 53, 54, 55, 56, 57, 58, 59, 60, 61, 62, 63, 64, 65, 66, 67, 68, 69, 70, 71, 72, 73, 74, 75, 76, 77, 78, 79, 80, 81, 82, 83] (by decide +kernel) (by decide +kernel)
set_option maxRecDepth 20000 in
theorem gX5_played_X5_plays : GoodIn wsX5_played (wsV RX5 119 RX5 yX5_plays wsX5_plays) := goodIn_app (goodIn_of _ (by decide +kernel)) ggX5_played_X5_plays
set_option maxRecDepth 20000 in
theorem ggX5_trace_X5_plays : GoodIn wsX5_trace wsX5_plays := goodIn_r _ [11, 12, 13, 14, 15, 16, 17, 18, 19, 20, 21, 6, 22, 23, 24, 25, 26, 27, 4, 28, 29, 30, 31, 32, 33, 34, 10, 35, 36, 37, 38, 39, 40, 41, 42, 43, 44, 45, 46, 47, 48, 49, 50, 51, 52, 61, 62, 63, 64, 65, 66, 67, 68, 69, 70, 71, 72, 73, 74, 75, 76, 77, 78, 79] (by decide +kernel) (by decide +kernel)
set_option maxRecDepth 20000 in
theorem gX5_trace_X5_plays : GoodIn wsX5_trace (wsV RX5 119 RX5 yX5_plays wsX5_plays) := goodIn_app (goodIn_of _ (by decide +kernel)) ggX5_trace_X5_plays
set_option maxRecDepth 20000 in
theorem ggX5_trace_X5_isStep : GoodIn wsX5_trace wsX5_isStep := goodIn_r _ [56, 14, 25, 61, 62, 63, 64, 65, 66, 67, 68, 69, 70, 71, 72, 73, 74, 75, 76, 77, 78, 79] (by decide +kernel) (by decide +kernel)
set_option maxRecDepth 20000 in
theorem gX5_trace_X5_isStep : GoodIn wsX5_trace (wsV RX5 123 RX5 yX5_isStep wsX5_isStep) := goodIn_app (goodIn_of _ (by decide +kernel)) ggX5_trace_X5_isStep
set_option maxRecDepth 20000 in
theorem ggX5_trace_X5_stepsOfAll : GoodIn wsX5_trace wsX5_stepsOfAll := goodIn_r _ [60, 14, 25, 61, 62, 63, 64, 65, 66, 67, 68, 69, 70, 71, 72, 73, 74, 75, 76, 77, 78, 79] (by decide +kernel) (by decide +kernel)
set_option maxRecDepth 20000 in
theorem gX5_trace_X5_stepsOfAll : GoodIn wsX5_trace (wsV RX5 126 RX5 yX5_stepsOfAll wsX5_stepsOfAll) := goodIn_app (goodIn_of _ (by decide +kernel)) ggX5_trace_X5_stepsOfAll
set_option maxRecDepth 20000 in
theorem ggX5_unlike_X5_plays : GoodIn wsX5_unlike wsX5_plays := goodIn_r _ [11, 12, 13, 14, 15, 16, 17, 18, 19, 20, 21, 6, 22, 23, 24, 25, 26, 27, 4, 28, 29, 30, 31, 32, 33, 34, 10, 35, 36, 37, 38, 39, 40, 41, 42, 43, 44, 45, 46, 47, 48, 49, 50, 51, 52, 57, 58, 59, 60, 61, 62, 63, 64, 65, 66, 67, 68, 69, 70, 71, 72, 73, 74, 75] (by decide +kernel) (by decide +kernel)
set_option maxRecDepth 20000 in
theorem gX5_unlike_X5_plays : GoodIn wsX5_unlike (wsV RX5 119 RX5 yX5_plays wsX5_plays) := goodIn_app (goodIn_of _ (by decide +kernel)) ggX5_unlike_X5_plays
set_option maxRecDepth 20000 in
theorem ggX5_unlike_X5_isStep : GoodIn wsX5_unlike wsX5_isStep := goodIn_r _ [56, 14, 25, 57, 58, 59, 60, 61, 62, 63, 64, 65, 66, 67, 68, 69, 70, 71, 72, 73, 74, 75] (by decide +kernel) (by decide +kernel)
set_option maxRecDepth 20000 in
theorem gX5_unlike_X5_isStep : GoodIn wsX5_unlike (wsV RX5 123 RX5 yX5_isStep wsX5_isStep) := goodIn_app (goodIn_of _ (by decide +kernel)) ggX5_unlike_X5_isStep
set_option maxRecDepth 20000 in
theorem ggX5_isWhole_X5_isStep : GoodIn wsX5_isWhole wsX5_isStep := goodIn_r _ [7, 8, 9, 17, 18, 19, 20, 21, 22, 23, 24, 25, 26, 27, 28, 29, 30, 31, 32, 33, 34, 35] (by decide +kernel) (by decide +kernel)
set_option maxRecDepth 20000 in
theorem gX5_isWhole_X5_isStep : GoodIn wsX5_isWhole (wsV RX5 123 RX5 yX5_isStep wsX5_isStep) := goodIn_app (goodIn_of _ (by decide +kernel)) ggX5_isWhole_X5_isStep
set_option maxRecDepth 20000 in
theorem ggX5_isWhole_X5_seenCame : GoodIn wsX5_isWhole wsX5_seenCame := goodIn_r _ [13, 14, 2, 15, 16, 1, 17, 18, 19, 20, 21, 22, 23, 24, 25, 26, 27, 28, 29, 30, 31, 32, 33, 34, 35] (by decide +kernel) (by decide +kernel)
set_option maxRecDepth 20000 in
theorem gX5_isWhole_X5_seenCame : GoodIn wsX5_isWhole (wsV RX5 130 RX5 yX5_seenCame wsX5_seenCame) := goodIn_app (goodIn_of _ (by decide +kernel)) ggX5_isWhole_X5_seenCame
set_option maxRecDepth 20000 in
theorem ggX5_agrees_X5_forgets : GoodIn wsX5_agrees wsX5_forgets := goodIn_r _ [19, 2, 6, 14, 12, 13, 49, 50, 51, 52, 53, 54, 55, 56, 57, 58, 59, 60, 61, 62, 63, 64, 65, 66, 67] (by decide +kernel) (by decide +kernel)
set_option maxRecDepth 20000 in
theorem gX5_agrees_X5_forgets : GoodIn wsX5_agrees (wsV RX5 104 RX5 yX5_forgets wsX5_forgets) := goodIn_app (goodIn_of _ (by decide +kernel)) ggX5_agrees_X5_forgets
set_option maxRecDepth 20000 in
theorem ggX5_agrees_X5_isStep : GoodIn wsX5_agrees wsX5_isStep := goodIn_r _ [23, 7, 24, 49, 50, 51, 52, 53, 54, 55, 56, 57, 58, 59, 60, 61, 62, 63, 64, 65, 66, 67] (by decide +kernel) (by decide +kernel)
set_option maxRecDepth 20000 in
theorem gX5_agrees_X5_isStep : GoodIn wsX5_agrees (wsV RX5 123 RX5 yX5_isStep wsX5_isStep) := goodIn_app (goodIn_of _ (by decide +kernel)) ggX5_agrees_X5_isStep
set_option maxRecDepth 20000 in
theorem ggX5_agrees_X5_seenCame : GoodIn wsX5_agrees wsX5_seenCame := goodIn_r _ [28, 29, 30, 4, 31, 1, 49, 50, 51, 52, 53, 54, 55, 56, 57, 58, 59, 60, 61, 62, 63, 64, 65, 66, 67] (by decide +kernel) (by decide +kernel)
set_option maxRecDepth 20000 in
theorem gX5_agrees_X5_seenCame : GoodIn wsX5_agrees (wsV RX5 130 RX5 yX5_seenCame wsX5_seenCame) := goodIn_app (goodIn_of _ (by decide +kernel)) ggX5_agrees_X5_seenCame
set_option maxRecDepth 20000 in
theorem ggX5_agrees_X5_begins : GoodIn wsX5_agrees wsX5_begins := goodIn_r _ [35, 13, 14, 12, 3, 36, 37, 38, 18, 39, 7, 1, 6, 40, 41, 42, 43, 44, 45, 46, 47, 2, 48, 49, 50, 51, 52, 53, 54, 55, 56, 57, 58, 59, 60, 61, 62, 63, 64, 65, 66, 67] (by decide +kernel) (by decide +kernel)
set_option maxRecDepth 20000 in
theorem gX5_agrees_X5_begins : GoodIn wsX5_agrees (wsV RX5 115 RX5 yX5_begins wsX5_begins) := goodIn_app (goodIn_of _ (by decide +kernel)) ggX5_agrees_X5_begins
set_option maxRecDepth 20000 in
theorem ggX5_found_X5_noPlace : GoodIn wsX5_found wsX5_noPlace := goodIn_r _ [6, 7, 8, 9, 5, 10, 70, 71, 72, 73, 74, 75, 76, 77, 78, 79, 80, 81, 82, 83, 84, 85, 86, 87, 88] (by decide +kernel) (by decide +kernel)
set_option maxRecDepth 20000 in
theorem gX5_found_X5_noPlace : GoodIn wsX5_found (wsV RX5 84 RX5 yX5_noPlace wsX5_noPlace) := goodIn_app (goodIn_of _ (by decide +kernel)) ggX5_found_X5_noPlace
set_option maxRecDepth 20000 in
theorem ggX5_found_X5_throwsIf : GoodIn wsX5_found wsX5_throwsIf := goodIn_r _ [14, 1, 70, 71, 72, 73, 74, 75, 76, 77, 78, 79, 80, 81, 82, 83, 84, 85, 86, 87, 88] (by decide +kernel) (by decide +kernel)
set_option maxRecDepth 20000 in
theorem gX5_found_X5_throwsIf : GoodIn wsX5_found (wsV RX5 80 RX5 yX5_throwsIf wsX5_throwsIf) := goodIn_app (goodIn_of _ (by decide +kernel)) ggX5_found_X5_throwsIf
set_option maxRecDepth 20000 in
theorem ggX5_found_X5_isWhole : GoodIn wsX5_found wsX5_isWhole := goodIn_r _ [18, 19, 20, 21, 22, 23, 5, 24, 25, 26, 27, 28, 29, 30, 31, 32, 33, 70, 71, 72, 73, 74, 75, 76, 77, 78, 79, 80, 81, 82, 83, 84, 85, 86, 87, 88] (by decide +kernel) (by decide +kernel)
set_option maxRecDepth 20000 in
theorem gX5_found_X5_isWhole : GoodIn wsX5_found (wsV RX5 133 RX5 yX5_isWhole wsX5_isWhole) := goodIn_app (goodIn_of _ (by decide +kernel)) ggX5_found_X5_isWhole
set_option maxRecDepth 20000 in
theorem ggX5_found_X5_agrees : GoodIn wsX5_found wsX5_agrees := goodIn_r _ [37, 19, 38, 39, 32, 40, 41, 25, 42, 43, 44, 45, 46, 47, 48, 49, 50, 51, 5, 52, 21, 22, 23, 24, 26, 27, 28, 29, 30, 31, 20, 33, 53, 54, 55, 56, 57, 58, 59, 60, 61, 62, 63, 64, 65, 66, 67, 68, 69, 70, 71, 72, 73, 74, 75, 76, 77, 78, 79, 80, 81, 82, 83, 84, 85, 86, 87, 88] (by decide +kernel) (by decide +kernel)
set_option maxRecDepth 20000 in
theorem gX5_found_X5_agrees : GoodIn wsX5_found (wsV RX5 136 RX5 yX5_agrees wsX5_agrees) := goodIn_app (goodIn_of _ (by decide +kernel)) ggX5_found_X5_agrees
set_option maxRecDepth 20000 in
theorem ggX5_overlap_X5_noPlace : GoodIn wsX5_overlap wsX5_noPlace := goodIn_r _ [14, 15, 16, 17, 13, 18, 29, 30, 31, 32, 33, 34, 35, 36, 37, 38, 39, 40, 41, 42, 43, 44, 45, 46, 47] (by decide +kernel) (by decide +kernel)
set_option maxRecDepth 20000 in
theorem gX5_overlap_X5_noPlace : GoodIn wsX5_overlap (wsV RX5 84 RX5 yX5_noPlace wsX5_noPlace) := goodIn_app (goodIn_of _ (by decide +kernel)) ggX5_overlap_X5_noPlace
set_option maxRecDepth 20000 in
theorem ggX5_overlap_X5_throwsIf : GoodIn wsX5_overlap wsX5_throwsIf := goodIn_r _ [22, 1, 29, 30, 31, 32, 33, 34, 35, 36, 37, 38, 39, 40, 41, 42, 43, 44, 45, 46, 47] (by decide +kernel) (by decide +kernel)
set_option maxRecDepth 20000 in
theorem gX5_overlap_X5_throwsIf : GoodIn wsX5_overlap (wsV RX5 80 RX5 yX5_throwsIf wsX5_throwsIf) := goodIn_app (goodIn_of _ (by decide +kernel)) ggX5_overlap_X5_throwsIf
set_option maxRecDepth 20000 in
theorem ggX5_overlap_X5_isStep : GoodIn wsX5_overlap wsX5_isStep := goodIn_r _ [26, 27, 28, 29, 30, 31, 32, 33, 34, 35, 36, 37, 38, 39, 40, 41, 42, 43, 44, 45, 46, 47] (by decide +kernel) (by decide +kernel)
set_option maxRecDepth 20000 in
theorem gX5_overlap_X5_isStep : GoodIn wsX5_overlap (wsV RX5 123 RX5 yX5_isStep wsX5_isStep) := goodIn_app (goodIn_of _ (by decide +kernel)) ggX5_overlap_X5_isStep
set_option maxRecDepth 20000 in
theorem ggX5_counts_X5_noPlace : GoodIn wsX5_counts wsX5_noPlace := goodIn_r _ [14, 15, 16, 17, 13, 18, 79, 80, 81, 82, 83, 84, 85, 86, 87, 88, 89, 90, 91, 92, 93, 94, 95, 96, 97] (by decide +kernel) (by decide +kernel)
set_option maxRecDepth 20000 in
theorem gX5_counts_X5_noPlace : GoodIn wsX5_counts (wsV RX5 84 RX5 yX5_noPlace wsX5_noPlace) := goodIn_app (goodIn_of _ (by decide +kernel)) ggX5_counts_X5_noPlace
set_option maxRecDepth 20000 in
theorem ggX5_counts_X5_throwsIf : GoodIn wsX5_counts wsX5_throwsIf := goodIn_r _ [22, 1, 79, 80, 81, 82, 83, 84, 85, 86, 87, 88, 89, 90, 91, 92, 93, 94, 95, 96, 97] (by decide +kernel) (by decide +kernel)
set_option maxRecDepth 20000 in
theorem gX5_counts_X5_throwsIf : GoodIn wsX5_counts (wsV RX5 80 RX5 yX5_throwsIf wsX5_throwsIf) := goodIn_app (goodIn_of _ (by decide +kernel)) ggX5_counts_X5_throwsIf
set_option maxRecDepth 20000 in
theorem ggX5_counts_X5_in : GoodIn wsX5_counts wsX5_in := goodIn_r _ [18] (by decide +kernel) (by decide +kernel)
set_option maxRecDepth 20000 in
theorem gX5_counts_X5_in : GoodIn wsX5_counts (va_wsS RX5 66 yX5_in wsX5_in) := goodIn_app (goodIn_of _ (by decide +kernel)) ggX5_counts_X5_in
set_option maxRecDepth 20000 in
theorem ggX5_counts_X5_plays : GoodIn wsX5_counts wsX5_plays := goodIn_r _ [26, 27, 28, 29, 5, 30, 31, 32, 33, 34, 35, 9, 36, 37, 38, 39, 40, 3, 7, 41, 15, 42, 43, 44, 45, 46, 13, 47, 48, 49, 50, 51, 52, 53, 54, 55, 56, 57, 58, 59, 60, 61, 62, 63, 64, 79, 80, 81, 82, 83, 84, 85, 86, 87, 88, 89, 90, 91, 92, 93, 94, 95, 96, 97] (by decide +kernel) (by decide +kernel)
set_option maxRecDepth 20000 in
theorem gX5_counts_X5_plays : GoodIn wsX5_counts (wsV RX5 119 RX5 yX5_plays wsX5_plays) := goodIn_app (goodIn_of _ (by decide +kernel)) ggX5_counts_X5_plays
set_option maxRecDepth 20000 in
theorem ggX5_counts_X5_isStep : GoodIn wsX5_counts wsX5_isStep := goodIn_r _ [68, 29, 39, 79, 80, 81, 82, 83, 84, 85, 86, 87, 88, 89, 90, 91, 92, 93, 94, 95, 96, 97] (by decide +kernel) (by decide +kernel)
set_option maxRecDepth 20000 in
theorem gX5_counts_X5_isStep : GoodIn wsX5_counts (wsV RX5 123 RX5 yX5_isStep wsX5_isStep) := goodIn_app (goodIn_of _ (by decide +kernel)) ggX5_counts_X5_isStep
set_option maxRecDepth 20000 in
theorem ggX5_counts_X5_seenCame : GoodIn wsX5_counts wsX5_seenCame := goodIn_r _ [72, 30, 4, 8, 40, 3, 79, 80, 81, 82, 83, 84, 85, 86, 87, 88, 89, 90, 91, 92, 93, 94, 95, 96, 97] (by decide +kernel) (by decide +kernel)
set_option maxRecDepth 20000 in
theorem gX5_counts_X5_seenCame : GoodIn wsX5_counts (wsV RX5 130 RX5 yX5_seenCame wsX5_seenCame) := goodIn_app (goodIn_of _ (by decide +kernel)) ggX5_counts_X5_seenCame
set_option maxRecDepth 20000 in
theorem ggX5_counts_X5_common : GoodIn wsX5_counts wsX5_common := goodIn_r _ [75, 32, 33, 34, 35, 36, 37, 38, 76, 77, 78] (by decide +kernel) (by decide +kernel)
set_option maxRecDepth 20000 in
theorem gX5_counts_X5_common : GoodIn wsX5_counts (va_wsS RX5 142 yX5_common wsX5_common) := goodIn_app (goodIn_of _ (by decide +kernel)) ggX5_counts_X5_common
set_option maxRecDepth 20000 in
theorem ggX5_totalWith_X5_plays : GoodIn wsX5_totalWith wsX5_plays := goodIn_r _ [9, 10, 11, 1, 12, 4, 13, 14, 15, 16, 17, 2, 18, 19, 20, 3, 21, 22, 23, 24, 25, 26, 27, 28, 29, 30, 8, 31, 32, 33, 34, 35, 36, 37, 38, 39, 40, 41, 42, 43, 44, 45, 46, 47, 48, 49, 50, 51, 52, 53, 54, 55, 56, 57, 58, 59, 60, 61, 62, 63, 64, 65, 66, 67] (by decide +kernel) (by decide +kernel)
set_option maxRecDepth 20000 in
theorem gX5_totalWith_X5_plays : GoodIn wsX5_totalWith (wsV RX5 119 RX5 yX5_plays wsX5_plays) := goodIn_app (goodIn_of _ (by decide +kernel)) ggX5_totalWith_X5_plays
set_option maxRecDepth 20000 in
theorem ggX5_total_X5_totalWith : GoodIn wsX5_total wsX5_totalWith := goodIn_r _ [6, 7, 8, 9, 10, 11, 12, 13, 5, 14, 15, 16, 17, 18, 19, 20, 21, 22, 23, 24, 25, 26, 27, 28, 29, 30, 31, 32, 33, 34, 35, 36, 37, 38, 39, 40, 41, 42, 43, 44, 45, 46, 47, 48, 49, 50, 51, 52, 53, 54, 55, 56, 57, 58, 59, 60, 61, 62, 63, 64, 65, 66, 67, 68, 69, 70, 71, 72] (by decide +kernel) (by decide +kernel)
set_option maxRecDepth 20000 in
theorem gX5_total_X5_totalWith : GoodIn wsX5_total (wsV RX5 146 RX5 yX5_totalWith wsX5_totalWith) := goodIn_app (goodIn_of _ (by decide +kernel)) ggX5_total_X5_totalWith
set_option maxRecDepth 20000 in
theorem ggX5_saved_X5_noPlace : GoodIn wsX5_saved wsX5_noPlace := goodIn_r _ [6, 7, 8, 9, 5, 10, 65, 66, 67, 68, 69, 70, 71, 72, 73, 74, 75, 76, 77, 78, 79, 80, 81, 82, 83] (by decide +kernel) (by decide +kernel)
set_option maxRecDepth 20000 in
theorem gX5_saved_X5_noPlace : GoodIn wsX5_saved (wsV RX5 84 RX5 yX5_noPlace wsX5_noPlace) := goodIn_app (goodIn_of _ (by decide +kernel)) ggX5_saved_X5_noPlace
set_option maxRecDepth 20000 in
theorem ggX5_saved_X5_throwsIf : GoodIn wsX5_saved wsX5_throwsIf := goodIn_r _ [14, 1, 65, 66, 67, 68, 69, 70, 71, 72, 73, 74, 75, 76, 77, 78, 79, 80, 81, 82, 83] (by decide +kernel) (by decide +kernel)
set_option maxRecDepth 20000 in
theorem gX5_saved_X5_throwsIf : GoodIn wsX5_saved (wsV RX5 80 RX5 yX5_throwsIf wsX5_throwsIf) := goodIn_app (goodIn_of _ (by decide +kernel)) ggX5_saved_X5_throwsIf
set_option maxRecDepth 20000 in
theorem ggX5_saved_X5_totalWith : GoodIn wsX5_saved wsX5_totalWith := goodIn_r _ [18, 19, 20, 21, 22, 23, 24, 25, 5, 26, 27, 28, 29, 30, 31, 32, 33, 34, 35, 36, 37, 38, 39, 40, 41, 7, 42, 43, 44, 45, 46, 47, 48, 49, 50, 51, 52, 53, 54, 55, 56, 57, 58, 59, 60, 61, 62, 63, 64, 65, 66, 67, 68, 69, 70, 71, 72, 73, 74, 75, 76, 77, 78, 79, 80, 81, 82, 83] (by decide +kernel) (by decide +kernel)
set_option maxRecDepth 20000 in
theorem gX5_saved_X5_totalWith : GoodIn wsX5_saved (wsV RX5 146 RX5 yX5_totalWith wsX5_totalWith) := goodIn_app (goodIn_of _ (by decide +kernel)) ggX5_saved_X5_totalWith
set_option maxRecDepth 20000 in
theorem ggX5_narrow_X5_totalWith : GoodIn wsX5_narrow wsX5_totalWith := goodIn_r _ [7, 8, 9, 10, 11, 12, 13, 14, 6, 15, 16, 17, 18, 19, 20, 21, 22, 23, 24, 25, 26, 27, 28, 29, 30, 2, 31, 32, 33, 34, 35, 36, 37, 38, 39, 40, 41, 42, 43, 44, 45, 46, 47, 48, 49, 50, 51, 52, 53, 54, 55, 56, 57, 58, 59, 60, 61, 62, 63, 64, 65, 66, 67, 68, 69, 70, 71, 72] (by decide +kernel) (by decide +kernel)
set_option maxRecDepth 20000 in
theorem gX5_narrow_X5_totalWith : GoodIn wsX5_narrow (wsV RX5 146 RX5 yX5_totalWith wsX5_totalWith) := goodIn_app (goodIn_of _ (by decide +kernel)) ggX5_narrow_X5_totalWith
set_option maxRecDepth 20000 in
theorem ggX5_alone_X5_noAsk : GoodIn wsX5_alone wsX5_noAsk := goodIn_r _ [11, 12, 13, 14, 10, 15, 20, 21, 22, 23, 24, 25, 26, 27, 28, 29, 30, 31, 32, 33, 34, 35, 36, 37, 38] (by decide +kernel) (by decide +kernel)
set_option maxRecDepth 20000 in
theorem gX5_alone_X5_noAsk : GoodIn wsX5_alone (wsV RX5 73 RX5 yX5_noAsk wsX5_noAsk) := goodIn_app (goodIn_of _ (by decide +kernel)) ggX5_alone_X5_noAsk
set_option maxRecDepth 20000 in
theorem ggX5_alone_X5_throwsIf : GoodIn wsX5_alone wsX5_throwsIf := goodIn_r _ [19, 1, 20, 21, 22, 23, 24, 25, 26, 27, 28, 29, 30, 31, 32, 33, 34, 35, 36, 37, 38] (by decide +kernel) (by decide +kernel)
set_option maxRecDepth 20000 in
theorem gX5_alone_X5_throwsIf : GoodIn wsX5_alone (wsV RX5 80 RX5 yX5_throwsIf wsX5_throwsIf) := goodIn_app (goodIn_of _ (by decide +kernel)) ggX5_alone_X5_throwsIf
set_option maxRecDepth 20000 in
theorem ggX5_count_X5_stepsOfAll : GoodIn wsX5_count wsX5_stepsOfAll := goodIn_r _ [9, 3, 10, 59, 60, 61, 62, 63, 64, 65, 66, 67, 68, 69, 70, 71, 72, 73, 74, 75, 76, 77] (by decide +kernel) (by decide +kernel)
set_option maxRecDepth 20000 in
theorem gX5_count_X5_stepsOfAll : GoodIn wsX5_count (wsV RX5 126 RX5 yX5_stepsOfAll wsX5_stepsOfAll) := goodIn_app (goodIn_of _ (by decide +kernel)) ggX5_count_X5_stepsOfAll
set_option maxRecDepth 20000 in
theorem ggX5_count_X5_isStep : GoodIn wsX5_count wsX5_isStep := goodIn_r _ [14, 3, 10, 59, 60, 61, 62, 63, 64, 65, 66, 67, 68, 69, 70, 71, 72, 73, 74, 75, 76, 77] (by decide +kernel) (by decide +kernel)
set_option maxRecDepth 20000 in
theorem gX5_count_X5_isStep : GoodIn wsX5_count (wsV RX5 123 RX5 yX5_isStep wsX5_isStep) := goodIn_app (goodIn_of _ (by decide +kernel)) ggX5_count_X5_isStep
set_option maxRecDepth 20000 in
theorem ggX5_count_X5_plays : GoodIn wsX5_count wsX5_plays := goodIn_r _ [18, 19, 20, 3, 21, 22, 23, 24, 25, 26, 27, 28, 29, 30, 31, 10, 32, 33, 34, 35, 2, 36, 37, 38, 39, 40, 8, 41, 42, 43, 44, 45, 46, 47, 48, 49, 50, 51, 52, 53, 54, 55, 56, 57, 58, 59, 60, 61, 62, 63, 64, 65, 66, 67, 68, 69, 70, 71, 72, 73, 74, 75, 76, 77] (by decide +kernel) (by decide +kernel)
set_option maxRecDepth 20000 in
theorem gX5_count_X5_plays : GoodIn wsX5_count (wsV RX5 119 RX5 yX5_plays wsX5_plays) := goodIn_app (goodIn_of _ (by decide +kernel)) ggX5_count_X5_plays
