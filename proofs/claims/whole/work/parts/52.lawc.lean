set_option maxRecDepth 20000 in
theorem ggL_law_X4_init : GoodIn wsL_law wsX4_init := goodIn_r _ [9, 10, 11, 12, 13, 14, 15, 16, 17, 18, 19, 20, 21, 22, 23, 24, 25, 26, 27, 28, 29, 30, 31, 32, 33, 34, 35, 36, 37, 38, 39, 40, 41, 42, 43, 44, 45, 46, 47, 48, 49, 50, 51, 52, 53, 54, 55, 56, 57, 58, 59, 60, 61, 62, 63, 64, 65, 66, 67, 68, 6, 69, 70, 71, 72, 73, 74, 75, 76, 77, 78, 79, 80, 81, 615, 616, 617, 618, 619, 620, 621, 622, 623, 624, 625, 590, 591, 592, 593, 594, 595, 626, 627, 628, 629, 630, 631, 632, 633, 634, 635, 636, 637, 638, 639, 640, 641, 642, 643] (by decide +kernel) (by decide +kernel)
set_option maxRecDepth 20000 in
theorem gL_law_X4_init : GoodIn wsL_law (wsX4_init) := ggL_law_X4_init
set_option maxRecDepth 20000 in
theorem ggL_law_X5_init : GoodIn wsL_law wsX5_init := goodIn_r _ [84, 85, 11, 12, 38, 86, 87, 88, 89, 90, 91, 92, 93, 55, 94, 95, 96, 97, 98, 99, 100, 101, 596, 597, 598, 599, 600, 601, 602, 603, 604, 605, 606, 607, 608, 609, 610, 611, 612, 613, 614] (by decide +kernel) (by decide +kernel)
set_option maxRecDepth 20000 in
theorem gL_law_X5_init : GoodIn wsL_law (wsX5_init) := ggL_law_X5_init
set_option maxRecDepth 20000 in
theorem ggL_law_L_place : GoodIn wsL_law wsL_place := goodIn_ca (goodIn_ca (goodIn_r _ [105, 106, 107, 108, 109, 110, 2, 111, 112, 113, 16, 114, 30, 115, 116, 117, 118, 119, 120, 121, 122, 123, 124, 125, 15, 126, 39, 40, 41, 590, 591, 592, 593, 594, 595, 615, 616, 617, 618, 619, 620, 621, 622, 623, 624, 625] (by decide +kernel) (by decide +kernel)) (goodIn_sub (fun _ h => List.mem_append_left _ (List.mem_append_left _ (List.mem_append_left _ (List.mem_append_right _ h)))) (by decide +kernel))) (goodIn_sub (fun _ h => List.mem_append_left _ (List.mem_append_left _ (List.mem_append_right _ h))) (by decide +kernel))
set_option maxRecDepth 20000 in
theorem gL_law_L_place : GoodIn wsL_law (va_wsS RL 65 yL_place wsL_place) := goodIn_app (goodIn_of _ (by decide +kernel)) ggL_law_L_place
set_option maxRecDepth 20000 in
theorem ggL_law_X5_place : GoodIn wsL_law wsX5_place := goodIn_r _ [130, 131, 132, 86, 87, 88, 133, 134, 5, 135, 136, 137, 138, 139, 140, 141, 142, 596, 597, 598, 599, 600, 601, 602, 603, 604, 605, 606, 607, 608, 609, 610, 611, 612, 613, 614] (by decide +kernel) (by decide +kernel)
set_option maxRecDepth 20000 in
theorem gL_law_X5_place : GoodIn wsL_law (wsV RL 70 RX5 yX5_place wsX5_place) := goodIn_app (goodIn_of _ (by decide +kernel)) ggL_law_X5_place
set_option maxRecDepth 20000 in
theorem ggL_law_X5_thrown : GoodIn wsL_law wsX5_thrown := goodIn_r _ [146, 131, 596, 597, 598, 599, 600, 601, 602, 603, 604, 605, 606, 607, 608, 609, 610, 611, 612, 613, 614] (by decide +kernel) (by decide +kernel)
set_option maxRecDepth 20000 in
theorem gL_law_X5_thrown : GoodIn wsL_law (wsV RL 71 RX5 yX5_thrown wsX5_thrown) := goodIn_app (goodIn_of _ (by decide +kernel)) ggL_law_X5_thrown
set_option maxRecDepth 20000 in
theorem ggL_law_L_change : GoodIn wsL_law wsL_change := goodIn_ca (goodIn_ca (goodIn_r _ [149, 150, 106, 151, 152, 153, 2, 154, 16, 30, 155, 156, 157, 158, 159, 160, 114, 115, 116, 117, 118, 119, 120, 121, 122, 123, 124, 125, 15, 126, 39, 40, 41, 590, 591, 592, 593, 594, 595, 615, 616, 617, 618, 619, 620, 621, 622, 623, 624, 625] (by decide +kernel) (by decide +kernel)) (goodIn_sub (fun _ h => List.mem_append_left _ (List.mem_append_right _ h)) (by decide +kernel))) (goodIn_sub (fun _ h => List.mem_append_left _ (List.mem_append_left _ (List.mem_append_right _ h))) (by decide +kernel))
set_option maxRecDepth 20000 in
theorem gL_law_L_change : GoodIn wsL_law (va_wsS RL 75 yL_change wsL_change) := goodIn_app (goodIn_of _ (by decide +kernel)) ggL_law_L_change
set_option maxRecDepth 20000 in
theorem ggL_law_X5_change : GoodIn wsL_law wsX5_change := goodIn_r _ [164, 131, 86, 87, 88, 165, 166, 167, 5, 168, 132, 136, 137, 138, 139, 140, 141, 142, 133, 134, 135, 596, 597, 598, 599, 600, 601, 602, 603, 604, 605, 606, 607, 608, 609, 610, 611, 612, 613, 614] (by decide +kernel) (by decide +kernel)
set_option maxRecDepth 20000 in
theorem gL_law_X5_change : GoodIn wsL_law (wsV RL 78 RX5 yX5_change wsX5_change) := goodIn_app (goodIn_of _ (by decide +kernel)) ggL_law_X5_change
set_option maxRecDepth 20000 in
theorem ggL_law_L_ask : GoodIn wsL_law wsL_ask := goodIn_ca (goodIn_ca (goodIn_ca (goodIn_r _ [171, 150, 106, 107, 172, 173, 174, 2, 175, 112, 113, 176, 16, 177, 178, 179, 30, 155, 156, 157, 158, 159, 160, 114, 118, 119, 120, 121, 122, 180, 181, 182, 15, 183, 44, 45, 46, 37, 184, 185, 186, 187, 590, 591, 592, 593, 594, 595, 615, 616, 617, 618, 619, 620, 621, 622, 623, 624, 625] (by decide +kernel) (by decide +kernel)) (goodIn_sub (fun _ h => List.mem_append_left _ (List.mem_append_left _ (List.mem_append_left _ (List.mem_append_right _ h)))) (by decide +kernel))) (goodIn_sub (fun _ h => List.mem_append_left _ (List.mem_append_right _ h)) (by decide +kernel))) (goodIn_sub (fun _ h => List.mem_append_left _ (List.mem_append_left _ (List.mem_append_right _ h))) (by decide +kernel))
set_option maxRecDepth 20000 in
theorem gL_law_L_ask : GoodIn wsL_law (va_wsS RL 79 yL_ask wsL_ask) := goodIn_app (goodIn_of _ (by decide +kernel)) ggL_law_L_ask
set_option maxRecDepth 20000 in
theorem ggL_law_X5_ask : GoodIn wsL_law wsX5_ask := goodIn_r _ [191, 131, 192, 193, 89, 90, 92, 93, 91, 165, 166, 167, 5, 168, 132, 136, 137, 138, 139, 140, 141, 142, 596, 597, 598, 599, 600, 601, 602, 603, 604, 605, 606, 607, 608, 609, 610, 611, 612, 613, 614] (by decide +kernel) (by decide +kernel)
set_option maxRecDepth 20000 in
theorem gL_law_X5_ask : GoodIn wsL_law (wsV RL 82 RX5 yX5_ask wsX5_ask) := goodIn_app (goodIn_of _ (by decide +kernel)) ggL_law_X5_ask
set_option maxRecDepth 20000 in
theorem ggL_law_L_step : GoodIn wsL_law wsL_step := goodIn_ca (goodIn_ca (goodIn_r _ [196, 150, 106, 197, 198, 199, 2, 200, 16, 201, 30, 202, 203, 204, 205, 159, 160, 177, 155, 156, 157, 158, 114, 118, 119, 120, 121, 122, 180, 181, 182, 15, 183, 44, 45, 46, 37, 184, 185, 186, 187, 590, 591, 592, 593, 594, 595, 615, 616, 617, 618, 619, 620, 621, 622, 623, 624, 625] (by decide +kernel) (by decide +kernel)) (goodIn_sub (fun _ h => List.mem_append_left _ (List.mem_append_right _ h)) (by decide +kernel))) (goodIn_sub (fun _ h => List.mem_append_left _ (List.mem_append_left _ (List.mem_append_right _ h))) (by decide +kernel))
set_option maxRecDepth 20000 in
theorem gL_law_L_step : GoodIn wsL_law (va_wsS RL 83 yL_step wsL_step) := goodIn_app (goodIn_of _ (by decide +kernel)) ggL_law_L_step
set_option maxRecDepth 20000 in
theorem ggL_law_X5_step : GoodIn wsL_law wsX5_step := goodIn_r _ [209, 131, 91, 92, 93, 210, 211, 212, 5, 213, 193, 136, 137, 138, 165, 166, 167, 168, 132, 139, 140, 141, 142, 596, 597, 598, 599, 600, 601, 602, 603, 604, 605, 606, 607, 608, 609, 610, 611, 612, 613, 614] (by decide +kernel) (by decide +kernel)
set_option maxRecDepth 20000 in
theorem gL_law_X5_step : GoodIn wsL_law (wsV RL 85 RX5 yX5_step wsX5_step) := goodIn_app (goodIn_of _ (by decide +kernel)) ggL_law_X5_step
set_option maxRecDepth 20000 in
theorem ggL_law_L_seen : GoodIn wsL_law wsL_seen := goodIn_ca (goodIn_ca (goodIn_r _ [216, 150, 106, 217, 218, 219, 2, 220, 121, 122, 221, 20, 222, 223, 224, 225, 159, 160, 16, 201, 202, 203, 204, 205, 177, 226, 185, 186, 15, 187, 118, 119, 120, 227, 228, 229, 19, 230, 56, 57, 58, 590, 591, 592, 593, 594, 595, 615, 616, 617, 618, 619, 620, 621, 622, 623, 624, 625, 626, 627, 628] (by decide +kernel) (by decide +kernel)) (goodIn_sub (fun _ h => List.mem_append_left _ (List.mem_append_left _ (List.mem_append_right _ h))) (by decide +kernel))) (goodIn_sub (fun _ h => List.mem_append_left _ (List.mem_append_right _ h)) (by decide +kernel))
set_option maxRecDepth 20000 in
theorem gL_law_L_seen : GoodIn wsL_law (va_wsS RL 86 yL_seen wsL_seen) := goodIn_app (goodIn_of _ (by decide +kernel)) ggL_law_L_seen
set_option maxRecDepth 20000 in
theorem ggL_law_X5_seen : GoodIn wsL_law wsX5_seen := goodIn_r _ [234, 131, 235, 94, 95, 96, 236, 237, 238, 5, 239, 91, 210, 211, 212, 213, 193, 136, 137, 138, 139, 140, 141, 142, 596, 597, 598, 599, 600, 601, 602, 603, 604, 605, 606, 607, 608, 609, 610, 611, 612, 613, 614] (by decide +kernel) (by decide +kernel)
set_option maxRecDepth 20000 in
theorem gL_law_X5_seen : GoodIn wsL_law (wsV RL 88 RX5 yX5_seen wsX5_seen) := goodIn_app (goodIn_of _ (by decide +kernel)) ggL_law_X5_seen
set_option maxRecDepth 20000 in
theorem ggL_law_L_unsee : GoodIn wsL_law wsL_unsee := goodIn_ca (goodIn_r _ [242, 150, 243, 244, 245, 2, 246, 20, 247, 222, 223, 224, 225, 159, 160, 16, 201, 202, 203, 204, 205, 177, 226, 185, 186, 15, 187, 590, 591, 592, 593, 594, 595, 626, 627, 628, 615, 616, 617, 618, 619, 620, 621, 622, 623, 624, 625] (by decide +kernel) (by decide +kernel)) (goodIn_sub (fun _ h => List.mem_append_left _ (List.mem_append_right _ h)) (by decide +kernel))
set_option maxRecDepth 20000 in
theorem gL_law_L_unsee : GoodIn wsL_law (va_wsS RL 89 yL_unsee wsL_unsee) := goodIn_app (goodIn_of _ (by decide +kernel)) ggL_law_L_unsee
set_option maxRecDepth 20000 in
theorem ggL_law_X5_unsee : GoodIn wsL_law wsX5_unsee := goodIn_r _ [251, 131, 94, 236, 237, 238, 5, 239, 91, 210, 211, 212, 213, 193, 136, 137, 138, 139, 140, 141, 142, 596, 597, 598, 599, 600, 601, 602, 603, 604, 605, 606, 607, 608, 609, 610, 611, 612, 613, 614] (by decide +kernel) (by decide +kernel)
set_option maxRecDepth 20000 in
theorem gL_law_X5_unsee : GoodIn wsL_law (wsV RL 92 RX5 yX5_unsee wsX5_unsee) := goodIn_app (goodIn_of _ (by decide +kernel)) ggL_law_X5_unsee
set_option maxRecDepth 20000 in
theorem ggL_law_L_played : GoodIn wsL_law wsL_played := goodIn_ca (goodIn_ca (goodIn_r _ [254, 150, 255, 256, 257, 258, 2, 259, 28, 260, 261, 262, 222, 223, 224, 225, 159, 160, 16, 201, 202, 203, 204, 205, 177, 226, 185, 186, 15, 187, 263, 264, 265, 266, 267, 268, 269, 270, 271, 30, 272, 273, 274, 27, 275, 276, 277, 278, 279, 280, 281, 80, 282, 81, 283, 77, 78, 79, 284, 285, 286, 287, 288, 289, 290, 291, 292, 293, 294, 295, 296, 297, 298, 299, 300, 301, 302, 303, 304, 305, 306, 307, 44, 184, 308, 309, 310, 311, 74, 312, 313, 314, 315, 75, 76, 316, 317, 318, 319, 320, 321, 322, 323, 324, 325, 590, 591, 592, 593, 594, 595, 636, 637, 638, 639, 640, 641, 642, 643, 615, 616, 617, 618, 619, 620, 621, 622, 623, 624, 625] (by decide +kernel) (by decide +kernel)) (goodIn_sub (fun _ h => List.mem_append_left _ (List.mem_append_right _ h)) (by decide +kernel))) (goodIn_sub (fun _ h => List.mem_append_right _ h) (by decide +kernel))
set_option maxRecDepth 20000 in
theorem gL_law_L_played : GoodIn wsL_law (va_wsS RL 93 yL_played wsL_played) := goodIn_app (goodIn_of _ (by decide +kernel)) ggL_law_L_played
set_option maxRecDepth 20000 in
theorem ggL_law_X5_played : GoodIn wsL_law wsX5_played := goodIn_r _ [329, 131, 97, 98, 99, 236, 237, 238, 5, 239, 91, 210, 211, 212, 213, 193, 136, 137, 138, 139, 140, 141, 142, 330, 331, 332, 333, 101, 93, 90, 334, 335, 291, 292, 293, 336, 337, 338, 88, 92, 100, 132, 86, 87, 339, 340, 341, 342, 343, 344, 345, 346, 347, 348, 349, 350, 351, 352, 353, 354, 355, 356, 357, 358, 89, 596, 597, 598, 599, 600, 601, 602, 603, 604, 605, 606, 607, 608, 609, 610, 611, 612, 613, 614] (by decide +kernel) (by decide +kernel)
set_option maxRecDepth 20000 in
theorem gL_law_X5_played : GoodIn wsL_law (wsV RL 95 RX5 yX5_played wsX5_played) := goodIn_app (goodIn_of _ (by decide +kernel)) ggL_law_X5_played
set_option maxRecDepth 20000 in
theorem ggL_law_X4_trace : GoodIn wsL_law wsX4_trace := goodIn_r _ [362, 16, 20, 28, 261, 262, 363, 268, 269, 270, 2, 271, 30, 272, 273, 274, 27, 275, 276, 277, 278, 279, 280, 281, 80, 282, 81, 283, 77, 78, 79, 284, 285, 185, 186, 15, 187, 286, 287, 288, 289, 290, 291, 292, 293, 294, 295, 296, 297, 298, 299, 300, 301, 302, 303, 304, 305, 306, 307, 44, 184, 308, 309, 310, 311, 74, 312, 313, 314, 315, 75, 76, 316, 317, 318, 319, 320, 321, 322, 323, 324, 325, 364, 365, 366, 367, 36, 368, 369, 370, 371, 45, 227, 228, 229, 19, 230, 56, 57, 58, 590, 591, 592, 593, 594, 595, 636, 637, 638, 639, 640, 641, 642, 643, 615, 616, 617, 618, 619, 620, 621, 622, 623, 624, 625, 626, 627, 628] (by decide +kernel) (by decide +kernel)
set_option maxRecDepth 20000 in
theorem gL_law_X4_trace : GoodIn wsL_law (wsV RL 96 RX4 yX4_trace wsX4_trace) := goodIn_app (goodIn_of _ (by decide +kernel)) ggL_law_X4_trace
set_option maxRecDepth 20000 in
theorem ggL_law_X5_trace : GoodIn wsL_law wsX5_trace := goodIn_r _ [375, 131, 94, 95, 98, 96, 99, 330, 331, 332, 5, 333, 101, 93, 193, 97, 90, 334, 335, 291, 292, 293, 336, 337, 338, 91, 88, 92, 100, 132, 86, 87, 339, 340, 341, 342, 343, 344, 345, 346, 347, 348, 349, 350, 351, 352, 353, 354, 355, 356, 357, 358, 89, 376, 377, 378, 379, 380, 381, 382, 383, 596, 597, 598, 599, 600, 601, 602, 603, 604, 605, 606, 607, 608, 609, 610, 611, 612, 613, 614] (by decide +kernel) (by decide +kernel)
set_option maxRecDepth 20000 in
theorem gL_law_X5_trace : GoodIn wsL_law (wsV RL 99 RX5 yX5_trace wsX5_trace) := goodIn_app (goodIn_of _ (by decide +kernel)) ggL_law_X5_trace
