set_option maxRecDepth 20000 in
theorem ggL_law_X6_toggle : GoodIn wsL_law wsX6_toggle := goodIn_r _ [432, 16, 25, 433, 434, 435, 15, 436, 38, 357, 358, 145, 359, 437, 438, 439, 440, 390, 391, 577, 578, 579, 580, 599, 600, 601, 602, 603, 604, 605, 606, 607, 608, 609, 610, 611, 612] (by decide +kernel) (by decide +kernel)
set_option maxRecDepth 20000 in
theorem gL_law_X6_toggle : GoodIn wsL_law (wsV RL 47 RX6 yX6_toggle wsX6_toggle) := goodIn_app (goodIn_of _ (by decide +kernel)) ggL_law_X6_toggle
set_option maxRecDepth 20000 in
theorem ggL_law_X7_toggle : GoodIn wsL_law wsX7_toggle := goodIn_r _ [444, 239, 425, 426, 427, 5, 428, 223, 421, 422, 423, 424, 222, 310, 311, 312, 313, 232, 216, 224, 401, 402, 403, 404, 218, 217, 219, 328, 329, 330, 331, 405, 406, 407, 581, 582, 583, 584, 585, 586, 587, 588, 589, 590, 591, 592, 593, 594, 595, 596, 597, 598] (by decide +kernel) (by decide +kernel)
set_option maxRecDepth 20000 in
theorem gL_law_X7_toggle : GoodIn wsL_law (wsV RL 50 RX7 yX7_toggle wsX7_toggle) := goodIn_app (goodIn_of _ (by decide +kernel)) ggL_law_X7_toggle
set_option maxRecDepth 20000 in
theorem ggL_law_X6_here : GoodIn wsL_law wsX6_here := goodIn_r _ [448, 25, 396, 358, 145, 359, 577, 578, 579, 580] (by decide +kernel) (by decide +kernel)
set_option maxRecDepth 20000 in
theorem gL_law_X6_here : GoodIn wsL_law (wsV RL 51 RX6 yX6_here wsX6_here) := goodIn_app (goodIn_of _ (by decide +kernel)) ggL_law_X6_here
set_option maxRecDepth 20000 in
theorem ggL_law_X7_here : GoodIn wsL_law wsX7_here := goodIn_r _ [452, 239, 581, 582, 583, 584, 585, 586, 587, 588, 589, 590, 591, 592, 593, 594, 595, 596, 597, 598] (by decide +kernel) (by decide +kernel)
set_option maxRecDepth 20000 in
theorem gL_law_X7_here : GoodIn wsL_law (wsV RL 54 RX7 yX7_here wsX7_here) := goodIn_app (goodIn_of _ (by decide +kernel)) ggL_law_X7_here
