set_option maxRecDepth 20000 in
theorem ggL_law_X6_goal : GoodIn wsL_law wsX6_goal := goodIn_r _ [335, 16, 336, 577, 578, 579, 580, 599, 600, 601, 602, 603, 604, 605, 606, 607, 608, 609, 610, 611, 612] (by decide +kernel) (by decide +kernel)
set_option maxRecDepth 20000 in
theorem gL_law_X6_goal : GoodIn wsL_law (wsV RL 29 RX6 yX6_goal wsX6_goal) := goodIn_app (goodIn_of _ (by decide +kernel)) ggL_law_X6_goal
set_option maxRecDepth 20000 in
theorem ggL_law_X7_goal : GoodIn wsL_law wsX7_goal := goodIn_r _ [340, 233, 581, 582, 583, 584, 585, 586, 587, 588, 589, 590, 591, 592, 593, 594, 595, 596, 597, 598] (by decide +kernel) (by decide +kernel)
set_option maxRecDepth 20000 in
theorem gL_law_X7_goal : GoodIn wsL_law (wsV RL 33 RX7 yX7_goal wsX7_goal) := goodIn_app (goodIn_of _ (by decide +kernel)) ggL_law_X7_goal
set_option maxRecDepth 20000 in
theorem ggL_law_X6_restart : GoodIn wsL_law wsX6_restart := goodIn_r _ [344, 25, 577, 578, 579, 580] (by decide +kernel) (by decide +kernel)
set_option maxRecDepth 20000 in
theorem gL_law_X6_restart : GoodIn wsL_law (wsV RL 34 RX6 yX6_restart wsX6_restart) := goodIn_app (goodIn_of _ (by decide +kernel)) ggL_law_X6_restart
set_option maxRecDepth 20000 in
theorem ggL_law_X7_restart : GoodIn wsL_law wsX7_restart := goodIn_r _ [348, 239, 581, 582, 583, 584, 585, 586, 587, 588, 589, 590, 591, 592, 593, 594, 595, 596, 597, 598] (by decide +kernel) (by decide +kernel)
set_option maxRecDepth 20000 in
theorem gL_law_X7_restart : GoodIn wsL_law (wsV RL 37 RX7 yX7_restart wsX7_restart) := goodIn_app (goodIn_of _ (by decide +kernel)) ggL_law_X7_restart
set_option maxRecDepth 20000 in
theorem ggL_law_X6_walk : GoodIn wsL_law wsX6_walk := goodIn_r _ [352, 16, 25, 353, 354, 355, 15, 356, 41, 32, 33, 357, 358, 145, 359, 360, 320, 321, 322, 39, 323, 302, 303, 304, 305, 361, 362, 363, 364, 30, 365, 366, 367, 368, 31, 369, 370, 371, 372, 144, 146, 373, 374, 375, 376, 377, 378, 379, 380, 381, 382, 383, 384, 385, 386, 387, 388, 389, 390, 391, 392, 393, 394, 395, 396, 577, 578, 579, 580, 599, 600, 601, 602, 603, 604, 605, 606, 607, 608, 609, 610, 611, 612] (by decide +kernel) (by decide +kernel)
set_option maxRecDepth 20000 in
theorem gL_law_X6_walk : GoodIn wsL_law (wsV RL 38 RX6 yX6_walk wsX6_walk) := goodIn_app (goodIn_of _ (by decide +kernel)) ggL_law_X6_walk
set_option maxRecDepth 20000 in
theorem ggL_law_X7_walk : GoodIn wsL_law wsX7_walk := goodIn_r _ [400, 239, 310, 311, 312, 5, 313, 232, 216, 224, 401, 402, 403, 404, 218, 217, 219, 328, 329, 330, 331, 405, 406, 407, 581, 582, 583, 584, 585, 586, 587, 588, 589, 590, 591, 592, 593, 594, 595, 596, 597, 598] (by decide +kernel) (by decide +kernel)
set_option maxRecDepth 20000 in
theorem gL_law_X7_walk : GoodIn wsL_law (wsV RL 42 RX7 yX7_walk wsX7_walk) := goodIn_app (goodIn_of _ (by decide +kernel)) ggL_law_X7_walk
set_option maxRecDepth 20000 in
theorem ggL_law_X6_take : GoodIn wsL_law wsX6_take := goodIn_r _ [411, 16, 25, 412, 413, 414, 15, 415, 36, 357, 358, 145, 359, 416, 383, 384, 385, 386, 387, 388, 577, 578, 579, 580, 599, 600, 601, 602, 603, 604, 605, 606, 607, 608, 609, 610, 611, 612] (by decide +kernel) (by decide +kernel)
set_option maxRecDepth 20000 in
theorem gL_law_X6_take : GoodIn wsL_law (wsV RL 43 RX6 yX6_take wsX6_take) := goodIn_app (goodIn_of _ (by decide +kernel)) ggL_law_X6_take
set_option maxRecDepth 20000 in
theorem ggL_law_X7_take : GoodIn wsL_law wsX7_take := goodIn_r _ [420, 239, 421, 422, 423, 5, 424, 222, 425, 426, 427, 428, 223, 310, 311, 312, 313, 232, 216, 224, 401, 402, 403, 404, 218, 217, 219, 328, 329, 330, 331, 405, 406, 407, 581, 582, 583, 584, 585, 586, 587, 588, 589, 590, 591, 592, 593, 594, 595, 596, 597, 598] (by decide +kernel) (by decide +kernel)
set_option maxRecDepth 20000 in
theorem gL_law_X7_take : GoodIn wsL_law (wsV RL 46 RX7 yX7_take wsX7_take) := goodIn_app (goodIn_of _ (by decide +kernel)) ggL_law_X7_take
