set_option maxRecDepth 20000 in
theorem ggL_law_X7_make : GoodIn wsL_law wsX7_make := goodIn_r _ [230, 231, 232, 225, 217, 233, 234, 235, 236, 5, 237, 216, 218, 220, 221, 222, 223, 224, 238, 239, 240, 241, 242, 243, 244, 245, 246, 247, 248, 249, 250, 251, 252, 253, 254, 255, 256, 257, 219, 258, 259, 260, 261, 262, 263, 264, 265, 266, 267, 268, 269, 270, 271, 272, 273, 274, 275, 276, 277, 278, 279, 280, 281, 581, 582, 583, 584, 585, 586, 587, 588, 589, 590, 591, 592, 593, 594, 595, 596, 597, 598] (by decide +kernel) (by decide +kernel)
set_option maxRecDepth 20000 in
theorem gL_law_X7_make : GoodIn wsL_law (wsV RL 19 RX7 yX7_make wsX7_make) := goodIn_app (goodIn_of _ (by decide +kernel)) ggL_law_X7_make
set_option maxRecDepth 20000 in
theorem ggL_law_X6_room : GoodIn wsL_law wsX6_room := goodIn_r _ [292, 16, 293, 294, 295, 296, 297, 298, 299, 300, 301, 302, 303, 15, 304, 305, 577, 578, 579, 580, 599, 600, 601, 602, 603, 604, 605, 606, 607, 608, 609, 610, 611, 612] (by decide +kernel) (by decide +kernel)
set_option maxRecDepth 20000 in
theorem gL_law_X6_room : GoodIn wsL_law (wsV RL 20 RX6 yX6_room wsX6_room) := goodIn_app (goodIn_of _ (by decide +kernel)) ggL_law_X6_room
set_option maxRecDepth 20000 in
theorem ggL_law_X7_room : GoodIn wsL_law wsX7_room := goodIn_r _ [309, 232, 216, 217, 218, 220, 221, 222, 223, 310, 311, 312, 5, 313, 224, 581, 582, 583, 584, 585, 586, 587, 588, 589, 590, 591, 592, 593, 594, 595, 596, 597, 598] (by decide +kernel) (by decide +kernel)
set_option maxRecDepth 20000 in
theorem gL_law_X7_room : GoodIn wsL_law (wsV RL 24 RX7 yX7_room wsX7_room) := goodIn_app (goodIn_of _ (by decide +kernel)) ggL_law_X7_room
set_option maxRecDepth 20000 in
theorem ggL_law_X6_behind : GoodIn wsL_law wsX6_behind := goodIn_r _ [317, 16, 318, 319, 320, 321, 15, 322, 39, 323, 302, 303, 304, 305, 577, 578, 579, 580, 599, 600, 601, 602, 603, 604, 605, 606, 607, 608, 609, 610, 611, 612] (by decide +kernel) (by decide +kernel)
set_option maxRecDepth 20000 in
theorem gL_law_X6_behind : GoodIn wsL_law (wsV RL 25 RX6 yX6_behind wsX6_behind) := goodIn_app (goodIn_of _ (by decide +kernel)) ggL_law_X6_behind
set_option maxRecDepth 20000 in
theorem ggL_law_X7_behind : GoodIn wsL_law wsX7_behind := goodIn_r _ [327, 232, 310, 311, 312, 5, 313, 216, 224, 328, 329, 330, 331, 581, 582, 583, 584, 585, 586, 587, 588, 589, 590, 591, 592, 593, 594, 595, 596, 597, 598] (by decide +kernel) (by decide +kernel)
set_option maxRecDepth 20000 in
theorem gL_law_X7_behind : GoodIn wsL_law (wsV RL 28 RX7 yX7_behind wsX7_behind) := goodIn_app (goodIn_of _ (by decide +kernel)) ggL_law_X7_behind
