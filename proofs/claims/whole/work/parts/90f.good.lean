set_option maxRecDepth 20000 in
theorem ggL_law_X6_having : GoodIn wsL_law wsX6_having := goodIn_r _ [456, 25, 457, 458, 145, 459, 460, 380, 381, 382, 383, 384, 385, 386, 387, 388, 440, 390, 391, 577, 578, 579, 580] (by decide +kernel) (by decide +kernel)
set_option maxRecDepth 20000 in
theorem gL_law_X6_having : GoodIn wsL_law (wsV RL 55 RX6 yX6_having wsX6_having) := goodIn_app (goodIn_of _ (by decide +kernel)) ggL_law_X6_having
set_option maxRecDepth 20000 in
theorem ggL_law_X7_having : GoodIn wsL_law wsX7_having := goodIn_r _ [464, 239, 405, 406, 5, 407, 581, 582, 583, 584, 585, 586, 587, 588, 589, 590, 591, 592, 593, 594, 595, 596, 597, 598] (by decide +kernel) (by decide +kernel)
set_option maxRecDepth 20000 in
theorem gL_law_X7_having : GoodIn wsL_law (wsV RL 58 RX7 yX7_having wsX7_having) := goodIn_app (goodIn_of _ (by decide +kernel)) ggL_law_X7_having
set_option maxRecDepth 20000 in
theorem ggL_law_X6_steps : GoodIn wsL_law wsX6_steps := goodIn_r _ [468, 24, 25, 469, 470, 471, 472, 23, 473, 474, 65, 475, 476, 477, 478, 63, 66, 479, 480, 481, 62, 482, 73, 483, 484, 96, 485, 486, 487, 488, 489, 490, 491, 492, 493, 68, 494, 495, 358, 145, 359, 496, 497, 498, 499, 500, 501, 354, 355, 15, 356, 41, 32, 33, 357, 360, 320, 321, 322, 39, 323, 302, 303, 304, 305, 361, 362, 363, 364, 30, 365, 366, 367, 368, 31, 369, 370, 371, 372, 144, 146, 373, 374, 375, 376, 377, 378, 379, 380, 381, 382, 383, 384, 385, 386, 387, 388, 389, 390, 391, 392, 393, 394, 395, 502, 503, 504, 505, 67, 506, 507, 508, 509, 510, 413, 414, 415, 36, 511, 434, 435, 436, 38, 437, 438, 439, 577, 578, 579, 580, 616, 617, 618, 619, 620, 621, 622, 626, 599, 600, 601, 602, 603, 604, 605, 606, 607, 608, 609, 610, 611, 612] (by decide +kernel) (by decide +kernel)
set_option maxRecDepth 20000 in
theorem gL_law_X6_steps : GoodIn wsL_law (wsV RL 59 RX6 yX6_steps wsX6_steps) := goodIn_app (goodIn_of _ (by decide +kernel)) ggL_law_X6_steps
set_option maxRecDepth 20000 in
theorem ggL_law_X7_steps : GoodIn wsL_law wsX7_steps := goodIn_r _ [515, 239, 516, 517, 518, 5, 519, 226, 520, 521, 233, 522, 523, 524, 525, 310, 311, 312, 313, 232, 216, 224, 425, 426, 427, 428, 223, 421, 422, 423, 424, 222, 401, 402, 403, 404, 218, 217, 219, 328, 329, 330, 331, 405, 406, 407, 526, 527, 528, 529, 581, 582, 583, 584, 585, 586, 587, 588, 589, 590, 591, 592, 593, 594, 595, 596, 597, 598] (by decide +kernel) (by decide +kernel)
set_option maxRecDepth 20000 in
theorem gL_law_X7_steps : GoodIn wsL_law (wsV RL 62 RX7 yX7_steps wsX7_steps) := goodIn_app (goodIn_of _ (by decide +kernel)) ggL_law_X7_steps
