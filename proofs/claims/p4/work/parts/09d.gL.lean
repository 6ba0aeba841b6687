set_option maxRecDepth 20000 in
theorem ggL_law_X5_stops : GoodIn wsL_law wsX5_stops := goodIn_r _ [538, 16, 24, 123, 15, 124, 125, 40, 294, 295, 296, 46, 47, 42, 43, 44, 45, 539, 540, 541, 419, 126, 127, 128, 129, 130, 131, 132, 505, 400, 401, 402, 403, 343, 344, 345, 404, 405, 406, 407, 339, 408, 409, 410, 411, 395, 396, 397, 398, 399, 386, 387, 388, 412, 413, 414, 415, 416, 417, 418, 420, 133, 134, 135, 136, 137, 138, 139, 140, 141, 142, 143, 144, 145, 146, 147, 148, 149, 150, 151, 808, 809, 810, 811, 812, 813, 814, 815, 816, 836, 837, 838, 839, 840, 841, 842] (by decide +kernel) (by decide +kernel)
set_option maxRecDepth 20000 in
theorem gL_law_X5_stops : GoodIn wsL_law (wsV RL 72 RX5 yX5_stops wsX5_stops) := goodIn_app (goodIn_of _ (by decide +kernel)) ggL_law_X5_stops
set_option maxRecDepth 20000 in
theorem ggL_law_X6_stops : GoodIn wsL_law wsX6_stops := goodIn_r _ [545, 157, 158, 159, 5, 160, 78, 107, 108, 109, 546, 547, 548, 549, 511, 512, 513, 514, 83, 350, 351, 352, 353, 169, 170, 171, 172, 173, 174, 175, 176, 161, 162, 163, 164, 429, 430, 431, 432, 79, 370, 371, 372, 373, 433, 434, 435, 436, 177, 178, 179, 180, 115, 116, 117, 118, 165, 166, 167, 168, 181, 182, 183, 184, 519, 520, 521, 522, 817, 818, 819, 820, 821, 822, 823, 824, 825, 826, 827, 828, 829, 830, 831, 832, 833, 834, 835] (by decide +kernel) (by decide +kernel)
set_option maxRecDepth 20000 in
theorem gL_law_X6_stops : GoodIn wsL_law (wsV RL 75 RX6 yX6_stops wsX6_stops) := goodIn_app (goodIn_of _ (by decide +kernel)) ggL_law_X6_stops
set_option maxRecDepth 20000 in
theorem ggL_law_X5_all : GoodIn wsL_law wsX5_all := goodIn_r _ [553, 24, 16, 294, 15, 295, 296, 40, 46, 47, 42, 43, 44, 45, 554, 555, 556, 539, 540, 541, 419, 126, 127, 128, 129, 130, 131, 132, 505, 400, 401, 402, 403, 343, 344, 345, 404, 405, 406, 407, 339, 123, 124, 125, 408, 409, 410, 411, 395, 396, 397, 398, 399, 386, 387, 388, 412, 413, 414, 415, 416, 417, 418, 420, 133, 134, 135, 136, 137, 138, 139, 140, 141, 142, 143, 144, 145, 146, 147, 148, 149, 150, 151, 808, 809, 810, 811, 812, 813, 814, 815, 816, 836, 837, 838, 839, 840, 841, 842] (by decide +kernel) (by decide +kernel)
set_option maxRecDepth 20000 in
theorem gL_law_X5_all : GoodIn wsL_law (wsV RL 76 RX5 yX5_all wsX5_all) := goodIn_app (goodIn_of _ (by decide +kernel)) ggL_law_X5_all
set_option maxRecDepth 20000 in
theorem ggL_law_X6_all : GoodIn wsL_law wsX6_all := goodIn_r _ [560, 78, 546, 547, 548, 5, 549, 511, 512, 513, 514, 83, 350, 351, 352, 353, 169, 170, 171, 172, 173, 174, 175, 176, 161, 162, 163, 164, 429, 430, 431, 432, 79, 370, 371, 372, 373, 433, 434, 435, 436, 177, 178, 179, 180, 115, 116, 117, 118, 165, 166, 167, 168, 181, 182, 183, 184, 519, 520, 521, 522, 817, 818, 819, 820, 821, 822, 823, 824, 825, 826, 827, 828, 829, 830, 831, 832, 833, 834, 835] (by decide +kernel) (by decide +kernel)
set_option maxRecDepth 20000 in
theorem gL_law_X6_all : GoodIn wsL_law (wsV RL 79 RX6 yX6_all wsX6_all) := goodIn_app (goodIn_of _ (by decide +kernel)) ggL_law_X6_all
set_option maxRecDepth 20000 in
theorem ggL_law_X5_ever : GoodIn wsL_law wsX5_ever := goodIn_r _ [564, 24, 16, 294, 15, 295, 296, 40, 46, 47, 42, 43, 44, 45, 126, 127, 128, 129, 130, 131, 132, 400, 401, 402, 403, 343, 344, 345, 404, 405, 406, 407, 339, 123, 124, 125, 408, 409, 410, 411, 395, 396, 397, 398, 399, 386, 387, 388, 412, 413, 414, 415, 416, 417, 418, 419, 420, 133, 134, 135, 136, 137, 138, 139, 140, 141, 142, 143, 144, 145, 146, 147, 148, 149, 150, 151, 808, 809, 810, 811, 812, 813, 814, 815, 816, 836, 837, 838, 839, 840, 841, 842] (by decide +kernel) (by decide +kernel)
set_option maxRecDepth 20000 in
theorem gL_law_X5_ever : GoodIn wsL_law (wsV RL 80 RX5 yX5_ever wsX5_ever) := goodIn_app (goodIn_of _ (by decide +kernel)) ggL_law_X5_ever
set_option maxRecDepth 20000 in
theorem ggL_law_X6_ever : GoodIn wsL_law wsX6_ever := goodIn_r _ [568, 511, 512, 513, 5, 514, 83, 78, 350, 351, 352, 353, 169, 170, 171, 172, 173, 174, 175, 176, 161, 162, 163, 164, 429, 430, 431, 432, 79, 370, 371, 372, 373, 433, 434, 435, 436, 177, 178, 179, 180, 115, 116, 117, 118, 165, 166, 167, 168, 181, 182, 183, 184, 519, 520, 521, 522, 817, 818, 819, 820, 821, 822, 823, 824, 825, 826, 827, 828, 829, 830, 831, 832, 833, 834, 835] (by decide +kernel) (by decide +kernel)
set_option maxRecDepth 20000 in
theorem gL_law_X6_ever : GoodIn wsL_law (wsV RL 83 RX6 yX6_ever wsX6_ever) := goodIn_app (goodIn_of _ (by decide +kernel)) ggL_law_X6_ever
set_option maxRecDepth 20000 in
theorem ggL_law_X5_chain : GoodIn wsL_law wsX5_chain := goodIn_r _ [572, 16, 123, 15, 124, 125, 40, 336, 337, 338, 44, 339, 573, 574, 575, 335, 148, 149, 150, 151, 808, 809, 810, 811, 812, 813, 814, 815, 816, 836, 837, 838, 839, 840, 841, 842] (by decide +kernel) (by decide +kernel)
set_option maxRecDepth 20000 in
theorem gL_law_X5_chain : GoodIn wsL_law (wsV RL 84 RX5 yX5_chain wsX5_chain) := goodIn_app (goodIn_of _ (by decide +kernel)) ggL_law_X5_chain
set_option maxRecDepth 20000 in
theorem ggL_law_X6_chain : GoodIn wsL_law wsX6_chain := goodIn_r _ [579, 78, 157, 158, 159, 5, 160, 107, 108, 109, 362, 363, 364, 365, 177, 178, 179, 180, 161, 162, 163, 164, 181, 182, 183, 184, 817, 818, 819, 820, 821, 822, 823, 824, 825, 826, 827, 828, 829, 830, 831, 832, 833, 834, 835] (by decide +kernel) (by decide +kernel)
set_option maxRecDepth 20000 in
theorem gL_law_X6_chain : GoodIn wsL_law (wsV RL 87 RX6 yX6_chain wsX6_chain) := goodIn_app (goodIn_of _ (by decide +kernel)) ggL_law_X6_chain
set_option maxRecDepth 20000 in
theorem ggL_law_X5_lends : GoodIn wsL_law wsX5_lends := goodIn_r _ [583, 16, 24, 584, 585, 2, 586, 294, 15, 295, 296, 40, 46, 47, 42, 43, 44, 45, 396, 397, 398, 399, 386, 387, 388, 502, 503, 504, 505, 400, 401, 402, 403, 343, 344, 345, 404, 405, 406, 407, 129, 130, 131, 132, 339, 123, 124, 125, 408, 409, 410, 411, 395, 412, 413, 414, 415, 416, 417, 418, 419, 126, 127, 128, 420, 133, 134, 135, 136, 137, 138, 139, 140, 141, 142, 143, 144, 145, 146, 147, 148, 149, 150, 151, 587, 588, 589, 590, 591, 592, 593, 808, 809, 810, 811, 812, 813, 814, 815, 816, 836, 837, 838, 839, 840, 841, 842] (by decide +kernel) (by decide +kernel)
set_option maxRecDepth 20000 in
theorem gL_law_X5_lends : GoodIn wsL_law (wsV RL 88 RX5 yX5_lends wsX5_lends) := goodIn_app (goodIn_of _ (by decide +kernel)) ggL_law_X5_lends
set_option maxRecDepth 20000 in
theorem ggL_law_X6_lends : GoodIn wsL_law wsX6_lends := goodIn_r _ [597, 598, 106, 78, 107, 108, 5, 109, 511, 512, 513, 514, 83, 445, 446, 447, 448, 173, 174, 175, 176, 161, 162, 163, 164, 115, 116, 117, 118, 531, 532, 533, 534, 515, 516, 517, 518, 429, 430, 431, 432, 79, 370, 371, 372, 373, 433, 434, 435, 436, 169, 170, 171, 172, 177, 178, 179, 180, 165, 166, 167, 168, 181, 182, 183, 184, 350, 351, 352, 353, 519, 520, 521, 522, 599, 600, 601, 817, 818, 819, 820, 821, 822, 823, 824, 825, 826, 827, 828, 829, 830, 831, 832, 833, 834, 835] (by decide +kernel) (by decide +kernel)
set_option maxRecDepth 20000 in
theorem gL_law_X6_lends : GoodIn wsL_law (wsV RL 92 RX6 yX6_lends wsX6_lends) := goodIn_app (goodIn_of _ (by decide +kernel)) ggL_law_X6_lends
