set_option maxRecDepth 20000 in
theorem ggL_law_X5_count : GoodIn wsL_law wsX5_count := goodIn_r _ [328, 16, 20, 126, 15, 127, 128, 40, 129, 130, 131, 132, 43, 329, 330, 331, 332, 333, 334, 335, 336, 337, 338, 44, 339, 123, 124, 125, 340, 341, 342, 148, 149, 150, 151, 343, 344, 345, 46, 808, 809, 810, 811, 812, 813, 814, 815, 816, 836, 837, 838, 839, 840, 841, 842, 843, 844, 845] (by decide +kernel) (by decide +kernel)
set_option maxRecDepth 20000 in
theorem gL_law_X5_count : GoodIn wsL_law (wsV RL 32 RX5 yX5_count wsX5_count) := goodIn_app (goodIn_of _ (by decide +kernel)) ggL_law_X5_count
set_option maxRecDepth 20000 in
theorem ggL_law_X6_count : GoodIn wsL_law wsX6_count := goodIn_r _ [349, 78, 114, 350, 351, 352, 5, 353, 169, 170, 171, 172, 173, 174, 175, 176, 161, 162, 163, 164, 354, 355, 356, 357, 358, 359, 360, 361, 362, 363, 364, 365, 177, 178, 179, 180, 366, 367, 368, 369, 181, 182, 183, 184, 370, 371, 372, 373, 817, 818, 819, 820, 821, 822, 823, 824, 825, 826, 827, 828, 829, 830, 831, 832, 833, 834, 835] (by decide +kernel) (by decide +kernel)
set_option maxRecDepth 20000 in
theorem gL_law_X6_count : GoodIn wsL_law (wsV RL 35 RX6 yX6_count wsX6_count) := goodIn_app (goodIn_of _ (by decide +kernel)) ggL_law_X6_count
set_option maxRecDepth 20000 in
theorem ggL_law_X5_hours : GoodIn wsL_law wsX5_hours := goodIn_r _ [377, 378, 379, 380, 2, 381, 16, 20, 382, 19, 383, 384, 54, 52, 51, 385, 386, 387, 388, 294, 15, 295, 296, 40, 46, 47, 42, 43, 44, 45, 389, 390, 391, 392, 393, 394, 395, 396, 397, 398, 399, 400, 401, 402, 403, 343, 344, 345, 404, 405, 406, 407, 129, 130, 131, 132, 339, 123, 124, 125, 408, 409, 410, 411, 412, 413, 414, 415, 416, 417, 418, 419, 126, 127, 128, 420, 133, 134, 135, 136, 137, 138, 139, 140, 141, 142, 143, 144, 145, 146, 147, 148, 149, 150, 151, 808, 809, 810, 811, 812, 813, 814, 815, 816, 836, 837, 838, 839, 840, 841, 842, 843, 844, 845] (by decide +kernel) (by decide +kernel)
set_option maxRecDepth 20000 in
theorem gL_law_X5_hours : GoodIn wsL_law (wsV RL 36 RX5 yX5_hours wsX5_hours) := goodIn_app (goodIn_of _ (by decide +kernel)) ggL_law_X5_hours
set_option maxRecDepth 20000 in
theorem ggL_law_X6_hours : GoodIn wsL_law wsX6_hours := goodIn_r _ [424, 319, 78, 107, 108, 5, 109, 425, 426, 427, 428, 114, 82, 429, 430, 431, 432, 79, 370, 371, 372, 373, 433, 434, 435, 436, 169, 170, 171, 172, 173, 174, 175, 176, 161, 162, 163, 164, 177, 178, 179, 180, 115, 116, 117, 118, 165, 166, 167, 168, 181, 182, 183, 184, 350, 351, 352, 353, 817, 818, 819, 820, 821, 822, 823, 824, 825, 826, 827, 828, 829, 830, 831, 832, 833, 834, 835] (by decide +kernel) (by decide +kernel)
set_option maxRecDepth 20000 in
theorem gL_law_X6_hours : GoodIn wsL_law (wsV RL 39 RX6 yX6_hours wsX6_hours) := goodIn_app (goodIn_of _ (by decide +kernel)) ggL_law_X6_hours
set_option maxRecDepth 20000 in
theorem ggL_law_X5_lend : GoodIn wsL_law wsX5_lend := goodIn_r _ [440, 16, 20, 123, 15, 124, 125, 40, 382, 19, 383, 384, 54, 52, 51, 385, 386, 387, 388, 294, 295, 296, 46, 47, 42, 43, 44, 45, 396, 397, 398, 399, 808, 809, 810, 811, 812, 813, 814, 815, 816, 836, 837, 838, 839, 840, 841, 842, 843, 844, 845] (by decide +kernel) (by decide +kernel)
set_option maxRecDepth 20000 in
theorem gL_law_X5_lend : GoodIn wsL_law (wsV RL 40 RX5 yX5_lend wsX5_lend) := goodIn_app (goodIn_of _ (by decide +kernel)) ggL_law_X5_lend
set_option maxRecDepth 20000 in
theorem ggL_law_X6_lend : GoodIn wsL_law wsX6_lend := goodIn_r _ [444, 106, 157, 158, 159, 5, 160, 78, 107, 108, 109, 173, 174, 175, 176, 161, 162, 163, 164, 425, 426, 427, 428, 114, 82, 445, 446, 447, 448, 115, 116, 117, 118, 817, 818, 819, 820, 821, 822, 823, 824, 825, 826, 827, 828, 829, 830, 831, 832, 833, 834, 835] (by decide +kernel) (by decide +kernel)
set_option maxRecDepth 20000 in
theorem gL_law_X6_lend : GoodIn wsL_law (wsV RL 43 RX6 yX6_lend wsX6_lend) := goodIn_app (goodIn_of _ (by decide +kernel)) ggL_law_X6_lend
set_option maxRecDepth 20000 in
theorem ggL_law_X5_tell : GoodIn wsL_law wsX5_tell := goodIn_r _ [452, 16, 20, 123, 15, 124, 125, 40, 382, 19, 383, 384, 54, 52, 51, 385, 386, 387, 388, 294, 295, 296, 46, 47, 42, 43, 44, 45, 808, 809, 810, 811, 812, 813, 814, 815, 816, 836, 837, 838, 839, 840, 841, 842, 843, 844, 845] (by decide +kernel) (by decide +kernel)
set_option maxRecDepth 20000 in
theorem gL_law_X5_tell : GoodIn wsL_law (wsV RL 44 RX5 yX5_tell wsX5_tell) := goodIn_app (goodIn_of _ (by decide +kernel)) ggL_law_X5_tell
set_option maxRecDepth 20000 in
theorem ggL_law_X6_tell : GoodIn wsL_law wsX6_tell := goodIn_r _ [456, 157, 158, 159, 5, 160, 78, 107, 108, 109, 177, 178, 179, 180, 161, 162, 163, 164, 425, 426, 427, 428, 114, 82, 115, 116, 117, 118, 817, 818, 819, 820, 821, 822, 823, 824, 825, 826, 827, 828, 829, 830, 831, 832, 833, 834, 835] (by decide +kernel) (by decide +kernel)
set_option maxRecDepth 20000 in
theorem gL_law_X6_tell : GoodIn wsL_law (wsV RL 47 RX6 yX6_tell wsX6_tell) := goodIn_app (goodIn_of _ (by decide +kernel)) ggL_law_X6_tell
set_option maxRecDepth 20000 in
theorem ggL_law_X5_cut : GoodIn wsL_law wsX5_cut := goodIn_r _ [460, 16, 20, 123, 15, 124, 125, 40, 382, 19, 383, 384, 54, 52, 51, 385, 386, 387, 388, 294, 295, 296, 46, 47, 42, 43, 44, 45, 808, 809, 810, 811, 812, 813, 814, 815, 816, 836, 837, 838, 839, 840, 841, 842, 843, 844, 845] (by decide +kernel) (by decide +kernel)
set_option maxRecDepth 20000 in
theorem gL_law_X5_cut : GoodIn wsL_law (wsV RL 48 RX5 yX5_cut wsX5_cut) := goodIn_app (goodIn_of _ (by decide +kernel)) ggL_law_X5_cut
set_option maxRecDepth 20000 in
theorem ggL_law_X6_cut : GoodIn wsL_law wsX6_cut := goodIn_r _ [464, 465, 157, 158, 159, 5, 160, 78, 107, 108, 109, 161, 162, 163, 164, 425, 426, 427, 428, 114, 82, 115, 116, 117, 118, 817, 818, 819, 820, 821, 822, 823, 824, 825, 826, 827, 828, 829, 830, 831, 832, 833, 834, 835] (by decide +kernel) (by decide +kernel)
set_option maxRecDepth 20000 in
theorem gL_law_X6_cut : GoodIn wsL_law (wsV RL 51 RX6 yX6_cut wsX6_cut) := goodIn_app (goodIn_of _ (by decide +kernel)) ggL_law_X6_cut
