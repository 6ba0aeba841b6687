set_option maxRecDepth 20000 in
theorem ggL_law_X5_drift : GoodIn wsL_law wsX5_drift := goodIn_r _ [469, 378, 379, 380, 2, 381, 16, 20, 382, 19, 383, 384, 54, 52, 51, 385, 386, 387, 388, 294, 15, 295, 296, 40, 46, 47, 42, 43, 44, 45, 389, 390, 391, 392, 393, 394, 395, 396, 397, 398, 399, 400, 401, 402, 403, 343, 344, 345, 404, 405, 406, 407, 129, 130, 131, 132, 339, 123, 124, 125, 408, 409, 410, 411, 412, 413, 414, 415, 416, 417, 418, 419, 126, 127, 128, 420, 133, 134, 135, 136, 137, 138, 139, 140, 141, 142, 143, 144, 145, 146, 147, 148, 149, 150, 151, 808, 809, 810, 811, 812, 813, 814, 815, 816, 836, 837, 838, 839, 840, 841, 842, 843, 844, 845] (by decide +kernel) (by decide +kernel)
set_option maxRecDepth 20000 in
theorem gL_law_X5_drift : GoodIn wsL_law (wsV RL 52 RX5 yX5_drift wsX5_drift) := goodIn_app (goodIn_of _ (by decide +kernel)) ggL_law_X5_drift
set_option maxRecDepth 20000 in
theorem ggL_law_X6_drift : GoodIn wsL_law wsX6_drift := goodIn_r _ [473, 319, 78, 474, 475, 476, 477, 107, 108, 5, 109, 425, 426, 427, 428, 114, 82, 445, 446, 447, 448, 173, 174, 175, 176, 161, 162, 163, 164, 115, 116, 117, 118, 429, 430, 431, 432, 79, 370, 371, 372, 373, 433, 434, 435, 436, 169, 170, 171, 172, 177, 178, 179, 180, 165, 166, 167, 168, 181, 182, 183, 184, 350, 351, 352, 353, 817, 818, 819, 820, 821, 822, 823, 824, 825, 826, 827, 828, 829, 830, 831, 832, 833, 834, 835] (by decide +kernel) (by decide +kernel)
set_option maxRecDepth 20000 in
theorem gL_law_X6_drift : GoodIn wsL_law (wsV RL 55 RX6 yX6_drift wsX6_drift) := goodIn_app (goodIn_of _ (by decide +kernel)) ggL_law_X6_drift
set_option maxRecDepth 20000 in
theorem ggL_law_X5_undo : GoodIn wsL_law wsX5_undo := goodIn_r _ [481, 20, 16, 482, 19, 483, 484, 52, 54, 51, 485, 417, 387, 418, 294, 15, 295, 296, 40, 46, 47, 42, 43, 44, 45, 808, 809, 810, 811, 812, 813, 814, 815, 816, 843, 844, 845, 836, 837, 838, 839, 840, 841, 842] (by decide +kernel) (by decide +kernel)
set_option maxRecDepth 20000 in
theorem gL_law_X5_undo : GoodIn wsL_law (wsV RL 56 RX5 yX5_undo wsX5_undo) := goodIn_app (goodIn_of _ (by decide +kernel)) ggL_law_X5_undo
set_option maxRecDepth 20000 in
theorem ggL_law_X6_undo : GoodIn wsL_law wsX6_undo := goodIn_r _ [489, 114, 78, 82, 817, 818, 819, 820, 821, 822, 823, 824, 825, 826, 827, 828, 829, 830, 831, 832, 833, 834, 835] (by decide +kernel) (by decide +kernel)
set_option maxRecDepth 20000 in
theorem gL_law_X6_undo : GoodIn wsL_law (wsV RL 59 RX6 yX6_undo wsX6_undo) := goodIn_app (goodIn_of _ (by decide +kernel)) ggL_law_X6_undo
set_option maxRecDepth 20000 in
theorem ggL_law_X5_seed : GoodIn wsL_law wsX5_seed := goodIn_r _ [493, 16, 808, 809, 810, 811, 812, 813, 814, 815, 816, 836, 837, 838, 839, 840, 841, 842] (by decide +kernel) (by decide +kernel)
set_option maxRecDepth 20000 in
theorem gL_law_X5_seed : GoodIn wsL_law (wsV RL 60 RX5 yX5_seed wsX5_seed) := goodIn_app (goodIn_of _ (by decide +kernel)) ggL_law_X5_seed
set_option maxRecDepth 20000 in
theorem ggL_law_X6_seed : GoodIn wsL_law wsX6_seed := goodIn_r _ [497, 78, 817, 818, 819, 820, 821, 822, 823, 824, 825, 826, 827, 828, 829, 830, 831, 832, 833, 834, 835] (by decide +kernel) (by decide +kernel)
set_option maxRecDepth 20000 in
theorem gL_law_X6_seed : GoodIn wsL_law (wsV RL 63 RX6 yX6_seed wsX6_seed) := goodIn_app (goodIn_of _ (by decide +kernel)) ggL_law_X6_seed
set_option maxRecDepth 20000 in
theorem ggL_law_X5_ahead : GoodIn wsL_law wsX5_ahead := goodIn_r _ [501, 16, 24, 123, 15, 124, 125, 40, 294, 295, 296, 46, 47, 42, 43, 44, 45, 502, 503, 504, 505, 400, 401, 402, 403, 343, 344, 345, 404, 405, 406, 407, 129, 130, 131, 132, 339, 408, 409, 410, 411, 395, 396, 397, 398, 399, 386, 387, 388, 412, 413, 414, 415, 416, 417, 418, 419, 126, 127, 128, 420, 133, 134, 135, 136, 137, 138, 139, 140, 141, 142, 143, 144, 145, 146, 147, 148, 149, 150, 151, 808, 809, 810, 811, 812, 813, 814, 815, 816, 836, 837, 838, 839, 840, 841, 842] (by decide +kernel) (by decide +kernel)
set_option maxRecDepth 20000 in
theorem gL_law_X5_ahead : GoodIn wsL_law (wsV RL 64 RX5 yX5_ahead wsX5_ahead) := goodIn_app (goodIn_of _ (by decide +kernel)) ggL_law_X5_ahead
set_option maxRecDepth 20000 in
theorem ggL_law_X6_ahead : GoodIn wsL_law wsX6_ahead := goodIn_r _ [509, 510, 157, 158, 159, 5, 160, 78, 107, 108, 109, 511, 512, 513, 514, 83, 515, 516, 517, 518, 429, 430, 431, 432, 79, 370, 371, 372, 373, 433, 434, 435, 436, 169, 170, 171, 172, 173, 174, 175, 176, 161, 162, 163, 164, 177, 178, 179, 180, 115, 116, 117, 118, 165, 166, 167, 168, 181, 182, 183, 184, 519, 520, 521, 522, 817, 818, 819, 820, 821, 822, 823, 824, 825, 826, 827, 828, 829, 830, 831, 832, 833, 834, 835] (by decide +kernel) (by decide +kernel)
set_option maxRecDepth 20000 in
theorem gL_law_X6_ahead : GoodIn wsL_law (wsV RL 67 RX6 yX6_ahead wsX6_ahead) := goodIn_app (goodIn_of _ (by decide +kernel)) ggL_law_X6_ahead
set_option maxRecDepth 20000 in
theorem ggL_law_X5_then : GoodIn wsL_law wsX5_then := goodIn_r _ [526, 24, 16, 294, 15, 295, 296, 40, 46, 47, 42, 43, 44, 45, 502, 503, 504, 505, 400, 401, 402, 403, 343, 344, 345, 404, 405, 406, 407, 129, 130, 131, 132, 339, 123, 124, 125, 408, 409, 410, 411, 395, 396, 397, 398, 399, 386, 387, 388, 412, 413, 414, 415, 416, 417, 418, 419, 126, 127, 128, 420, 133, 134, 135, 136, 137, 138, 139, 140, 141, 142, 143, 144, 145, 146, 147, 148, 149, 150, 151, 808, 809, 810, 811, 812, 813, 814, 815, 816, 836, 837, 838, 839, 840, 841, 842] (by decide +kernel) (by decide +kernel)
set_option maxRecDepth 20000 in
theorem gL_law_X5_then : GoodIn wsL_law (wsV RL 68 RX5 yX5_then wsX5_then) := goodIn_app (goodIn_of _ (by decide +kernel)) ggL_law_X5_then
set_option maxRecDepth 20000 in
theorem ggL_law_X6_then : GoodIn wsL_law wsX6_then := goodIn_r _ [530, 510, 107, 108, 5, 109, 511, 512, 513, 514, 83, 78, 531, 532, 533, 534, 515, 516, 517, 518, 429, 430, 431, 432, 79, 370, 371, 372, 373, 433, 434, 435, 436, 169, 170, 171, 172, 173, 174, 175, 176, 161, 162, 163, 164, 177, 178, 179, 180, 115, 116, 117, 118, 165, 166, 167, 168, 181, 182, 183, 184, 350, 351, 352, 353, 519, 520, 521, 522, 817, 818, 819, 820, 821, 822, 823, 824, 825, 826, 827, 828, 829, 830, 831, 832, 833, 834, 835] (by decide +kernel) (by decide +kernel)
set_option maxRecDepth 20000 in
theorem gL_law_X6_then : GoodIn wsL_law (wsV RL 71 RX6 yX6_then wsX6_then) := goodIn_app (goodIn_of _ (by decide +kernel)) ggL_law_X6_then
