set_option maxRecDepth 20000 in
theorem ggL_law_X5_instead : GoodIn wsL_law wsX5_instead := goodIn_r _ [605, 16, 123, 15, 124, 125, 40, 584, 585, 2, 586, 606, 607, 608, 609, 24, 294, 295, 296, 46, 47, 42, 43, 44, 45, 502, 503, 504, 505, 400, 401, 402, 403, 343, 344, 345, 404, 405, 406, 407, 129, 130, 131, 132, 339, 408, 409, 410, 411, 395, 396, 397, 398, 399, 386, 387, 388, 412, 413, 414, 415, 416, 417, 418, 419, 126, 127, 128, 420, 133, 134, 135, 136, 137, 138, 139, 140, 141, 142, 143, 144, 145, 146, 147, 148, 149, 150, 151, 587, 588, 589, 590, 591, 592, 593, 808, 809, 810, 811, 812, 813, 814, 815, 816, 836, 837, 838, 839, 840, 841, 842] (by decide +kernel) (by decide +kernel)
set_option maxRecDepth 20000 in
theorem gL_law_X5_instead : GoodIn wsL_law (wsV RL 93 RX5 yX5_instead wsX5_instead) := goodIn_app (goodIn_of _ (by decide +kernel)) ggL_law_X5_instead
set_option maxRecDepth 20000 in
theorem ggL_law_X6_instead : GoodIn wsL_law wsX6_instead := goodIn_r _ [613, 598, 78, 157, 158, 159, 5, 160, 107, 108, 109, 511, 512, 513, 514, 83, 115, 116, 117, 118, 531, 532, 533, 534, 515, 516, 517, 518, 429, 430, 431, 432, 79, 370, 371, 372, 373, 433, 434, 435, 436, 169, 170, 171, 172, 173, 174, 175, 176, 161, 162, 163, 164, 177, 178, 179, 180, 165, 166, 167, 168, 181, 182, 183, 184, 350, 351, 352, 353, 519, 520, 521, 522, 599, 600, 601, 817, 818, 819, 820, 821, 822, 823, 824, 825, 826, 827, 828, 829, 830, 831, 832, 833, 834, 835] (by decide +kernel) (by decide +kernel)
set_option maxRecDepth 20000 in
theorem gL_law_X6_instead : GoodIn wsL_law (wsV RL 96 RX6 yX6_instead wsX6_instead) := goodIn_app (goodIn_of _ (by decide +kernel)) ggL_law_X6_instead
set_option maxRecDepth 20000 in
theorem ggL_law_X5_needs : GoodIn wsL_law wsX5_needs := goodIn_r _ [617, 16, 24, 123, 15, 124, 125, 40, 584, 585, 2, 586, 294, 295, 296, 46, 47, 42, 43, 44, 45, 539, 540, 541, 419, 126, 127, 128, 129, 130, 131, 132, 505, 400, 401, 402, 403, 343, 344, 345, 404, 405, 406, 407, 339, 408, 409, 410, 411, 395, 396, 397, 398, 399, 386, 387, 388, 412, 413, 414, 415, 416, 417, 418, 420, 133, 134, 135, 136, 137, 138, 139, 140, 141, 142, 143, 144, 145, 146, 147, 148, 149, 150, 151, 808, 809, 810, 811, 812, 813, 814, 815, 816, 836, 837, 838, 839, 840, 841, 842] (by decide +kernel) (by decide +kernel)
set_option maxRecDepth 20000 in
theorem gL_law_X5_needs : GoodIn wsL_law (wsV RL 97 RX5 yX5_needs wsX5_needs) := goodIn_app (goodIn_of _ (by decide +kernel)) ggL_law_X5_needs
set_option maxRecDepth 20000 in
theorem ggL_law_X6_needs : GoodIn wsL_law wsX6_needs := goodIn_r _ [621, 598, 157, 158, 159, 5, 160, 78, 107, 108, 109, 511, 512, 513, 514, 83, 115, 116, 117, 118, 429, 430, 431, 432, 79, 370, 371, 372, 373, 433, 434, 435, 436, 169, 170, 171, 172, 173, 174, 175, 176, 161, 162, 163, 164, 177, 178, 179, 180, 165, 166, 167, 168, 181, 182, 183, 184, 519, 520, 521, 522, 817, 818, 819, 820, 821, 822, 823, 824, 825, 826, 827, 828, 829, 830, 831, 832, 833, 834, 835] (by decide +kernel) (by decide +kernel)
set_option maxRecDepth 20000 in
theorem gL_law_X6_needs : GoodIn wsL_law (wsV RL 100 RX6 yX6_needs wsX6_needs) := goodIn_app (goodIn_of _ (by decide +kernel)) ggL_law_X6_needs
set_option maxRecDepth 20000 in
theorem ggL_law_X5_match : GoodIn wsL_law wsX5_match := goodIn_r _ [625, 16, 32, 123, 15, 124, 125, 40, 626, 31, 627, 628, 64, 629, 630, 631, 66, 65, 632, 633, 634, 635, 808, 809, 810, 811, 812, 813, 814, 815, 816, 836, 837, 838, 839, 840, 841, 842, 849, 850, 851] (by decide +kernel) (by decide +kernel)
set_option maxRecDepth 20000 in
theorem gL_law_X5_match : GoodIn wsL_law (wsV RL 101 RX5 yX5_match wsX5_match) := goodIn_app (goodIn_of _ (by decide +kernel)) ggL_law_X5_match
set_option maxRecDepth 20000 in
theorem ggL_law_X6_match : GoodIn wsL_law wsX6_match := goodIn_r _ [639, 640, 78, 85, 84, 107, 108, 5, 109, 641, 642, 643, 644, 177, 178, 179, 180, 161, 162, 163, 164, 817, 818, 819, 820, 821, 822, 823, 824, 825, 826, 827, 828, 829, 830, 831, 832, 833, 834, 835] (by decide +kernel) (by decide +kernel)
set_option maxRecDepth 20000 in
theorem gL_law_X6_match : GoodIn wsL_law (wsV RL 104 RX6 yX6_match wsX6_match) := goodIn_app (goodIn_of _ (by decide +kernel)) ggL_law_X6_match
set_option maxRecDepth 20000 in
theorem ggL_law_X5_again : GoodIn wsL_law wsX5_again := goodIn_r _ [648, 24, 16, 294, 15, 295, 296, 40, 46, 47, 42, 43, 44, 45, 502, 503, 504, 505, 400, 401, 402, 403, 343, 344, 345, 404, 405, 406, 407, 129, 130, 131, 132, 339, 123, 124, 125, 408, 409, 410, 411, 395, 396, 397, 398, 399, 386, 387, 388, 412, 413, 414, 415, 416, 417, 418, 419, 126, 127, 128, 420, 133, 134, 135, 136, 137, 138, 139, 140, 141, 142, 143, 144, 145, 146, 147, 148, 149, 150, 151, 649, 650, 651, 808, 809, 810, 811, 812, 813, 814, 815, 816, 836, 837, 838, 839, 840, 841, 842] (by decide +kernel) (by decide +kernel)
set_option maxRecDepth 20000 in
theorem gL_law_X5_again : GoodIn wsL_law (wsV RL 105 RX5 yX5_again wsX5_again) := goodIn_app (goodIn_of _ (by decide +kernel)) ggL_law_X5_again
set_option maxRecDepth 20000 in
theorem ggL_law_X6_again : GoodIn wsL_law wsX6_again := goodIn_r _ [655, 511, 512, 513, 5, 514, 83, 78, 515, 516, 517, 518, 429, 430, 431, 432, 79, 370, 371, 372, 373, 433, 434, 435, 436, 169, 170, 171, 172, 173, 174, 175, 176, 161, 162, 163, 164, 177, 178, 179, 180, 115, 116, 117, 118, 165, 166, 167, 168, 181, 182, 183, 184, 656, 657, 658, 659, 519, 520, 521, 522, 817, 818, 819, 820, 821, 822, 823, 824, 825, 826, 827, 828, 829, 830, 831, 832, 833, 834, 835] (by decide +kernel) (by decide +kernel)
set_option maxRecDepth 20000 in
theorem gL_law_X6_again : GoodIn wsL_law (wsV RL 108 RX6 yX6_again wsX6_again) := goodIn_app (goodIn_of _ (by decide +kernel)) ggL_law_X6_again
set_option maxRecDepth 20000 in
theorem ggL_law_X5_forget : GoodIn wsL_law wsX5_forget := goodIn_r _ [663, 16, 24, 664, 417, 387, 418, 123, 15, 124, 125, 40, 343, 344, 345, 46, 405, 406, 407, 44, 129, 130, 131, 132, 43, 339, 294, 295, 296, 47, 42, 45, 409, 410, 411, 395, 396, 397, 398, 399, 386, 388, 413, 414, 415, 416, 419, 126, 127, 128, 420, 133, 134, 135, 136, 137, 138, 139, 140, 141, 142, 143, 144, 145, 146, 147, 148, 149, 150, 151, 665, 666, 2, 667, 587, 588, 589, 590, 591, 592, 593, 668, 669, 670, 671, 672, 673, 808, 809, 810, 811, 812, 813, 814, 815, 816, 836, 837, 838, 839, 840, 841, 842] (by decide +kernel) (by decide +kernel)
set_option maxRecDepth 20000 in
theorem gL_law_X5_forget : GoodIn wsL_law (wsV RL 109 RX5 yX5_forget wsX5_forget) := goodIn_app (goodIn_of _ (by decide +kernel)) ggL_law_X5_forget
set_option maxRecDepth 20000 in
theorem ggL_law_X6_forget : GoodIn wsL_law wsX6_forget := goodIn_r _ [677, 678, 78, 157, 158, 159, 5, 160, 107, 108, 109, 370, 371, 372, 373, 169, 170, 171, 172, 173, 174, 175, 176, 161, 162, 163, 164, 177, 178, 179, 180, 511, 512, 513, 514, 83, 429, 430, 431, 432, 79, 433, 434, 435, 436, 115, 116, 117, 118, 165, 166, 167, 168, 181, 182, 183, 184, 519, 520, 521, 522, 817, 818, 819, 820, 821, 822, 823, 824, 825, 826, 827, 828, 829, 830, 831, 832, 833, 834, 835] (by decide +kernel) (by decide +kernel)
set_option maxRecDepth 20000 in
theorem gL_law_X6_forget : GoodIn wsL_law (wsV RL 112 RX6 yX6_forget wsX6_forget) := goodIn_app (goodIn_of _ (by decide +kernel)) ggL_law_X6_forget
