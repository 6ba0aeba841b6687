set_option maxRecDepth 20000 in
theorem ggL_law_X5_image : GoodIn wsL_law wsX5_image := goodIn_r _ [682, 21, 16, 22, 20, 23, 294, 15, 295, 296, 40, 46, 47, 42, 43, 44, 45, 683, 19, 684, 685, 51, 52, 54, 808, 809, 810, 811, 812, 813, 814, 815, 816, 836, 837, 838, 839, 840, 841, 842, 843, 844, 845] (by decide +kernel) (by decide +kernel)
set_option maxRecDepth 20000 in
theorem gL_law_X5_image : GoodIn wsL_law (wsV RL 113 RX5 yX5_image wsX5_image) := goodIn_app (goodIn_of _ (by decide +kernel)) ggL_law_X5_image
set_option maxRecDepth 20000 in
theorem ggL_law_X6_image : GoodIn wsL_law wsX6_image := goodIn_r _ [689, 86, 78, 82, 114, 690, 691, 817, 818, 819, 820, 821, 822, 823, 824, 825, 826, 827, 828, 829, 830, 831, 832, 833, 834, 835] (by decide +kernel) (by decide +kernel)
set_option maxRecDepth 20000 in
theorem gL_law_X6_image : GoodIn wsL_law (wsV RL 116 RX6 yX6_image wsX6_image) := goodIn_app (goodIn_of _ (by decide +kernel)) ggL_law_X6_image
set_option maxRecDepth 20000 in
theorem ggL_law_X5_restore : GoodIn wsL_law wsX5_restore := goodIn_r _ [695, 23, 16, 21, 20, 22, 294, 15, 295, 296, 40, 46, 47, 42, 43, 44, 45, 683, 19, 684, 685, 51, 52, 54, 808, 809, 810, 811, 812, 813, 814, 815, 816, 836, 837, 838, 839, 840, 841, 842, 843, 844, 845] (by decide +kernel) (by decide +kernel)
set_option maxRecDepth 20000 in
theorem gL_law_X5_restore : GoodIn wsL_law (wsV RL 117 RX5 yX5_restore wsX5_restore) := goodIn_app (goodIn_of _ (by decide +kernel)) ggL_law_X5_restore
set_option maxRecDepth 20000 in
theorem ggL_law_X6_restore : GoodIn wsL_law wsX6_restore := goodIn_r _ [699, 691, 78, 86, 82, 690, 114, 817, 818, 819, 820, 821, 822, 823, 824, 825, 826, 827, 828, 829, 830, 831, 832, 833, 834, 835] (by decide +kernel) (by decide +kernel)
set_option maxRecDepth 20000 in
theorem gL_law_X6_restore : GoodIn wsL_law (wsV RL 120 RX6 yX6_restore wsX6_restore) := goodIn_app (goodIn_of _ (by decide +kernel)) ggL_law_X6_restore
set_option maxRecDepth 20000 in
theorem ggL_law_X5_heard : GoodIn wsL_law wsX5_heard := goodIn_r _ [703, 16, 34, 123, 15, 124, 125, 40, 704, 705, 2, 706, 707, 708, 709, 710, 36, 711, 712, 70, 713, 714, 715, 716, 71, 717, 718, 719, 720, 721, 722, 723, 724, 24, 294, 295, 296, 46, 47, 42, 43, 44, 45, 725, 726, 727, 728, 729, 730, 731, 732, 400, 401, 402, 403, 343, 344, 345, 404, 405, 406, 407, 129, 130, 131, 132, 339, 408, 409, 410, 411, 395, 396, 397, 398, 399, 386, 387, 388, 412, 413, 414, 415, 416, 417, 418, 419, 126, 127, 128, 420, 133, 134, 135, 136, 137, 138, 139, 140, 141, 142, 143, 144, 145, 146, 147, 148, 149, 150, 151, 808, 809, 810, 811, 812, 813, 814, 815, 816, 836, 837, 838, 839, 840, 841, 842, 852, 853, 854] (by decide +kernel) (by decide +kernel)
set_option maxRecDepth 20000 in
theorem gL_law_X5_heard : GoodIn wsL_law (wsV RL 121 RX5 yX5_heard wsX5_heard) := goodIn_app (goodIn_of _ (by decide +kernel)) ggL_law_X5_heard
set_option maxRecDepth 20000 in
theorem ggL_law_X6_heard : GoodIn wsL_law wsX6_heard := goodIn_r _ [736, 737, 78, 157, 158, 159, 5, 160, 107, 108, 109, 738, 739, 740, 741, 742, 743, 744, 745, 746, 747, 748, 87, 88, 511, 512, 513, 514, 83, 115, 116, 117, 118, 749, 750, 751, 752, 89, 429, 430, 431, 432, 79, 370, 371, 372, 373, 433, 434, 435, 436, 169, 170, 171, 172, 173, 174, 175, 176, 161, 162, 163, 164, 177, 178, 179, 180, 165, 166, 167, 168, 181, 182, 183, 184, 519, 520, 521, 522, 817, 818, 819, 820, 821, 822, 823, 824, 825, 826, 827, 828, 829, 830, 831, 832, 833, 834, 835] (by decide +kernel) (by decide +kernel)
set_option maxRecDepth 20000 in
theorem gL_law_X6_heard : GoodIn wsL_law (wsV RL 125 RX6 yX6_heard wsX6_heard) := goodIn_app (goodIn_of _ (by decide +kernel)) ggL_law_X6_heard
set_option maxRecDepth 20000 in
theorem ggL_law_X5_film : GoodIn wsL_law wsX5_film := goodIn_r _ [756, 16, 34, 24, 123, 15, 124, 125, 40, 704, 705, 2, 706, 707, 708, 709, 710, 36, 711, 712, 70, 713, 714, 715, 716, 71, 717, 718, 719, 720, 294, 295, 296, 46, 47, 42, 43, 44, 45, 400, 401, 402, 403, 343, 344, 345, 404, 405, 406, 407, 129, 130, 131, 132, 339, 408, 409, 410, 411, 395, 396, 397, 398, 399, 386, 387, 388, 412, 413, 414, 415, 416, 417, 418, 419, 126, 127, 128, 420, 133, 134, 135, 136, 137, 138, 139, 140, 141, 142, 143, 144, 145, 146, 147, 148, 149, 150, 151, 757, 758, 759, 73, 808, 809, 810, 811, 812, 813, 814, 815, 816, 836, 837, 838, 839, 840, 841, 842, 852, 853, 854] (by decide +kernel) (by decide +kernel)
set_option maxRecDepth 20000 in
theorem gL_law_X5_film : GoodIn wsL_law (wsV RL 126 RX5 yX5_film wsX5_film) := goodIn_app (goodIn_of _ (by decide +kernel)) ggL_law_X5_film
set_option maxRecDepth 20000 in
theorem ggL_law_X6_film : GoodIn wsL_law wsX6_film := goodIn_r _ [763, 764, 89, 157, 158, 159, 5, 160, 78, 107, 108, 109, 738, 739, 740, 741, 742, 743, 744, 745, 746, 747, 748, 87, 88, 511, 512, 513, 514, 83, 429, 430, 431, 432, 79, 370, 371, 372, 373, 433, 434, 435, 436, 169, 170, 171, 172, 173, 174, 175, 176, 161, 162, 163, 164, 177, 178, 179, 180, 115, 116, 117, 118, 165, 166, 167, 168, 181, 182, 183, 184, 519, 520, 521, 522, 817, 818, 819, 820, 821, 822, 823, 824, 825, 826, 827, 828, 829, 830, 831, 832, 833, 834, 835] (by decide +kernel) (by decide +kernel)
set_option maxRecDepth 20000 in
theorem gL_law_X6_film : GoodIn wsL_law (wsV RL 130 RX6 yX6_film wsX6_film) := goodIn_app (goodIn_of _ (by decide +kernel)) ggL_law_X6_film
set_option maxRecDepth 20000 in
theorem ggL_law_X5_sheet : GoodIn wsL_law wsX5_sheet := goodIn_r _ [768, 34, 704, 705, 2, 706, 707, 708, 709, 769, 36, 770, 771, 70, 71, 73, 772, 773, 774, 775, 808, 809, 810, 811, 812, 813, 814, 815, 816, 852, 853, 854] (by decide +kernel) (by decide +kernel)
set_option maxRecDepth 20000 in
theorem gL_law_X5_sheet : GoodIn wsL_law (wsV RL 131 RX5 yX5_sheet wsX5_sheet) := goodIn_app (goodIn_of _ (by decide +kernel)) ggL_law_X5_sheet
set_option maxRecDepth 20000 in
theorem ggL_law_X6_sheet : GoodIn wsL_law wsX6_sheet := goodIn_r _ [779, 87, 88, 89, 738, 739, 5, 740, 741, 107, 108, 109, 742, 743, 744, 817, 818, 819, 820, 821, 822, 823, 824, 825, 826, 827, 828, 829, 830, 831, 832, 833, 834, 835] (by decide +kernel) (by decide +kernel)
set_option maxRecDepth 20000 in
theorem gL_law_X6_sheet : GoodIn wsL_law (wsV RL 134 RX6 yX6_sheet wsX6_sheet) := goodIn_app (goodIn_of _ (by decide +kernel)) ggL_law_X6_sheet
