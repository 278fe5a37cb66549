/-! the words of the law's calls -/
set_option maxRecDepth 20000 in
theorem gL_law_X6_helper : GoodIn wsL_law (wsV RL 39 RX6 yX6_helper wsX6_helper) := goodIn_app (goodIn_of _ (by decide +kernel)) ggL_law_X6_helper
set_option maxRecDepth 20000 in
theorem ggL_law_X5_help : GoodIn wsL_law wsX5_help := goodIn_r _ [421, 17, 22, 320, 189, 190, 16, 191, 144, 338, 339, 340, 21, 341, 203, 342, 343, 344, 345, 346, 347, 348, 349, 350, 197, 198, 186, 2, 187, 351, 330, 331, 332, 46, 352, 353, 354, 355, 199, 200, 356, 183, 184, 185, 50, 357, 358, 359, 360, 322, 323, 324, 43, 361, 362, 363, 831, 832, 833, 834, 835, 836, 837, 838, 839, 840, 841, 865, 866, 867, 868, 869, 870, 871, 872, 873, 874, 875, 876, 877, 878, 879, 880, 881, 882, 883, 884] (by decide +kernel) (by decide +kernel)
set_option maxRecDepth 20000 in
theorem gL_law_X5_help : GoodIn wsL_law (wsV RL 40 RX5 yX5_help wsX5_help) := goodIn_app (goodIn_of _ (by decide +kernel)) ggL_law_X5_help
set_option maxRecDepth 20000 in
theorem ggL_law_X6_help : GoodIn wsL_law wsX6_help := goodIn_r _ [425, 368, 369, 370, 5, 371, 209, 252, 253, 254, 372, 373, 374, 375, 211, 376, 377, 378, 379, 380, 381, 382, 383, 384, 385, 386, 387, 388, 389, 390, 391, 842, 843, 844, 845, 846, 847, 848, 849, 850, 851, 852, 853, 854, 855, 856, 857, 858, 859, 860, 861, 862, 863, 864] (by decide +kernel) (by decide +kernel)
set_option maxRecDepth 20000 in
theorem gL_law_X6_help : GoodIn wsL_law (wsV RL 43 RX6 yX6_help wsX6_help) := goodIn_app (goodIn_of _ (by decide +kernel)) ggL_law_X6_help
set_option maxRecDepth 20000 in
theorem ggL_law_X5_befriend : GoodIn wsL_law wsX5_befriend := goodIn_r _ [429, 17, 22, 27, 430, 398, 399, 400, 16, 401, 145, 431, 432, 433, 21, 434, 197, 198, 199, 200, 202, 203, 435, 436, 437, 438, 439, 407, 408, 409, 49, 186, 2, 187, 440, 441, 442, 26, 443, 308, 65, 444, 445, 446, 447, 831, 832, 833, 834, 835, 836, 837, 838, 839, 840, 841, 879, 880, 881, 882, 883, 884, 865, 866, 867, 868, 869, 870, 871, 872, 873, 874, 875, 876, 877, 878, 885, 886] (by decide +kernel) (by decide +kernel)
set_option maxRecDepth 20000 in
theorem gL_law_X5_befriend : GoodIn wsL_law (wsV RL 44 RX5 yX5_befriend wsX5_befriend) := goodIn_app (goodIn_of _ (by decide +kernel)) ggL_law_X5_befriend
set_option maxRecDepth 20000 in
theorem ggL_law_X6_befriend : GoodIn wsL_law wsX6_befriend := goodIn_r _ [451, 211, 414, 415, 416, 5, 417, 209, 252, 253, 254, 452, 453, 454, 455, 456, 457, 458, 459, 239, 212, 460, 461, 462, 463, 842, 843, 844, 845, 846, 847, 848, 849, 850, 851, 852, 853, 854, 855, 856, 857, 858, 859, 860, 861, 862, 863, 864] (by decide +kernel) (by decide +kernel)
set_option maxRecDepth 20000 in
theorem gL_law_X6_befriend : GoodIn wsL_law (wsV RL 47 RX6 yX6_befriend wsX6_befriend) := goodIn_app (goodIn_of _ (by decide +kernel)) ggL_law_X6_befriend
set_option maxRecDepth 20000 in
theorem ggL_law_X5_ride : GoodIn wsL_law wsX5_ride := goodIn_r _ [467, 17, 22, 27, 468, 320, 189, 190, 16, 191, 144, 431, 432, 433, 21, 434, 197, 198, 199, 200, 202, 203, 469, 470, 471, 472, 473, 339, 340, 341, 342, 343, 344, 345, 346, 347, 348, 349, 350, 186, 2, 187, 351, 330, 331, 332, 46, 352, 353, 354, 355, 356, 183, 184, 185, 50, 357, 358, 359, 360, 322, 323, 324, 43, 361, 362, 363, 474, 475, 476, 477, 45, 478, 301, 302, 303, 47, 440, 441, 442, 26, 443, 308, 65, 444, 445, 446, 447, 831, 832, 833, 834, 835, 836, 837, 838, 839, 840, 841, 879, 880, 881, 882, 883, 884, 865, 866, 867, 868, 869, 870, 871, 872, 873, 874, 875, 876, 877, 878, 885, 886] (by decide +kernel) (by decide +kernel)
set_option maxRecDepth 20000 in
theorem gL_law_X5_ride : GoodIn wsL_law (wsV RL 48 RX5 yX5_ride wsX5_ride) := goodIn_app (goodIn_of _ (by decide +kernel)) ggL_law_X5_ride
set_option maxRecDepth 20000 in
theorem ggL_law_X6_ride : GoodIn wsL_law wsX6_ride := goodIn_r _ [482, 211, 368, 369, 370, 5, 371, 209, 252, 253, 254, 372, 373, 374, 375, 376, 377, 378, 379, 380, 381, 382, 383, 384, 385, 386, 387, 388, 389, 390, 391, 456, 457, 458, 459, 239, 212, 483, 484, 485, 486, 487, 488, 489, 490, 842, 843, 844, 845, 846, 847, 848, 849, 850, 851, 852, 853, 854, 855, 856, 857, 858, 859, 860, 861, 862, 863, 864] (by decide +kernel) (by decide +kernel)
set_option maxRecDepth 20000 in
theorem gL_law_X6_ride : GoodIn wsL_law (wsV RL 51 RX6 yX6_ride wsX6_ride) := goodIn_app (goodIn_of _ (by decide +kernel)) ggL_law_X6_ride
set_option maxRecDepth 20000 in
theorem ggL_law_X5_suggest : GoodIn wsL_law wsX5_suggest := goodIn_r _ [494, 17, 22, 27, 320, 189, 190, 16, 191, 144, 431, 432, 433, 21, 434, 197, 198, 199, 200, 202, 203, 495, 496, 497, 498, 499, 500, 501, 502, 503, 342, 343, 344, 345, 346, 186, 2, 187, 440, 441, 442, 26, 443, 308, 65, 444, 445, 446, 447, 504, 348, 349, 350, 505, 506, 507, 508, 509, 510, 511, 831, 832, 833, 834, 835, 836, 837, 838, 839, 840, 841, 865, 866, 867, 868, 869, 870, 871, 872, 873, 874, 875, 876, 877, 878, 879, 880, 881, 882, 883, 884, 885, 886] (by decide +kernel) (by decide +kernel)
set_option maxRecDepth 20000 in
theorem gL_law_X5_suggest : GoodIn wsL_law (wsV RL 52 RX5 yX5_suggest wsX5_suggest) := goodIn_app (goodIn_of _ (by decide +kernel)) ggL_law_X5_suggest
set_option maxRecDepth 20000 in
theorem ggL_law_X6_suggest : GoodIn wsL_law wsX6_suggest := goodIn_r _ [515, 211, 368, 369, 370, 5, 371, 209, 252, 253, 254, 516, 517, 518, 519, 376, 377, 378, 379, 456, 457, 458, 459, 239, 212, 380, 381, 382, 383, 520, 521, 522, 842, 843, 844, 845, 846, 847, 848, 849, 850, 851, 852, 853, 854, 855, 856, 857, 858, 859, 860, 861, 862, 863, 864] (by decide +kernel) (by decide +kernel)
set_option maxRecDepth 20000 in
theorem gL_law_X6_suggest : GoodIn wsL_law (wsV RL 55 RX6 yX6_suggest wsX6_suggest) := goodIn_app (goodIn_of _ (by decide +kernel)) ggL_law_X6_suggest
set_option maxRecDepth 20000 in
theorem ggL_law_X5_handUp : GoodIn wsL_law wsX5_handUp := goodIn_r _ [526, 17, 22, 27, 468, 320, 189, 190, 16, 191, 144, 431, 432, 433, 21, 434, 197, 198, 199, 200, 202, 203, 527, 528, 529, 530, 342, 343, 344, 345, 346, 347, 348, 349, 350, 186, 2, 187, 531, 326, 327, 328, 44, 440, 441, 442, 26, 443, 308, 65, 444, 445, 446, 447, 831, 832, 833, 834, 835, 836, 837, 838, 839, 840, 841, 879, 880, 881, 882, 883, 884, 865, 866, 867, 868, 869, 870, 871, 872, 873, 874, 875, 876, 877, 878, 885, 886] (by decide +kernel) (by decide +kernel)
set_option maxRecDepth 20000 in
theorem gL_law_X5_handUp : GoodIn wsL_law (wsV RL 56 RX5 yX5_handUp wsX5_handUp) := goodIn_app (goodIn_of _ (by decide +kernel)) ggL_law_X5_handUp
set_option maxRecDepth 20000 in
theorem ggL_law_X6_handUp : GoodIn wsL_law wsX6_handUp := goodIn_r _ [535, 211, 209, 368, 369, 370, 5, 371, 252, 253, 254, 376, 377, 378, 379, 380, 381, 382, 383, 456, 457, 458, 459, 239, 212, 842, 843, 844, 845, 846, 847, 848, 849, 850, 851, 852, 853, 854, 855, 856, 857, 858, 859, 860, 861, 862, 863, 864] (by decide +kernel) (by decide +kernel)
set_option maxRecDepth 20000 in
theorem gL_law_X6_handUp : GoodIn wsL_law (wsV RL 59 RX6 yX6_handUp wsX6_handUp) := goodIn_app (goodIn_of _ (by decide +kernel)) ggL_law_X6_handUp
set_option maxRecDepth 20000 in
theorem ggL_law_X5_undo : GoodIn wsL_law wsX5_undo := goodIn_r _ [539, 27, 540, 22, 541, 542, 543, 26, 544, 308, 65, 545, 546, 547, 21, 548, 197, 198, 199, 200, 202, 203, 831, 832, 833, 834, 835, 836, 837, 838, 839, 840, 841, 885, 886, 879, 880, 881, 882, 883, 884] (by decide +kernel) (by decide +kernel)
set_option maxRecDepth 20000 in
theorem gL_law_X5_undo : GoodIn wsL_law (wsV RL 60 RX5 yX5_undo wsX5_undo) := goodIn_app (goodIn_of _ (by decide +kernel)) ggL_law_X5_undo
set_option maxRecDepth 20000 in
theorem ggL_law_X6_undo : GoodIn wsL_law wsX6_undo := goodIn_r _ [552, 239, 211, 212, 842, 843, 844, 845, 846, 847, 848, 849, 850, 851, 852, 853, 854, 855, 856, 857, 858, 859, 860, 861, 862, 863, 864] (by decide +kernel) (by decide +kernel)
set_option maxRecDepth 20000 in
theorem gL_law_X6_undo : GoodIn wsL_law (wsV RL 63 RX6 yX6_undo wsX6_undo) := goodIn_app (goodIn_of _ (by decide +kernel)) ggL_law_X6_undo
set_option maxRecDepth 20000 in
theorem ggL_law_X5_mayCome : GoodIn wsL_law wsX5_mayCome := goodIn_r _ [556, 22, 17, 557, 558, 559, 21, 560, 503, 198, 347, 348, 349, 350, 197, 186, 2, 187, 478, 301, 302, 16, 303, 47, 831, 832, 833, 834, 835, 836, 837, 838, 839, 840, 841, 865, 866, 867, 868, 869, 870, 871, 872, 873, 874, 875, 876, 877, 878, 879, 880, 881, 882, 883, 884] (by decide +kernel) (by decide +kernel)
set_option maxRecDepth 20000 in
theorem gL_law_X5_mayCome : GoodIn wsL_law (wsV RL 64 RX5 yX5_mayCome wsX5_mayCome) := goodIn_app (goodIn_of _ (by decide +kernel)) ggL_law_X5_mayCome
