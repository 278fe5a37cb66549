/-! the words of the law's calls -/
set_option maxRecDepth 20000 in
theorem gL_law_X6_helper : GoodIn wsL_law (wsV RL 39 RX6 yX6_helper wsX6_helper) := goodIn_app (goodIn_of _ (by decide +kernel)) ggL_law_X6_helper
set_option maxRecDepth 20000 in
theorem ggL_law_X5_help : GoodIn wsL_law wsX5_help := goodIn_r _ [422, 17, 22, 321, 190, 191, 16, 192, 145, 339, 340, 341, 21, 342, 204, 343, 344, 345, 346, 347, 348, 349, 350, 351, 198, 199, 187, 2, 188, 352, 331, 332, 333, 46, 353, 354, 355, 356, 200, 201, 357, 184, 185, 186, 50, 358, 359, 360, 361, 323, 324, 325, 43, 362, 363, 364, 812, 813, 814, 815, 816, 817, 818, 819, 820, 821, 822, 846, 847, 848, 849, 850, 851, 852, 853, 854, 855, 856, 857, 858, 859, 860, 861, 862, 863, 864, 865] (by decide +kernel) (by decide +kernel)
set_option maxRecDepth 20000 in
theorem gL_law_X5_help : GoodIn wsL_law (wsV RL 40 RX5 yX5_help wsX5_help) := goodIn_app (goodIn_of _ (by decide +kernel)) ggL_law_X5_help
set_option maxRecDepth 20000 in
theorem ggL_law_X6_help : GoodIn wsL_law wsX6_help := goodIn_r _ [426, 369, 370, 371, 5, 372, 210, 253, 254, 255, 373, 374, 375, 376, 212, 377, 378, 379, 380, 381, 382, 383, 384, 385, 386, 387, 388, 389, 390, 391, 392, 823, 824, 825, 826, 827, 828, 829, 830, 831, 832, 833, 834, 835, 836, 837, 838, 839, 840, 841, 842, 843, 844, 845] (by decide +kernel) (by decide +kernel)
set_option maxRecDepth 20000 in
theorem gL_law_X6_help : GoodIn wsL_law (wsV RL 43 RX6 yX6_help wsX6_help) := goodIn_app (goodIn_of _ (by decide +kernel)) ggL_law_X6_help
set_option maxRecDepth 20000 in
theorem ggL_law_X5_befriend : GoodIn wsL_law wsX5_befriend := goodIn_r _ [430, 17, 22, 27, 431, 399, 400, 401, 16, 402, 146, 432, 433, 434, 21, 435, 198, 199, 200, 201, 203, 204, 436, 437, 438, 439, 440, 408, 409, 410, 49, 187, 2, 188, 441, 442, 443, 26, 444, 309, 65, 445, 446, 447, 448, 812, 813, 814, 815, 816, 817, 818, 819, 820, 821, 822, 860, 861, 862, 863, 864, 865, 846, 847, 848, 849, 850, 851, 852, 853, 854, 855, 856, 857, 858, 859, 866, 867] (by decide +kernel) (by decide +kernel)
set_option maxRecDepth 20000 in
theorem gL_law_X5_befriend : GoodIn wsL_law (wsV RL 44 RX5 yX5_befriend wsX5_befriend) := goodIn_app (goodIn_of _ (by decide +kernel)) ggL_law_X5_befriend
set_option maxRecDepth 20000 in
theorem ggL_law_X6_befriend : GoodIn wsL_law wsX6_befriend := goodIn_r _ [452, 212, 415, 416, 417, 5, 418, 210, 253, 254, 255, 453, 454, 455, 456, 457, 458, 459, 460, 240, 213, 461, 462, 463, 464, 823, 824, 825, 826, 827, 828, 829, 830, 831, 832, 833, 834, 835, 836, 837, 838, 839, 840, 841, 842, 843, 844, 845] (by decide +kernel) (by decide +kernel)
set_option maxRecDepth 20000 in
theorem gL_law_X6_befriend : GoodIn wsL_law (wsV RL 47 RX6 yX6_befriend wsX6_befriend) := goodIn_app (goodIn_of _ (by decide +kernel)) ggL_law_X6_befriend
set_option maxRecDepth 20000 in
theorem ggL_law_X5_ride : GoodIn wsL_law wsX5_ride := goodIn_r _ [468, 17, 22, 27, 469, 321, 190, 191, 16, 192, 145, 432, 433, 434, 21, 435, 198, 199, 200, 201, 203, 204, 470, 471, 472, 473, 474, 340, 341, 342, 343, 344, 345, 346, 347, 348, 349, 350, 351, 187, 2, 188, 352, 331, 332, 333, 46, 353, 354, 355, 356, 357, 184, 185, 186, 50, 358, 359, 360, 361, 323, 324, 325, 43, 362, 363, 364, 475, 476, 477, 478, 45, 479, 302, 303, 304, 47, 441, 442, 443, 26, 444, 309, 65, 445, 446, 447, 448, 812, 813, 814, 815, 816, 817, 818, 819, 820, 821, 822, 860, 861, 862, 863, 864, 865, 846, 847, 848, 849, 850, 851, 852, 853, 854, 855, 856, 857, 858, 859, 866, 867] (by decide +kernel) (by decide +kernel)
set_option maxRecDepth 20000 in
theorem gL_law_X5_ride : GoodIn wsL_law (wsV RL 48 RX5 yX5_ride wsX5_ride) := goodIn_app (goodIn_of _ (by decide +kernel)) ggL_law_X5_ride
set_option maxRecDepth 20000 in
theorem ggL_law_X6_ride : GoodIn wsL_law wsX6_ride := goodIn_r _ [483, 212, 369, 370, 371, 5, 372, 210, 253, 254, 255, 373, 374, 375, 376, 377, 378, 379, 380, 381, 382, 383, 384, 385, 386, 387, 388, 389, 390, 391, 392, 457, 458, 459, 460, 240, 213, 484, 485, 486, 487, 488, 489, 490, 491, 823, 824, 825, 826, 827, 828, 829, 830, 831, 832, 833, 834, 835, 836, 837, 838, 839, 840, 841, 842, 843, 844, 845] (by decide +kernel) (by decide +kernel)
set_option maxRecDepth 20000 in
theorem gL_law_X6_ride : GoodIn wsL_law (wsV RL 51 RX6 yX6_ride wsX6_ride) := goodIn_app (goodIn_of _ (by decide +kernel)) ggL_law_X6_ride
set_option maxRecDepth 20000 in
theorem ggL_law_X5_suggest : GoodIn wsL_law wsX5_suggest := goodIn_r _ [495, 17, 22, 27, 321, 190, 191, 16, 192, 145, 432, 433, 434, 21, 435, 198, 199, 200, 201, 203, 204, 496, 497, 498, 499, 500, 501, 502, 503, 504, 343, 344, 345, 346, 347, 187, 2, 188, 441, 442, 443, 26, 444, 309, 65, 445, 446, 447, 448, 505, 349, 350, 351, 506, 507, 508, 509, 510, 511, 512, 812, 813, 814, 815, 816, 817, 818, 819, 820, 821, 822, 846, 847, 848, 849, 850, 851, 852, 853, 854, 855, 856, 857, 858, 859, 860, 861, 862, 863, 864, 865, 866, 867] (by decide +kernel) (by decide +kernel)
set_option maxRecDepth 20000 in
theorem gL_law_X5_suggest : GoodIn wsL_law (wsV RL 52 RX5 yX5_suggest wsX5_suggest) := goodIn_app (goodIn_of _ (by decide +kernel)) ggL_law_X5_suggest
set_option maxRecDepth 20000 in
theorem ggL_law_X6_suggest : GoodIn wsL_law wsX6_suggest := goodIn_r _ [516, 212, 369, 370, 371, 5, 372, 210, 253, 254, 255, 517, 518, 519, 520, 377, 378, 379, 380, 457, 458, 459, 460, 240, 213, 381, 382, 383, 384, 521, 522, 523, 823, 824, 825, 826, 827, 828, 829, 830, 831, 832, 833, 834, 835, 836, 837, 838, 839, 840, 841, 842, 843, 844, 845] (by decide +kernel) (by decide +kernel)
set_option maxRecDepth 20000 in
theorem gL_law_X6_suggest : GoodIn wsL_law (wsV RL 55 RX6 yX6_suggest wsX6_suggest) := goodIn_app (goodIn_of _ (by decide +kernel)) ggL_law_X6_suggest
set_option maxRecDepth 20000 in
theorem ggL_law_X5_handUp : GoodIn wsL_law wsX5_handUp := goodIn_r _ [527, 17, 22, 27, 469, 321, 190, 191, 16, 192, 145, 432, 433, 434, 21, 435, 198, 199, 200, 201, 203, 204, 528, 529, 530, 531, 343, 344, 345, 346, 347, 348, 349, 350, 351, 187, 2, 188, 532, 327, 328, 329, 44, 441, 442, 443, 26, 444, 309, 65, 445, 446, 447, 448, 812, 813, 814, 815, 816, 817, 818, 819, 820, 821, 822, 860, 861, 862, 863, 864, 865, 846, 847, 848, 849, 850, 851, 852, 853, 854, 855, 856, 857, 858, 859, 866, 867] (by decide +kernel) (by decide +kernel)
set_option maxRecDepth 20000 in
theorem gL_law_X5_handUp : GoodIn wsL_law (wsV RL 56 RX5 yX5_handUp wsX5_handUp) := goodIn_app (goodIn_of _ (by decide +kernel)) ggL_law_X5_handUp
set_option maxRecDepth 20000 in
theorem ggL_law_X6_handUp : GoodIn wsL_law wsX6_handUp := goodIn_r _ [536, 212, 210, 369, 370, 371, 5, 372, 253, 254, 255, 377, 378, 379, 380, 381, 382, 383, 384, 457, 458, 459, 460, 240, 213, 823, 824, 825, 826, 827, 828, 829, 830, 831, 832, 833, 834, 835, 836, 837, 838, 839, 840, 841, 842, 843, 844, 845] (by decide +kernel) (by decide +kernel)
set_option maxRecDepth 20000 in
theorem gL_law_X6_handUp : GoodIn wsL_law (wsV RL 59 RX6 yX6_handUp wsX6_handUp) := goodIn_app (goodIn_of _ (by decide +kernel)) ggL_law_X6_handUp
set_option maxRecDepth 20000 in
theorem ggL_law_X5_undo : GoodIn wsL_law wsX5_undo := goodIn_r _ [540, 27, 541, 22, 542, 543, 544, 26, 545, 309, 65, 546, 547, 548, 21, 549, 198, 199, 200, 201, 203, 204, 812, 813, 814, 815, 816, 817, 818, 819, 820, 821, 822, 866, 867, 860, 861, 862, 863, 864, 865] (by decide +kernel) (by decide +kernel)
set_option maxRecDepth 20000 in
theorem gL_law_X5_undo : GoodIn wsL_law (wsV RL 60 RX5 yX5_undo wsX5_undo) := goodIn_app (goodIn_of _ (by decide +kernel)) ggL_law_X5_undo
set_option maxRecDepth 20000 in
theorem ggL_law_X6_undo : GoodIn wsL_law wsX6_undo := goodIn_r _ [553, 240, 212, 213, 823, 824, 825, 826, 827, 828, 829, 830, 831, 832, 833, 834, 835, 836, 837, 838, 839, 840, 841, 842, 843, 844, 845] (by decide +kernel) (by decide +kernel)
set_option maxRecDepth 20000 in
theorem gL_law_X6_undo : GoodIn wsL_law (wsV RL 63 RX6 yX6_undo wsX6_undo) := goodIn_app (goodIn_of _ (by decide +kernel)) ggL_law_X6_undo
set_option maxRecDepth 20000 in
theorem ggL_law_X5_mayCome : GoodIn wsL_law wsX5_mayCome := goodIn_r _ [557, 22, 17, 558, 559, 560, 21, 561, 504, 199, 348, 349, 350, 351, 198, 187, 2, 188, 479, 302, 303, 16, 304, 47, 812, 813, 814, 815, 816, 817, 818, 819, 820, 821, 822, 846, 847, 848, 849, 850, 851, 852, 853, 854, 855, 856, 857, 858, 859, 860, 861, 862, 863, 864, 865] (by decide +kernel) (by decide +kernel)
set_option maxRecDepth 20000 in
theorem gL_law_X5_mayCome : GoodIn wsL_law (wsV RL 64 RX5 yX5_mayCome wsX5_mayCome) := goodIn_app (goodIn_of _ (by decide +kernel)) ggL_law_X5_mayCome
