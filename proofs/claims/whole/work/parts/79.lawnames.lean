/-! the words of the law's calls -/
set_option maxRecDepth 20000 in
theorem gL_law_X5_rows : GoodIn wsL_law (wsV RL 92 RX5 yX5_rows wsX5_rows) := goodIn_app (goodIn_of _ (by decide +kernel)) ggL_law_X5_rows
set_option maxRecDepth 20000 in
theorem ggL_law_X6_rows : GoodIn wsL_law wsX6_rows := goodIn_r _ [742, 653, 654, 221, 252, 253, 5, 254, 655, 656, 657, 658, 215, 211, 216, 217, 218, 219, 209, 220, 376, 377, 378, 379, 380, 381, 382, 383, 659, 660, 661, 662, 663, 664, 665, 666, 241, 214, 384, 385, 386, 387, 388, 389, 390, 391, 487, 488, 489, 490, 842, 843, 844, 845, 846, 847, 848, 849, 850, 851, 852, 853, 854, 855, 856, 857, 858, 859, 860, 861, 862, 863, 864] (by decide +kernel) (by decide +kernel)
set_option maxRecDepth 20000 in
theorem gL_law_X6_rows : GoodIn wsL_law (wsV RL 95 RX6 yX6_rows wsX6_rows) := goodIn_app (goodIn_of _ (by decide +kernel)) ggL_law_X6_rows
set_option maxRecDepth 20000 in
theorem ggL_law_X5_forWhat : GoodIn wsL_law wsX5_forWhat := goodIn_r _ [746, 17, 22, 319, 318, 320, 189, 190, 16, 191, 144, 334, 186, 2, 187, 747, 748, 749, 750, 300, 301, 302, 303, 47, 557, 558, 559, 21, 560, 503, 198, 347, 348, 349, 350, 197, 478, 831, 832, 833, 834, 835, 836, 837, 838, 839, 840, 841, 879, 880, 881, 882, 883, 884, 865, 866, 867, 868, 869, 870, 871, 872, 873, 874, 875, 876, 877, 878] (by decide +kernel) (by decide +kernel)
set_option maxRecDepth 20000 in
theorem gL_law_X5_forWhat : GoodIn wsL_law (wsV RL 96 RX5 yX5_forWhat wsX5_forWhat) := goodIn_app (goodIn_of _ (by decide +kernel)) ggL_law_X5_forWhat
set_option maxRecDepth 20000 in
theorem ggL_law_X6_forWhat : GoodIn wsL_law wsX6_forWhat := goodIn_r _ [754, 211, 209, 368, 369, 370, 5, 371, 252, 253, 254, 565, 566, 567, 568, 380, 381, 382, 383, 842, 843, 844, 845, 846, 847, 848, 849, 850, 851, 852, 853, 854, 855, 856, 857, 858, 859, 860, 861, 862, 863, 864] (by decide +kernel) (by decide +kernel)
set_option maxRecDepth 20000 in
theorem gL_law_X6_forWhat : GoodIn wsL_law (wsV RL 99 RX6 yX6_forWhat wsX6_forWhat) := goodIn_app (goodIn_of _ (by decide +kernel)) ggL_law_X6_forWhat
set_option maxRecDepth 20000 in
theorem ggL_law_X5_grooms : GoodIn wsL_law wsX5_grooms := goodIn_r _ [758, 22, 17, 759, 500, 501, 21, 502, 503, 197, 342, 343, 344, 345, 203, 346, 186, 2, 187, 760, 761, 762, 763, 23, 318, 37, 764, 765, 766, 505, 506, 507, 508, 509, 510, 511, 767, 768, 769, 431, 432, 433, 434, 198, 199, 200, 202, 545, 546, 547, 548, 770, 678, 679, 36, 680, 87, 578, 579, 580, 581, 86, 88, 582, 583, 85, 584, 585, 586, 587, 588, 589, 590, 558, 559, 560, 347, 348, 349, 350, 478, 301, 302, 16, 303, 47, 591, 592, 593, 594, 144, 595, 475, 476, 477, 45, 596, 353, 354, 355, 597, 598, 599, 600, 601, 602, 603, 604, 605, 606, 322, 323, 324, 43, 607, 608, 609, 610, 611, 330, 331, 332, 46, 182, 183, 184, 185, 50, 612, 613, 614, 615, 616, 617, 618, 619, 620, 31, 621, 76, 622, 623, 624, 625, 83, 626, 627, 628, 629, 630, 631, 632, 633, 634, 635, 70, 172, 173, 636, 470, 471, 472, 473, 339, 340, 341, 351, 352, 356, 357, 358, 359, 360, 361, 362, 363, 474, 637, 638, 639, 640, 771, 772, 773, 831, 832, 833, 834, 835, 836, 837, 838, 839, 840, 841, 865, 866, 867, 868, 869, 870, 871, 872, 873, 874, 875, 876, 877, 878, 879, 880, 881, 882, 883, 884, 890, 891, 892, 893, 894, 895, 896, 897, 887, 888, 889] (by decide +kernel) (by decide +kernel)
set_option maxRecDepth 20000 in
theorem gL_law_X5_grooms : GoodIn wsL_law (wsV RL 100 RX5 yX5_grooms wsX5_grooms) := goodIn_app (goodIn_of _ (by decide +kernel)) ggL_law_X5_grooms
set_option maxRecDepth 20000 in
theorem ggL_law_X6_grooms : GoodIn wsL_law wsX6_grooms := goodIn_r _ [777, 211, 209, 653, 252, 253, 5, 254, 516, 517, 518, 519, 376, 377, 378, 379, 520, 521, 522, 655, 656, 657, 658, 654, 215, 216, 217, 218, 219, 220, 380, 381, 382, 383, 659, 660, 661, 662, 221, 663, 664, 665, 666, 241, 214, 384, 385, 386, 387, 388, 389, 390, 391, 487, 488, 489, 490, 842, 843, 844, 845, 846, 847, 848, 849, 850, 851, 852, 853, 854, 855, 856, 857, 858, 859, 860, 861, 862, 863, 864] (by decide +kernel) (by decide +kernel)
set_option maxRecDepth 20000 in
theorem gL_law_X6_grooms : GoodIn wsL_law (wsV RL 103 RX6 yX6_grooms wsX6_grooms) := goodIn_app (goodIn_of _ (by decide +kernel)) ggL_law_X6_grooms
set_option maxRecDepth 20000 in
theorem ggL_law_X5_king : GoodIn wsL_law wsX5_king := goodIn_r _ [781, 23, 22, 319, 468, 17, 431, 432, 433, 21, 434, 197, 198, 199, 200, 202, 203, 545, 546, 547, 548, 782, 783, 2, 784, 785, 786, 787, 788, 789, 790, 791, 792, 295, 793, 469, 470, 471, 472, 473, 339, 340, 341, 342, 343, 344, 345, 346, 347, 348, 349, 350, 186, 187, 351, 330, 331, 16, 332, 46, 352, 353, 354, 355, 356, 183, 184, 185, 50, 357, 358, 359, 360, 322, 323, 324, 43, 361, 362, 363, 474, 475, 476, 477, 45, 478, 301, 302, 303, 47, 435, 436, 437, 438, 439, 407, 408, 409, 49, 495, 496, 497, 498, 499, 500, 501, 502, 503, 505, 506, 507, 508, 509, 510, 511, 794, 335, 336, 337, 831, 832, 833, 834, 835, 836, 837, 838, 839, 840, 841, 879, 880, 881, 882, 883, 884, 865, 866, 867, 868, 869, 870, 871, 872, 873, 874, 875, 876, 877, 878] (by decide +kernel) (by decide +kernel)
set_option maxRecDepth 20000 in
theorem gL_law_X5_king : GoodIn wsL_law (wsV RL 104 RX5 yX5_king wsX5_king) := goodIn_app (goodIn_of _ (by decide +kernel)) ggL_law_X5_king
set_option maxRecDepth 20000 in
theorem ggL_law_X6_king : GoodIn wsL_law wsX6_king := goodIn_r _ [798, 222, 211, 799, 800, 801, 252, 253, 5, 254, 802, 803, 804, 805, 209, 372, 373, 374, 375, 376, 377, 378, 379, 380, 381, 382, 383, 384, 385, 386, 387, 388, 389, 390, 391, 483, 484, 485, 486, 487, 488, 489, 490, 452, 453, 454, 455, 460, 461, 462, 463, 516, 517, 518, 519, 520, 521, 522, 842, 843, 844, 845, 846, 847, 848, 849, 850, 851, 852, 853, 854, 855, 856, 857, 858, 859, 860, 861, 862, 863, 864] (by decide +kernel) (by decide +kernel)
set_option maxRecDepth 20000 in
theorem gL_law_X6_king : GoodIn wsL_law (wsV RL 108 RX6 yX6_king wsX6_king) := goodIn_app (goodIn_of _ (by decide +kernel)) ggL_law_X6_king
set_option maxRecDepth 20000 in
theorem ggL_law_X5_keep : GoodIn wsL_law wsX5_keep := goodIn_r _ [809, 28, 540, 22, 431, 432, 433, 21, 434, 197, 198, 199, 200, 202, 203, 440, 441, 442, 26, 443, 308, 65, 444, 445, 446, 447, 831, 832, 833, 834, 835, 836, 837, 838, 839, 840, 841, 885, 886, 879, 880, 881, 882, 883, 884] (by decide +kernel) (by decide +kernel)
set_option maxRecDepth 20000 in
theorem gL_law_X5_keep : GoodIn wsL_law (wsV RL 109 RX5 yX5_keep wsX5_keep) := goodIn_app (goodIn_of _ (by decide +kernel)) ggL_law_X5_keep
set_option maxRecDepth 20000 in
theorem ggL_law_X6_keep : GoodIn wsL_law wsX6_keep := goodIn_r _ [813, 240, 213, 211, 842, 843, 844, 845, 846, 847, 848, 849, 850, 851, 852, 853, 854, 855, 856, 857, 858, 859, 860, 861, 862, 863, 864] (by decide +kernel) (by decide +kernel)
set_option maxRecDepth 20000 in
theorem gL_law_X6_keep : GoodIn wsL_law (wsV RL 112 RX6 yX6_keep wsX6_keep) := goodIn_app (goodIn_of _ (by decide +kernel)) ggL_law_X6_keep
set_option maxRecDepth 20000 in
theorem ggL_law_X5_back : GoodIn wsL_law wsX5_back := goodIn_r _ [817, 28, 540, 22, 27, 541, 542, 543, 26, 544, 308, 65, 545, 546, 547, 21, 548, 197, 198, 199, 200, 202, 203, 304, 305, 306, 307, 831, 832, 833, 834, 835, 836, 837, 838, 839, 840, 841, 885, 886, 879, 880, 881, 882, 883, 884] (by decide +kernel) (by decide +kernel)
set_option maxRecDepth 20000 in
theorem gL_law_X5_back : GoodIn wsL_law (wsV RL 113 RX5 yX5_back wsX5_back) := goodIn_app (goodIn_of _ (by decide +kernel)) ggL_law_X5_back
set_option maxRecDepth 20000 in
theorem ggL_law_X6_back : GoodIn wsL_law wsX6_back := goodIn_r _ [821, 240, 211, 213, 239, 842, 843, 844, 845, 846, 847, 848, 849, 850, 851, 852, 853, 854, 855, 856, 857, 858, 859, 860, 861, 862, 863, 864] (by decide +kernel) (by decide +kernel)
set_option maxRecDepth 20000 in
theorem gL_law_X6_back : GoodIn wsL_law (wsV RL 116 RX6 yX6_back wsX6_back) := goodIn_app (goodIn_of _ (by decide +kernel)) ggL_law_X6_back
set_option maxRecDepth 20000 in
theorem ggL_law_X5_count : GoodIn wsL_law wsX5_count := goodIn_r _ [825, 17, 295, 793, 22, 319, 430, 468, 32, 717, 27, 540, 28, 246, 504, 348, 349, 21, 350, 197, 198, 505, 506, 507, 508, 509, 510, 511, 826, 353, 354, 355, 199, 200, 794, 343, 344, 345, 203, 346, 335, 336, 2, 337, 831, 832, 833, 834, 835, 836, 837, 838, 839, 840, 841, 865, 866, 867, 868, 869, 870, 871, 872, 873, 874, 875, 876, 877, 878, 879, 880, 881, 882, 883, 884, 887, 888, 889, 885, 886] (by decide +kernel) (by decide +kernel)
set_option maxRecDepth 20000 in
theorem gL_law_X5_count : GoodIn wsL_law (wsV RL 117 RX5 yX5_count wsX5_count) := goodIn_app (goodIn_of _ (by decide +kernel)) ggL_law_X5_count
set_option maxRecDepth 20000 in
theorem ggL_law_X6_count : GoodIn wsL_law wsX6_count := goodIn_r _ [830, 209, 211, 241, 239, 240, 251, 380, 381, 382, 5, 383, 520, 521, 522, 376, 377, 378, 379, 842, 843, 844, 845, 846, 847, 848, 849, 850, 851, 852, 853, 854, 855, 856, 857, 858, 859, 860, 861, 862, 863, 864] (by decide +kernel) (by decide +kernel)
set_option maxRecDepth 20000 in
theorem gL_law_X6_count : GoodIn wsL_law (wsV RL 120 RX6 yX6_count wsX6_count) := goodIn_app (goodIn_of _ (by decide +kernel)) ggL_law_X6_count
