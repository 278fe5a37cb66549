/-! the words of the law's calls -/
set_option maxRecDepth 20000 in
theorem gL_law_X5_rows : GoodIn wsL_law (wsV RL 92 RX5 yX5_rows wsX5_rows) := goodIn_app (goodIn_of _ (by decide +kernel)) ggL_law_X5_rows
set_option maxRecDepth 20000 in
theorem ggL_law_X6_rows : GoodIn wsL_law wsX6_rows := goodIn_r _ [723, 633, 634, 222, 253, 254, 5, 255, 635, 636, 637, 638, 216, 212, 217, 218, 219, 220, 210, 221, 377, 378, 379, 380, 381, 382, 383, 384, 639, 640, 641, 642, 643, 644, 645, 646, 242, 215, 385, 386, 387, 388, 389, 390, 391, 392, 488, 489, 490, 491, 823, 824, 825, 826, 827, 828, 829, 830, 831, 832, 833, 834, 835, 836, 837, 838, 839, 840, 841, 842, 843, 844, 845] (by decide +kernel) (by decide +kernel)
set_option maxRecDepth 20000 in
theorem gL_law_X6_rows : GoodIn wsL_law (wsV RL 95 RX6 yX6_rows wsX6_rows) := goodIn_app (goodIn_of _ (by decide +kernel)) ggL_law_X6_rows
set_option maxRecDepth 20000 in
theorem ggL_law_X5_forWhat : GoodIn wsL_law wsX5_forWhat := goodIn_r _ [727, 17, 22, 320, 319, 321, 190, 191, 16, 192, 145, 335, 187, 2, 188, 728, 729, 730, 731, 301, 302, 303, 304, 47, 558, 559, 560, 21, 561, 504, 199, 348, 349, 350, 351, 198, 479, 812, 813, 814, 815, 816, 817, 818, 819, 820, 821, 822, 860, 861, 862, 863, 864, 865, 846, 847, 848, 849, 850, 851, 852, 853, 854, 855, 856, 857, 858, 859] (by decide +kernel) (by decide +kernel)
set_option maxRecDepth 20000 in
theorem gL_law_X5_forWhat : GoodIn wsL_law (wsV RL 96 RX5 yX5_forWhat wsX5_forWhat) := goodIn_app (goodIn_of _ (by decide +kernel)) ggL_law_X5_forWhat
set_option maxRecDepth 20000 in
theorem ggL_law_X6_forWhat : GoodIn wsL_law wsX6_forWhat := goodIn_r _ [735, 212, 210, 369, 370, 371, 5, 372, 253, 254, 255, 566, 567, 568, 569, 381, 382, 383, 384, 823, 824, 825, 826, 827, 828, 829, 830, 831, 832, 833, 834, 835, 836, 837, 838, 839, 840, 841, 842, 843, 844, 845] (by decide +kernel) (by decide +kernel)
set_option maxRecDepth 20000 in
theorem gL_law_X6_forWhat : GoodIn wsL_law (wsV RL 99 RX6 yX6_forWhat wsX6_forWhat) := goodIn_app (goodIn_of _ (by decide +kernel)) ggL_law_X6_forWhat
set_option maxRecDepth 20000 in
theorem ggL_law_X5_grooms : GoodIn wsL_law wsX5_grooms := goodIn_r _ [739, 22, 17, 740, 501, 502, 21, 503, 504, 198, 343, 344, 345, 346, 204, 347, 187, 2, 188, 741, 742, 743, 744, 23, 319, 37, 745, 746, 747, 506, 507, 508, 509, 510, 511, 512, 748, 749, 750, 432, 433, 434, 435, 199, 200, 201, 203, 546, 547, 548, 549, 751, 659, 660, 36, 661, 88, 86, 657, 579, 580, 581, 582, 87, 89, 583, 584, 585, 586, 587, 588, 589, 590, 559, 560, 561, 348, 349, 350, 351, 479, 302, 303, 16, 304, 47, 591, 592, 593, 594, 145, 595, 476, 477, 478, 45, 596, 597, 598, 599, 600, 601, 602, 603, 604, 31, 605, 76, 606, 607, 608, 609, 84, 610, 611, 612, 613, 614, 615, 70, 173, 174, 616, 471, 472, 473, 474, 340, 341, 342, 352, 331, 332, 333, 46, 353, 354, 355, 356, 357, 184, 185, 186, 50, 358, 359, 360, 361, 323, 324, 325, 43, 362, 363, 364, 475, 617, 618, 619, 620, 752, 753, 754, 812, 813, 814, 815, 816, 817, 818, 819, 820, 821, 822, 846, 847, 848, 849, 850, 851, 852, 853, 854, 855, 856, 857, 858, 859, 860, 861, 862, 863, 864, 865, 871, 872, 873, 874, 875, 876, 877, 878, 868, 869, 870] (by decide +kernel) (by decide +kernel)
set_option maxRecDepth 20000 in
theorem gL_law_X5_grooms : GoodIn wsL_law (wsV RL 100 RX5 yX5_grooms wsX5_grooms) := goodIn_app (goodIn_of _ (by decide +kernel)) ggL_law_X5_grooms
set_option maxRecDepth 20000 in
theorem ggL_law_X6_grooms : GoodIn wsL_law wsX6_grooms := goodIn_r _ [758, 212, 210, 633, 253, 254, 5, 255, 517, 518, 519, 520, 377, 378, 379, 380, 521, 522, 523, 635, 636, 637, 638, 634, 216, 217, 218, 219, 220, 221, 381, 382, 383, 384, 639, 640, 641, 642, 222, 643, 644, 645, 646, 242, 215, 385, 386, 387, 388, 389, 390, 391, 392, 488, 489, 490, 491, 823, 824, 825, 826, 827, 828, 829, 830, 831, 832, 833, 834, 835, 836, 837, 838, 839, 840, 841, 842, 843, 844, 845] (by decide +kernel) (by decide +kernel)
set_option maxRecDepth 20000 in
theorem gL_law_X6_grooms : GoodIn wsL_law (wsV RL 103 RX6 yX6_grooms wsX6_grooms) := goodIn_app (goodIn_of _ (by decide +kernel)) ggL_law_X6_grooms
set_option maxRecDepth 20000 in
theorem ggL_law_X5_king : GoodIn wsL_law wsX5_king := goodIn_r _ [762, 23, 22, 320, 469, 17, 432, 433, 434, 21, 435, 198, 199, 200, 201, 203, 204, 546, 547, 548, 549, 763, 764, 2, 765, 766, 767, 768, 769, 770, 771, 772, 773, 296, 774, 470, 471, 472, 473, 474, 340, 341, 342, 343, 344, 345, 346, 347, 348, 349, 350, 351, 187, 188, 352, 331, 332, 16, 333, 46, 353, 354, 355, 356, 357, 184, 185, 186, 50, 358, 359, 360, 361, 323, 324, 325, 43, 362, 363, 364, 475, 476, 477, 478, 45, 479, 302, 303, 304, 47, 436, 437, 438, 439, 440, 408, 409, 410, 49, 496, 497, 498, 499, 500, 501, 502, 503, 504, 506, 507, 508, 509, 510, 511, 512, 775, 336, 337, 338, 812, 813, 814, 815, 816, 817, 818, 819, 820, 821, 822, 860, 861, 862, 863, 864, 865, 846, 847, 848, 849, 850, 851, 852, 853, 854, 855, 856, 857, 858, 859] (by decide +kernel) (by decide +kernel)
set_option maxRecDepth 20000 in
theorem gL_law_X5_king : GoodIn wsL_law (wsV RL 104 RX5 yX5_king wsX5_king) := goodIn_app (goodIn_of _ (by decide +kernel)) ggL_law_X5_king
set_option maxRecDepth 20000 in
theorem ggL_law_X6_king : GoodIn wsL_law wsX6_king := goodIn_r _ [779, 223, 212, 780, 781, 782, 253, 254, 5, 255, 783, 784, 785, 786, 210, 373, 374, 375, 376, 377, 378, 379, 380, 381, 382, 383, 384, 385, 386, 387, 388, 389, 390, 391, 392, 484, 485, 486, 487, 488, 489, 490, 491, 453, 454, 455, 456, 461, 462, 463, 464, 517, 518, 519, 520, 521, 522, 523, 823, 824, 825, 826, 827, 828, 829, 830, 831, 832, 833, 834, 835, 836, 837, 838, 839, 840, 841, 842, 843, 844, 845] (by decide +kernel) (by decide +kernel)
set_option maxRecDepth 20000 in
theorem gL_law_X6_king : GoodIn wsL_law (wsV RL 108 RX6 yX6_king wsX6_king) := goodIn_app (goodIn_of _ (by decide +kernel)) ggL_law_X6_king
set_option maxRecDepth 20000 in
theorem ggL_law_X5_keep : GoodIn wsL_law wsX5_keep := goodIn_r _ [790, 28, 541, 22, 432, 433, 434, 21, 435, 198, 199, 200, 201, 203, 204, 441, 442, 443, 26, 444, 309, 65, 445, 446, 447, 448, 812, 813, 814, 815, 816, 817, 818, 819, 820, 821, 822, 866, 867, 860, 861, 862, 863, 864, 865] (by decide +kernel) (by decide +kernel)
set_option maxRecDepth 20000 in
theorem gL_law_X5_keep : GoodIn wsL_law (wsV RL 109 RX5 yX5_keep wsX5_keep) := goodIn_app (goodIn_of _ (by decide +kernel)) ggL_law_X5_keep
set_option maxRecDepth 20000 in
theorem ggL_law_X6_keep : GoodIn wsL_law wsX6_keep := goodIn_r _ [794, 241, 214, 212, 823, 824, 825, 826, 827, 828, 829, 830, 831, 832, 833, 834, 835, 836, 837, 838, 839, 840, 841, 842, 843, 844, 845] (by decide +kernel) (by decide +kernel)
set_option maxRecDepth 20000 in
theorem gL_law_X6_keep : GoodIn wsL_law (wsV RL 112 RX6 yX6_keep wsX6_keep) := goodIn_app (goodIn_of _ (by decide +kernel)) ggL_law_X6_keep
set_option maxRecDepth 20000 in
theorem ggL_law_X5_back : GoodIn wsL_law wsX5_back := goodIn_r _ [798, 28, 541, 22, 27, 542, 543, 544, 26, 545, 309, 65, 546, 547, 548, 21, 549, 198, 199, 200, 201, 203, 204, 305, 306, 307, 308, 812, 813, 814, 815, 816, 817, 818, 819, 820, 821, 822, 866, 867, 860, 861, 862, 863, 864, 865] (by decide +kernel) (by decide +kernel)
set_option maxRecDepth 20000 in
theorem gL_law_X5_back : GoodIn wsL_law (wsV RL 113 RX5 yX5_back wsX5_back) := goodIn_app (goodIn_of _ (by decide +kernel)) ggL_law_X5_back
set_option maxRecDepth 20000 in
theorem ggL_law_X6_back : GoodIn wsL_law wsX6_back := goodIn_r _ [802, 241, 212, 214, 240, 823, 824, 825, 826, 827, 828, 829, 830, 831, 832, 833, 834, 835, 836, 837, 838, 839, 840, 841, 842, 843, 844, 845] (by decide +kernel) (by decide +kernel)
set_option maxRecDepth 20000 in
theorem gL_law_X6_back : GoodIn wsL_law (wsV RL 116 RX6 yX6_back wsX6_back) := goodIn_app (goodIn_of _ (by decide +kernel)) ggL_law_X6_back
set_option maxRecDepth 20000 in
theorem ggL_law_X5_count : GoodIn wsL_law wsX5_count := goodIn_r _ [806, 17, 296, 774, 22, 320, 431, 469, 32, 698, 27, 541, 28, 247, 505, 349, 350, 21, 351, 198, 199, 506, 507, 508, 509, 510, 511, 512, 807, 354, 355, 356, 200, 201, 775, 344, 345, 346, 204, 347, 336, 337, 2, 338, 812, 813, 814, 815, 816, 817, 818, 819, 820, 821, 822, 846, 847, 848, 849, 850, 851, 852, 853, 854, 855, 856, 857, 858, 859, 860, 861, 862, 863, 864, 865, 868, 869, 870, 866, 867] (by decide +kernel) (by decide +kernel)
set_option maxRecDepth 20000 in
theorem gL_law_X5_count : GoodIn wsL_law (wsV RL 117 RX5 yX5_count wsX5_count) := goodIn_app (goodIn_of _ (by decide +kernel)) ggL_law_X5_count
set_option maxRecDepth 20000 in
theorem ggL_law_X6_count : GoodIn wsL_law wsX6_count := goodIn_r _ [811, 210, 212, 242, 240, 241, 252, 381, 382, 383, 5, 384, 521, 522, 523, 377, 378, 379, 380, 823, 824, 825, 826, 827, 828, 829, 830, 831, 832, 833, 834, 835, 836, 837, 838, 839, 840, 841, 842, 843, 844, 845] (by decide +kernel) (by decide +kernel)
set_option maxRecDepth 20000 in
theorem gL_law_X6_count : GoodIn wsL_law (wsV RL 120 RX6 yX6_count wsX6_count) := goodIn_app (goodIn_of _ (by decide +kernel)) ggL_law_X6_count
