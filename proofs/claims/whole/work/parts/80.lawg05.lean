set_option maxRecDepth 20000 in
theorem ggL_law_X11_again : GoodIn wsL_law wsX11_again := goodIn_r _ [769, 105, 418, 124, 54, 87, 88, 5, 89, 125, 126, 127, 128, 56, 899, 900, 901, 902, 903, 904, 905, 906, 907, 908, 909, 910, 911, 912, 913, 914, 915, 916, 917, 918, 919, 920, 921, 922] (by decide +kernel) (by decide +kernel)
set_option maxRecDepth 20000 in
theorem gL_law_X11_again : GoodIn wsL_law (wsV RL 115 RX11 yX11_again wsX11_again) := goodIn_app (goodIn_of _ (by decide +kernel)) ggL_law_X11_again
set_option maxRecDepth 20000 in
theorem ggL_law_X10_narrow : GoodIn wsL_law wsX10_narrow := goodIn_r _ [773, 133, 774, 775, 776, 777, 16, 73, 778, 779, 74, 75, 2, 76, 780, 781, 782, 11, 12, 32, 783, 784, 785, 786, 787, 788, 789, 790, 791, 792, 793, 794, 795, 796, 797, 798, 799, 800, 801, 802, 803, 318, 204, 319, 804, 805, 806, 807, 808, 809, 810, 811, 812, 378, 364, 379, 380, 381, 368, 369, 382, 383, 372, 373, 374, 375, 376, 490, 412, 413, 890, 891, 892, 893, 894, 895, 896, 897, 898, 971, 972, 973, 974, 975, 976, 977, 978, 979, 980, 923, 924, 925, 926, 927] (by decide +kernel) (by decide +kernel)
set_option maxRecDepth 20000 in
theorem gL_law_X10_narrow : GoodIn wsL_law (wsV RL 116 RX10 yX10_narrow wsX10_narrow) := goodIn_app (goodIn_of _ (by decide +kernel)) ggL_law_X10_narrow
set_option maxRecDepth 20000 in
theorem ggL_law_X11_narrow : GoodIn wsL_law wsX11_narrow := goodIn_r _ [816, 817, 168, 818, 66, 54, 67, 238, 87, 88, 5, 89, 819, 820, 821, 822, 823, 824, 825, 826, 124, 56, 125, 126, 127, 128, 827, 828, 829, 830, 899, 900, 901, 902, 903, 904, 905, 906, 907, 908, 909, 910, 911, 912, 913, 914, 915, 916, 917, 918, 919, 920, 921, 922] (by decide +kernel) (by decide +kernel)
set_option maxRecDepth 20000 in
theorem gL_law_X11_narrow : GoodIn wsL_law (wsV RL 119 RX11 yX11_narrow wsX11_narrow) := goodIn_app (goodIn_of _ (by decide +kernel)) ggL_law_X11_narrow
set_option maxRecDepth 20000 in
theorem ggL_law_X10_bare : GoodIn wsL_law wsX10_bare := goodIn_r _ [834, 74, 75, 2, 76, 835, 836, 837, 838, 839, 840, 841, 842, 16, 843, 844, 845, 846, 11, 12, 847, 32, 848, 59, 849, 850, 851, 852, 853, 854, 855, 856, 857, 858, 859, 860, 861, 412, 413, 890, 891, 892, 893, 894, 895, 896, 897, 898, 981, 982, 983, 984, 923, 924, 925, 926, 927] (by decide +kernel) (by decide +kernel)
set_option maxRecDepth 20000 in
theorem gL_law_X10_bare : GoodIn wsL_law (wsV RL 120 RX10 yX10_bare wsX10_bare) := goodIn_app (goodIn_of _ (by decide +kernel)) ggL_law_X10_bare
set_option maxRecDepth 20000 in
theorem ggL_law_X11_bare : GoodIn wsL_law wsX11_bare := goodIn_r _ [865, 418, 68, 87, 88, 5, 89, 178, 179, 180, 181, 124, 55, 56, 125, 126, 127, 128, 54, 899, 900, 901, 902, 903, 904, 905, 906, 907, 908, 909, 910, 911, 912, 913, 914, 915, 916, 917, 918, 919, 920, 921, 922] (by decide +kernel) (by decide +kernel)
set_option maxRecDepth 20000 in
theorem gL_law_X11_bare : GoodIn wsL_law (wsV RL 123 RX11 yX11_bare wsX11_bare) := goodIn_app (goodIn_of _ (by decide +kernel)) ggL_law_X11_bare
set_option maxRecDepth 20000 in
theorem ggL_law_X10_raised : GoodIn wsL_law wsX10_raised := goodIn_r _ [869, 74, 75, 2, 76, 835, 836, 837, 838, 839, 840, 841, 842, 16, 843, 844, 845, 846, 11, 12, 847, 32, 848, 59, 849, 850, 851, 852, 853, 854, 855, 856, 857, 870, 871, 872, 873, 412, 413, 890, 891, 892, 893, 894, 895, 896, 897, 898, 981, 982, 983, 984, 923, 924, 925, 926, 927] (by decide +kernel) (by decide +kernel)
set_option maxRecDepth 20000 in
theorem gL_law_X10_raised : GoodIn wsL_law (wsV RL 124 RX10 yX10_raised wsX10_raised) := goodIn_app (goodIn_of _ (by decide +kernel)) ggL_law_X10_raised
set_option maxRecDepth 20000 in
theorem ggL_law_X11_raised : GoodIn wsL_law wsX11_raised := goodIn_r _ [877, 418, 87, 88, 5, 89, 178, 179, 180, 181, 124, 55, 56, 125, 126, 127, 128, 54, 899, 900, 901, 902, 903, 904, 905, 906, 907, 908, 909, 910, 911, 912, 913, 914, 915, 916, 917, 918, 919, 920, 921, 922] (by decide +kernel) (by decide +kernel)
set_option maxRecDepth 20000 in
theorem gL_law_X11_raised : GoodIn wsL_law (wsV RL 127 RX11 yX11_raised wsX11_raised) := goodIn_app (goodIn_of _ (by decide +kernel)) ggL_law_X11_raised
set_option maxRecDepth 20000 in
theorem ggL_law_X10_count : GoodIn wsL_law wsX10_count := goodIn_r _ [881, 16, 73, 882, 883, 884, 15, 885, 33, 890, 891, 892, 893, 894, 895, 896, 897, 898, 923, 924, 925, 926, 927] (by decide +kernel) (by decide +kernel)
set_option maxRecDepth 20000 in
theorem gL_law_X10_count : GoodIn wsL_law (wsV RL 128 RX10 yX10_count wsX10_count) := goodIn_app (goodIn_of _ (by decide +kernel)) ggL_law_X10_count
set_option maxRecDepth 20000 in
theorem ggL_law_X11_count : GoodIn wsL_law wsX11_count := goodIn_r _ [889, 55, 54, 899, 900, 901, 902, 903, 904, 905, 906, 907, 908, 909, 910, 911, 912, 913, 914, 915, 916, 917, 918, 919, 920, 921, 922] (by decide +kernel) (by decide +kernel)
set_option maxRecDepth 20000 in
theorem gL_law_X11_count : GoodIn wsL_law (wsV RL 131 RX11 yX11_count wsX11_count) := goodIn_app (goodIn_of _ (by decide +kernel)) ggL_law_X11_count
