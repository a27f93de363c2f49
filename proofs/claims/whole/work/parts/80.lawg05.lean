set_option maxRecDepth 20000 in
theorem ggL_law_X11_again : GoodIn wsL_law wsX11_again := goodIn_r _ [766, 105, 415, 124, 54, 87, 88, 5, 89, 125, 126, 127, 128, 56, 896, 897, 898, 899, 900, 901, 902, 903, 904, 905, 906, 907, 908, 909, 910, 911, 912, 913, 914, 915, 916, 917, 918, 919] (by decide +kernel) (by decide +kernel)
set_option maxRecDepth 20000 in
theorem gL_law_X11_again : GoodIn wsL_law (wsV RL 115 RX11 yX11_again wsX11_again) := goodIn_app (goodIn_of _ (by decide +kernel)) ggL_law_X11_again
set_option maxRecDepth 20000 in
theorem ggL_law_X10_narrow : GoodIn wsL_law wsX10_narrow := goodIn_r _ [770, 133, 771, 772, 773, 774, 16, 73, 775, 776, 74, 75, 2, 76, 777, 778, 779, 11, 12, 32, 780, 781, 782, 783, 784, 785, 786, 787, 788, 789, 790, 791, 792, 793, 794, 795, 796, 797, 798, 799, 800, 315, 201, 316, 801, 802, 803, 804, 805, 806, 807, 808, 809, 375, 361, 376, 377, 378, 365, 366, 379, 380, 369, 370, 371, 372, 373, 487, 409, 410, 887, 888, 889, 890, 891, 892, 893, 894, 895, 968, 969, 970, 971, 972, 973, 974, 975, 976, 977, 920, 921, 922, 923, 924] (by decide +kernel) (by decide +kernel)
set_option maxRecDepth 20000 in
theorem gL_law_X10_narrow : GoodIn wsL_law (wsV RL 116 RX10 yX10_narrow wsX10_narrow) := goodIn_app (goodIn_of _ (by decide +kernel)) ggL_law_X10_narrow
set_option maxRecDepth 20000 in
theorem ggL_law_X11_narrow : GoodIn wsL_law wsX11_narrow := goodIn_r _ [813, 814, 165, 815, 66, 54, 67, 235, 87, 88, 5, 89, 816, 817, 818, 819, 820, 821, 822, 823, 124, 56, 125, 126, 127, 128, 824, 825, 826, 827, 896, 897, 898, 899, 900, 901, 902, 903, 904, 905, 906, 907, 908, 909, 910, 911, 912, 913, 914, 915, 916, 917, 918, 919] (by decide +kernel) (by decide +kernel)
set_option maxRecDepth 20000 in
theorem gL_law_X11_narrow : GoodIn wsL_law (wsV RL 119 RX11 yX11_narrow wsX11_narrow) := goodIn_app (goodIn_of _ (by decide +kernel)) ggL_law_X11_narrow
set_option maxRecDepth 20000 in
theorem ggL_law_X10_bare : GoodIn wsL_law wsX10_bare := goodIn_r _ [831, 74, 75, 2, 76, 832, 833, 834, 835, 836, 837, 838, 839, 16, 840, 841, 842, 843, 11, 12, 844, 32, 845, 59, 846, 847, 848, 849, 850, 851, 852, 853, 854, 855, 856, 857, 858, 409, 410, 887, 888, 889, 890, 891, 892, 893, 894, 895, 978, 979, 980, 981, 920, 921, 922, 923, 924] (by decide +kernel) (by decide +kernel)
set_option maxRecDepth 20000 in
theorem gL_law_X10_bare : GoodIn wsL_law (wsV RL 120 RX10 yX10_bare wsX10_bare) := goodIn_app (goodIn_of _ (by decide +kernel)) ggL_law_X10_bare
set_option maxRecDepth 20000 in
theorem ggL_law_X11_bare : GoodIn wsL_law wsX11_bare := goodIn_r _ [862, 415, 68, 87, 88, 5, 89, 175, 176, 177, 178, 124, 55, 56, 125, 126, 127, 128, 54, 896, 897, 898, 899, 900, 901, 902, 903, 904, 905, 906, 907, 908, 909, 910, 911, 912, 913, 914, 915, 916, 917, 918, 919] (by decide +kernel) (by decide +kernel)
set_option maxRecDepth 20000 in
theorem gL_law_X11_bare : GoodIn wsL_law (wsV RL 123 RX11 yX11_bare wsX11_bare) := goodIn_app (goodIn_of _ (by decide +kernel)) ggL_law_X11_bare
set_option maxRecDepth 20000 in
theorem ggL_law_X10_raised : GoodIn wsL_law wsX10_raised := goodIn_r _ [866, 74, 75, 2, 76, 832, 833, 834, 835, 836, 837, 838, 839, 16, 840, 841, 842, 843, 11, 12, 844, 32, 845, 59, 846, 847, 848, 849, 850, 851, 852, 853, 854, 867, 868, 869, 870, 409, 410, 887, 888, 889, 890, 891, 892, 893, 894, 895, 978, 979, 980, 981, 920, 921, 922, 923, 924] (by decide +kernel) (by decide +kernel)
set_option maxRecDepth 20000 in
theorem gL_law_X10_raised : GoodIn wsL_law (wsV RL 124 RX10 yX10_raised wsX10_raised) := goodIn_app (goodIn_of _ (by decide +kernel)) ggL_law_X10_raised
set_option maxRecDepth 20000 in
theorem ggL_law_X11_raised : GoodIn wsL_law wsX11_raised := goodIn_r _ [874, 415, 87, 88, 5, 89, 175, 176, 177, 178, 124, 55, 56, 125, 126, 127, 128, 54, 896, 897, 898, 899, 900, 901, 902, 903, 904, 905, 906, 907, 908, 909, 910, 911, 912, 913, 914, 915, 916, 917, 918, 919] (by decide +kernel) (by decide +kernel)
set_option maxRecDepth 20000 in
theorem gL_law_X11_raised : GoodIn wsL_law (wsV RL 127 RX11 yX11_raised wsX11_raised) := goodIn_app (goodIn_of _ (by decide +kernel)) ggL_law_X11_raised
set_option maxRecDepth 20000 in
theorem ggL_law_X10_count : GoodIn wsL_law wsX10_count := goodIn_r _ [878, 16, 73, 879, 880, 881, 15, 882, 33, 887, 888, 889, 890, 891, 892, 893, 894, 895, 920, 921, 922, 923, 924] (by decide +kernel) (by decide +kernel)
set_option maxRecDepth 20000 in
theorem gL_law_X10_count : GoodIn wsL_law (wsV RL 128 RX10 yX10_count wsX10_count) := goodIn_app (goodIn_of _ (by decide +kernel)) ggL_law_X10_count
set_option maxRecDepth 20000 in
theorem ggL_law_X11_count : GoodIn wsL_law wsX11_count := goodIn_r _ [886, 55, 54, 896, 897, 898, 899, 900, 901, 902, 903, 904, 905, 906, 907, 908, 909, 910, 911, 912, 913, 914, 915, 916, 917, 918, 919] (by decide +kernel) (by decide +kernel)
set_option maxRecDepth 20000 in
theorem gL_law_X11_count : GoodIn wsL_law (wsV RL 131 RX11 yX11_count wsX11_count) := goodIn_app (goodIn_of _ (by decide +kernel)) ggL_law_X11_count
