set_option maxRecDepth 20000 in
theorem ggL_law_X10_init : GoodIn wsL_law wsX10_init := goodIn_r _ [9, 10, 11, 12, 13, 14, 15, 16, 17, 18, 19, 20, 21, 22, 23, 24, 25, 26, 27, 28, 29, 30, 31, 32, 33, 34, 35, 36, 37, 38, 39, 40, 41, 42, 43, 44, 45, 46, 47, 48, 49, 920, 921, 922, 923, 924, 887, 888, 889, 890, 891, 892, 893, 894, 895, 925, 926, 927, 928, 929] (by decide +kernel) (by decide +kernel)
set_option maxRecDepth 20000 in
theorem gL_law_X10_init : GoodIn wsL_law (wsX10_init) := ggL_law_X10_init
set_option maxRecDepth 20000 in
theorem ggL_law_X11_init : GoodIn wsL_law wsX11_init := goodIn_r _ [52, 53, 11, 12, 54, 32, 55, 56, 40, 57, 58, 59, 60, 61, 62, 63, 64, 65, 66, 67, 68, 896, 897, 898, 899, 900, 901, 902, 903, 904, 905, 906, 907, 908, 909, 910, 911, 912, 913, 914, 915, 916, 917, 918, 919] (by decide +kernel) (by decide +kernel)
set_option maxRecDepth 20000 in
theorem gL_law_X11_init : GoodIn wsL_law (wsX11_init) := ggL_law_X11_init
set_option maxRecDepth 20000 in
theorem ggL_law_X10_base : GoodIn wsL_law wsX10_base := goodIn_r _ [72, 16, 73, 74, 75, 2, 76, 77, 78, 79, 15, 80, 31, 36, 887, 888, 889, 890, 891, 892, 893, 894, 895, 920, 921, 922, 923, 924] (by decide +kernel) (by decide +kernel)
set_option maxRecDepth 20000 in
theorem gL_law_X10_base : GoodIn wsL_law (wsV RL 13 RX10 yX10_base wsX10_base) := goodIn_app (goodIn_of _ (by decide +kernel)) ggL_law_X10_base
set_option maxRecDepth 20000 in
theorem ggL_law_X11_base : GoodIn wsL_law wsX11_base := goodIn_r _ [84, 85, 86, 54, 87, 88, 5, 89, 896, 897, 898, 899, 900, 901, 902, 903, 904, 905, 906, 907, 908, 909, 910, 911, 912, 913, 914, 915, 916, 917, 918, 919] (by decide +kernel) (by decide +kernel)
set_option maxRecDepth 20000 in
theorem gL_law_X11_base : GoodIn wsL_law (wsV RL 17 RX11 yX11_base wsX11_base) := goodIn_app (goodIn_of _ (by decide +kernel)) ggL_law_X11_base
set_option maxRecDepth 20000 in
theorem ggL_law_X10_table : GoodIn wsL_law wsX10_table := goodIn_r _ [93, 94, 16, 95, 74, 75, 2, 76, 96, 97, 98, 15, 99, 33, 36, 887, 888, 889, 890, 891, 892, 893, 894, 895, 920, 921, 922, 923, 924] (by decide +kernel) (by decide +kernel)
set_option maxRecDepth 20000 in
theorem gL_law_X10_table : GoodIn wsL_law (wsV RL 18 RX10 yX10_table wsX10_table) := goodIn_app (goodIn_of _ (by decide +kernel)) ggL_law_X10_table
set_option maxRecDepth 20000 in
theorem ggL_law_X11_table : GoodIn wsL_law wsX11_table := goodIn_r _ [103, 104, 105, 55, 87, 88, 5, 89, 896, 897, 898, 899, 900, 901, 902, 903, 904, 905, 906, 907, 908, 909, 910, 911, 912, 913, 914, 915, 916, 917, 918, 919] (by decide +kernel) (by decide +kernel)
set_option maxRecDepth 20000 in
theorem gL_law_X11_table : GoodIn wsL_law (wsV RL 22 RX11 yX11_table wsX11_table) := goodIn_app (goodIn_of _ (by decide +kernel)) ggL_law_X11_table
set_option maxRecDepth 20000 in
theorem ggL_law_X10_figure : GoodIn wsL_law wsX10_figure := goodIn_r _ [109, 16, 110, 111, 112, 2, 113, 114, 115, 116, 117, 15, 118, 34, 31, 887, 888, 889, 890, 891, 892, 893, 894, 895, 920, 921, 922, 923, 924] (by decide +kernel) (by decide +kernel)
set_option maxRecDepth 20000 in
theorem gL_law_X10_figure : GoodIn wsL_law (wsV RL 25 RX10 yX10_figure wsX10_figure) := goodIn_app (goodIn_of _ (by decide +kernel)) ggL_law_X10_figure
set_option maxRecDepth 20000 in
theorem ggL_law_X11_figure : GoodIn wsL_law wsX11_figure := goodIn_r _ [122, 123, 124, 56, 87, 88, 5, 89, 125, 126, 127, 128, 54, 896, 897, 898, 899, 900, 901, 902, 903, 904, 905, 906, 907, 908, 909, 910, 911, 912, 913, 914, 915, 916, 917, 918, 919] (by decide +kernel) (by decide +kernel)
set_option maxRecDepth 20000 in
theorem gL_law_X11_figure : GoodIn wsL_law (wsV RL 29 RX11 yX11_figure wsX11_figure) := goodIn_app (goodIn_of _ (by decide +kernel)) ggL_law_X11_figure
set_option maxRecDepth 20000 in
theorem ggL_law_X10_step : GoodIn wsL_law wsX10_step := goodIn_r _ [132, 133, 16, 134, 135, 2, 136, 111, 112, 113, 114, 137, 138, 139, 15, 140, 141, 116, 117, 118, 34, 31, 142, 143, 144, 145, 33, 146, 147, 148, 149, 150, 151, 152, 153, 35, 154, 155, 156, 157, 158, 159, 887, 888, 889, 890, 891, 892, 893, 894, 895, 920, 921, 922, 923, 924] (by decide +kernel) (by decide +kernel)
set_option maxRecDepth 20000 in
theorem gL_law_X10_step : GoodIn wsL_law (wsV RL 30 RX10 yX10_step wsX10_step) := goodIn_app (goodIn_of _ (by decide +kernel)) ggL_law_X10_step
