set_option maxRecDepth 20000 in
theorem ggL_law_X11_alike : GoodIn wsL_law wsX11_alike := goodIn_r _ [508, 123, 87, 88, 5, 89, 182, 183, 184, 185, 124, 54, 56, 125, 126, 127, 128, 899, 900, 901, 902, 903, 904, 905, 906, 907, 908, 909, 910, 911, 912, 913, 914, 915, 916, 917, 918, 919, 920, 921, 922] (by decide +kernel) (by decide +kernel)
set_option maxRecDepth 20000 in
theorem gL_law_X11_alike : GoodIn wsL_law (wsV RL 77 RX11 yX11_alike wsX11_alike) := goodIn_app (goodIn_of _ (by decide +kernel)) ggL_law_X11_alike
set_option maxRecDepth 20000 in
theorem ggL_law_X10_alikes : GoodIn wsL_law wsX10_alikes := goodIn_r _ [512, 24, 133, 111, 112, 2, 113, 114, 513, 514, 515, 23, 516, 49, 504, 116, 117, 15, 118, 34, 31, 517, 518, 519, 520, 521, 522, 523, 524, 525, 526, 527, 528, 529, 530, 531, 532, 533, 534, 535, 536, 537, 890, 891, 892, 893, 894, 895, 896, 897, 898, 932, 923, 924, 925, 926, 927] (by decide +kernel) (by decide +kernel)
set_option maxRecDepth 20000 in
theorem gL_law_X10_alikes : GoodIn wsL_law (wsV RL 78 RX10 yX10_alikes wsX10_alikes) := goodIn_app (goodIn_of _ (by decide +kernel)) ggL_law_X10_alikes
set_option maxRecDepth 20000 in
theorem ggL_law_X11_alikes : GoodIn wsL_law wsX11_alikes := goodIn_r _ [541, 123, 168, 87, 88, 5, 89, 542, 543, 544, 545, 124, 125, 126, 127, 128, 56, 54, 546, 547, 548, 549, 550, 551, 552, 553, 554, 555, 556, 557, 899, 900, 901, 902, 903, 904, 905, 906, 907, 908, 909, 910, 911, 912, 913, 914, 915, 916, 917, 918, 919, 920, 921, 922] (by decide +kernel) (by decide +kernel)
set_option maxRecDepth 20000 in
theorem gL_law_X11_alikes : GoodIn wsL_law (wsV RL 82 RX11 yX11_alikes wsX11_alikes) := goodIn_app (goodIn_of _ (by decide +kernel)) ggL_law_X11_alikes
set_option maxRecDepth 20000 in
theorem ggL_law_X10_alikeAt : GoodIn wsL_law wsX10_alikeAt := goodIn_r _ [561, 24, 133, 562, 563, 564, 23, 565, 49, 566, 567, 504, 116, 117, 15, 118, 34, 31, 522, 523, 524, 525, 521, 526, 527, 528, 529, 530, 531, 532, 533, 534, 535, 536, 537, 568, 569, 570, 890, 891, 892, 893, 894, 895, 896, 897, 898, 932, 923, 924, 925, 926, 927] (by decide +kernel) (by decide +kernel)
set_option maxRecDepth 20000 in
theorem gL_law_X10_alikeAt : GoodIn wsL_law (wsV RL 83 RX10 yX10_alikeAt wsX10_alikeAt) := goodIn_app (goodIn_of _ (by decide +kernel)) ggL_law_X10_alikeAt
set_option maxRecDepth 20000 in
theorem ggL_law_X11_alikeAt : GoodIn wsL_law wsX11_alikeAt := goodIn_r _ [574, 168, 575, 576, 577, 5, 578, 123, 124, 238, 125, 126, 127, 128, 56, 54, 546, 547, 548, 549, 550, 551, 552, 553, 554, 555, 556, 557, 899, 900, 901, 902, 903, 904, 905, 906, 907, 908, 909, 910, 911, 912, 913, 914, 915, 916, 917, 918, 919, 920, 921, 922] (by decide +kernel) (by decide +kernel)
set_option maxRecDepth 20000 in
theorem gL_law_X11_alikeAt : GoodIn wsL_law (wsV RL 86 RX11 yX11_alikeAt wsX11_alikeAt) := goodIn_app (goodIn_of _ (by decide +kernel)) ggL_law_X11_alikeAt
set_option maxRecDepth 20000 in
theorem ggL_law_X10_next : GoodIn wsL_law wsX10_next := goodIn_r _ [582, 24, 133, 111, 112, 2, 113, 114, 583, 584, 585, 23, 586, 49, 504, 116, 117, 15, 118, 34, 31, 517, 518, 519, 520, 521, 534, 535, 536, 537, 568, 569, 570, 566, 567, 890, 891, 892, 893, 894, 895, 896, 897, 898, 932, 923, 924, 925, 926, 927] (by decide +kernel) (by decide +kernel)
set_option maxRecDepth 20000 in
theorem gL_law_X10_next : GoodIn wsL_law (wsV RL 87 RX10 yX10_next wsX10_next) := goodIn_app (goodIn_of _ (by decide +kernel)) ggL_law_X10_next
set_option maxRecDepth 20000 in
theorem ggL_law_X11_next : GoodIn wsL_law wsX11_next := goodIn_r _ [590, 123, 168, 87, 88, 5, 89, 542, 543, 544, 545, 124, 125, 126, 127, 128, 56, 54, 546, 547, 548, 549, 550, 551, 552, 553, 554, 555, 556, 557, 575, 576, 577, 578, 238, 899, 900, 901, 902, 903, 904, 905, 906, 907, 908, 909, 910, 911, 912, 913, 914, 915, 916, 917, 918, 919, 920, 921, 922] (by decide +kernel) (by decide +kernel)
set_option maxRecDepth 20000 in
theorem gL_law_X11_next : GoodIn wsL_law (wsV RL 90 RX11 yX11_next wsX11_next) := goodIn_app (goodIn_of _ (by decide +kernel)) ggL_law_X11_next
set_option maxRecDepth 20000 in
theorem ggL_law_X10_made : GoodIn wsL_law wsX10_made := goodIn_r _ [594, 595, 596, 597, 598, 24, 74, 75, 2, 76, 599, 600, 601, 602, 11, 12, 603, 32, 604, 605, 59, 606, 607, 608, 609, 610, 611, 612, 613, 614, 615, 616, 617, 618, 619, 563, 564, 23, 565, 49, 566, 567, 504, 116, 117, 15, 118, 34, 31, 522, 523, 524, 525, 521, 526, 527, 528, 529, 530, 531, 532, 533, 534, 535, 536, 537, 568, 569, 570, 620, 500, 501, 502, 503, 621, 622, 623, 624, 890, 891, 892, 893, 894, 895, 896, 897, 898, 954, 955, 956, 957, 958, 932, 923, 924, 925, 926, 927] (by decide +kernel) (by decide +kernel)
set_option maxRecDepth 20000 in
theorem gL_law_X10_made : GoodIn wsL_law (wsV RL 91 RX10 yX10_made wsX10_made) := goodIn_app (goodIn_of _ (by decide +kernel)) ggL_law_X10_made
set_option maxRecDepth 20000 in
theorem ggL_law_X11_made : GoodIn wsL_law wsX11_made := goodIn_r _ [628, 629, 630, 60, 58, 87, 88, 5, 89, 182, 183, 184, 185, 124, 54, 56, 125, 126, 127, 128, 899, 900, 901, 902, 903, 904, 905, 906, 907, 908, 909, 910, 911, 912, 913, 914, 915, 916, 917, 918, 919, 920, 921, 922] (by decide +kernel) (by decide +kernel)
set_option maxRecDepth 20000 in
theorem gL_law_X11_made : GoodIn wsL_law (wsV RL 94 RX11 yX11_made wsX11_made) := goodIn_app (goodIn_of _ (by decide +kernel)) ggL_law_X11_made
