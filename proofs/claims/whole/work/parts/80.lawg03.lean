set_option maxRecDepth 20000 in
theorem ggL_law_X11_alike : GoodIn wsL_law wsX11_alike := goodIn_r _ [505, 123, 87, 88, 5, 89, 179, 180, 181, 182, 124, 54, 56, 125, 126, 127, 128, 896, 897, 898, 899, 900, 901, 902, 903, 904, 905, 906, 907, 908, 909, 910, 911, 912, 913, 914, 915, 916, 917, 918, 919] (by decide +kernel) (by decide +kernel)
set_option maxRecDepth 20000 in
theorem gL_law_X11_alike : GoodIn wsL_law (wsV RL 77 RX11 yX11_alike wsX11_alike) := goodIn_app (goodIn_of _ (by decide +kernel)) ggL_law_X11_alike
set_option maxRecDepth 20000 in
theorem ggL_law_X10_alikes : GoodIn wsL_law wsX10_alikes := goodIn_r _ [509, 24, 133, 111, 112, 2, 113, 114, 510, 511, 512, 23, 513, 49, 501, 116, 117, 15, 118, 34, 31, 514, 515, 516, 517, 518, 519, 520, 521, 522, 523, 524, 525, 526, 527, 528, 529, 530, 531, 532, 533, 534, 887, 888, 889, 890, 891, 892, 893, 894, 895, 929, 920, 921, 922, 923, 924] (by decide +kernel) (by decide +kernel)
set_option maxRecDepth 20000 in
theorem gL_law_X10_alikes : GoodIn wsL_law (wsV RL 78 RX10 yX10_alikes wsX10_alikes) := goodIn_app (goodIn_of _ (by decide +kernel)) ggL_law_X10_alikes
set_option maxRecDepth 20000 in
theorem ggL_law_X11_alikes : GoodIn wsL_law wsX11_alikes := goodIn_r _ [538, 123, 165, 87, 88, 5, 89, 539, 540, 541, 542, 124, 125, 126, 127, 128, 56, 54, 543, 544, 545, 546, 547, 548, 549, 550, 551, 552, 553, 554, 896, 897, 898, 899, 900, 901, 902, 903, 904, 905, 906, 907, 908, 909, 910, 911, 912, 913, 914, 915, 916, 917, 918, 919] (by decide +kernel) (by decide +kernel)
set_option maxRecDepth 20000 in
theorem gL_law_X11_alikes : GoodIn wsL_law (wsV RL 82 RX11 yX11_alikes wsX11_alikes) := goodIn_app (goodIn_of _ (by decide +kernel)) ggL_law_X11_alikes
set_option maxRecDepth 20000 in
theorem ggL_law_X10_alikeAt : GoodIn wsL_law wsX10_alikeAt := goodIn_r _ [558, 24, 133, 559, 560, 561, 23, 562, 49, 563, 564, 501, 116, 117, 15, 118, 34, 31, 519, 520, 521, 522, 518, 523, 524, 525, 526, 527, 528, 529, 530, 531, 532, 533, 534, 565, 566, 567, 887, 888, 889, 890, 891, 892, 893, 894, 895, 929, 920, 921, 922, 923, 924] (by decide +kernel) (by decide +kernel)
set_option maxRecDepth 20000 in
theorem gL_law_X10_alikeAt : GoodIn wsL_law (wsV RL 83 RX10 yX10_alikeAt wsX10_alikeAt) := goodIn_app (goodIn_of _ (by decide +kernel)) ggL_law_X10_alikeAt
set_option maxRecDepth 20000 in
theorem ggL_law_X11_alikeAt : GoodIn wsL_law wsX11_alikeAt := goodIn_r _ [571, 165, 572, 573, 574, 5, 575, 123, 124, 235, 125, 126, 127, 128, 56, 54, 543, 544, 545, 546, 547, 548, 549, 550, 551, 552, 553, 554, 896, 897, 898, 899, 900, 901, 902, 903, 904, 905, 906, 907, 908, 909, 910, 911, 912, 913, 914, 915, 916, 917, 918, 919] (by decide +kernel) (by decide +kernel)
set_option maxRecDepth 20000 in
theorem gL_law_X11_alikeAt : GoodIn wsL_law (wsV RL 86 RX11 yX11_alikeAt wsX11_alikeAt) := goodIn_app (goodIn_of _ (by decide +kernel)) ggL_law_X11_alikeAt
set_option maxRecDepth 20000 in
theorem ggL_law_X10_next : GoodIn wsL_law wsX10_next := goodIn_r _ [579, 24, 133, 111, 112, 2, 113, 114, 580, 581, 582, 23, 583, 49, 501, 116, 117, 15, 118, 34, 31, 514, 515, 516, 517, 518, 531, 532, 533, 534, 565, 566, 567, 563, 564, 887, 888, 889, 890, 891, 892, 893, 894, 895, 929, 920, 921, 922, 923, 924] (by decide +kernel) (by decide +kernel)
set_option maxRecDepth 20000 in
theorem gL_law_X10_next : GoodIn wsL_law (wsV RL 87 RX10 yX10_next wsX10_next) := goodIn_app (goodIn_of _ (by decide +kernel)) ggL_law_X10_next
set_option maxRecDepth 20000 in
theorem ggL_law_X11_next : GoodIn wsL_law wsX11_next := goodIn_r _ [587, 123, 165, 87, 88, 5, 89, 539, 540, 541, 542, 124, 125, 126, 127, 128, 56, 54, 543, 544, 545, 546, 547, 548, 549, 550, 551, 552, 553, 554, 572, 573, 574, 575, 235, 896, 897, 898, 899, 900, 901, 902, 903, 904, 905, 906, 907, 908, 909, 910, 911, 912, 913, 914, 915, 916, 917, 918, 919] (by decide +kernel) (by decide +kernel)
set_option maxRecDepth 20000 in
theorem gL_law_X11_next : GoodIn wsL_law (wsV RL 90 RX11 yX11_next wsX11_next) := goodIn_app (goodIn_of _ (by decide +kernel)) ggL_law_X11_next
set_option maxRecDepth 20000 in
theorem ggL_law_X10_made : GoodIn wsL_law wsX10_made := goodIn_r _ [591, 592, 593, 594, 595, 24, 74, 75, 2, 76, 596, 597, 598, 599, 11, 12, 600, 32, 601, 602, 59, 603, 604, 605, 606, 607, 608, 609, 610, 611, 612, 613, 614, 615, 616, 560, 561, 23, 562, 49, 563, 564, 501, 116, 117, 15, 118, 34, 31, 519, 520, 521, 522, 518, 523, 524, 525, 526, 527, 528, 529, 530, 531, 532, 533, 534, 565, 566, 567, 617, 497, 498, 499, 500, 618, 619, 620, 621, 887, 888, 889, 890, 891, 892, 893, 894, 895, 951, 952, 953, 954, 955, 929, 920, 921, 922, 923, 924] (by decide +kernel) (by decide +kernel)
set_option maxRecDepth 20000 in
theorem gL_law_X10_made : GoodIn wsL_law (wsV RL 91 RX10 yX10_made wsX10_made) := goodIn_app (goodIn_of _ (by decide +kernel)) ggL_law_X10_made
set_option maxRecDepth 20000 in
theorem ggL_law_X11_made : GoodIn wsL_law wsX11_made := goodIn_r _ [625, 626, 627, 60, 58, 87, 88, 5, 89, 179, 180, 181, 182, 124, 54, 56, 125, 126, 127, 128, 896, 897, 898, 899, 900, 901, 902, 903, 904, 905, 906, 907, 908, 909, 910, 911, 912, 913, 914, 915, 916, 917, 918, 919] (by decide +kernel) (by decide +kernel)
set_option maxRecDepth 20000 in
theorem gL_law_X11_made : GoodIn wsL_law (wsV RL 94 RX11 yX11_made wsX11_made) := goodIn_app (goodIn_of _ (by decide +kernel)) ggL_law_X11_made
