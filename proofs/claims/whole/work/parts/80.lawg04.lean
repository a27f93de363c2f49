set_option maxRecDepth 20000 in
theorem ggL_law_X10_moved : GoodIn wsL_law wsX10_moved := goodIn_r _ [631, 133, 16, 73, 74, 75, 2, 76, 632, 633, 634, 635, 636, 528, 529, 15, 530, 31, 487, 409, 410, 887, 888, 889, 890, 891, 892, 893, 894, 895, 920, 921, 922, 923, 924] (by decide +kernel) (by decide +kernel)
set_option maxRecDepth 20000 in
theorem gL_law_X10_moved : GoodIn wsL_law (wsV RL 95 RX10 yX10_moved wsX10_moved) := goodIn_app (goodIn_of _ (by decide +kernel)) ggL_law_X10_moved
set_option maxRecDepth 20000 in
theorem ggL_law_X11_moved : GoodIn wsL_law wsX11_moved := goodIn_r _ [640, 85, 641, 104, 165, 54, 235, 87, 88, 5, 89, 547, 548, 549, 550, 896, 897, 898, 899, 900, 901, 902, 903, 904, 905, 906, 907, 908, 909, 910, 911, 912, 913, 914, 915, 916, 917, 918, 919] (by decide +kernel) (by decide +kernel)
set_option maxRecDepth 20000 in
theorem gL_law_X11_moved : GoodIn wsL_law (wsV RL 99 RX11 yX11_moved wsX11_moved) := goodIn_app (goodIn_of _ (by decide +kernel)) ggL_law_X11_moved
set_option maxRecDepth 20000 in
theorem ggL_law_X10_few : GoodIn wsL_law wsX10_few := goodIn_r _ [645, 646, 647, 648, 2, 649, 16, 73, 74, 75, 76, 650, 651, 652, 653, 654, 655, 656, 657, 658, 659, 660, 11, 12, 661, 32, 662, 663, 664, 665, 666, 667, 668, 669, 670, 671, 672, 673, 674, 675, 676, 677, 678, 679, 680, 681, 682, 683, 684, 685, 686, 687, 688, 689, 690, 691, 692, 693, 694, 695, 696, 697, 698, 699, 700, 701, 887, 888, 889, 890, 891, 892, 893, 894, 895, 920, 921, 922, 923, 924, 956, 957, 958, 959, 960, 961, 962, 963, 964, 965, 966, 967] (by decide +kernel) (by decide +kernel)
set_option maxRecDepth 20000 in
theorem gL_law_X10_few : GoodIn wsL_law (wsV RL 100 RX10 yX10_few wsX10_few) := goodIn_app (goodIn_of _ (by decide +kernel)) ggL_law_X10_few
set_option maxRecDepth 20000 in
theorem ggL_law_X11_few : GoodIn wsL_law wsX11_few := goodIn_r _ [705, 706, 707, 708, 709, 87, 88, 5, 89, 710, 711, 712, 713, 54, 714, 65, 715, 716, 717, 718, 62, 63, 719, 720, 721, 722, 723, 64, 724, 725, 726, 727, 728, 729, 730, 731, 896, 897, 898, 899, 900, 901, 902, 903, 904, 905, 906, 907, 908, 909, 910, 911, 912, 913, 914, 915, 916, 917, 918, 919] (by decide +kernel) (by decide +kernel)
set_option maxRecDepth 20000 in
theorem gL_law_X11_few : GoodIn wsL_law (wsV RL 103 RX11 yX11_few wsX11_few) := goodIn_app (goodIn_of _ (by decide +kernel)) ggL_law_X11_few
set_option maxRecDepth 20000 in
theorem ggL_law_X10_withAll : GoodIn wsL_law wsX10_withAll := goodIn_r _ [735, 646, 647, 648, 2, 649, 16, 73, 74, 75, 76, 736, 737, 738, 739, 740, 741, 742, 650, 651, 652, 653, 654, 655, 656, 657, 658, 659, 660, 11, 12, 661, 32, 662, 663, 664, 665, 666, 667, 668, 669, 670, 671, 672, 673, 674, 675, 676, 677, 678, 679, 680, 681, 682, 683, 684, 685, 686, 687, 688, 689, 690, 691, 692, 693, 694, 695, 696, 697, 698, 699, 700, 701, 887, 888, 889, 890, 891, 892, 893, 894, 895, 920, 921, 922, 923, 924, 956, 957, 958, 959, 960, 961, 962, 963, 964, 965, 966, 967] (by decide +kernel) (by decide +kernel)
set_option maxRecDepth 20000 in
theorem gL_law_X10_withAll : GoodIn wsL_law (wsV RL 104 RX10 yX10_withAll wsX10_withAll) := goodIn_app (goodIn_of _ (by decide +kernel)) ggL_law_X10_withAll
set_option maxRecDepth 20000 in
theorem ggL_law_X11_withAll : GoodIn wsL_law wsX11_withAll := goodIn_r _ [746, 747, 748, 707, 708, 709, 710, 711, 712, 5, 713, 54, 714, 65, 87, 88, 89, 715, 716, 717, 718, 62, 63, 719, 720, 721, 722, 723, 64, 724, 725, 726, 727, 728, 729, 730, 731, 896, 897, 898, 899, 900, 901, 902, 903, 904, 905, 906, 907, 908, 909, 910, 911, 912, 913, 914, 915, 916, 917, 918, 919] (by decide +kernel) (by decide +kernel)
set_option maxRecDepth 20000 in
theorem gL_law_X11_withAll : GoodIn wsL_law (wsV RL 107 RX11 yX11_withAll wsX11_withAll) := goodIn_app (goodIn_of _ (by decide +kernel)) ggL_law_X11_withAll
set_option maxRecDepth 20000 in
theorem ggL_law_X10_summed : GoodIn wsL_law wsX10_summed := goodIn_r _ [752, 74, 75, 2, 76, 650, 651, 652, 653, 654, 655, 656, 657, 16, 73, 658, 659, 660, 11, 12, 661, 32, 662, 663, 664, 665, 666, 667, 668, 669, 670, 671, 672, 673, 674, 675, 676, 677, 678, 679, 680, 681, 682, 683, 684, 685, 686, 687, 688, 689, 690, 691, 692, 693, 694, 695, 696, 697, 698, 699, 700, 701, 887, 888, 889, 890, 891, 892, 893, 894, 895, 956, 957, 958, 959, 960, 961, 962, 963, 964, 965, 966, 967, 920, 921, 922, 923, 924] (by decide +kernel) (by decide +kernel)
set_option maxRecDepth 20000 in
theorem gL_law_X10_summed : GoodIn wsL_law (wsV RL 108 RX10 yX10_summed wsX10_summed) := goodIn_app (goodIn_of _ (by decide +kernel)) ggL_law_X10_summed
set_option maxRecDepth 20000 in
theorem ggL_law_X11_summed : GoodIn wsL_law wsX11_summed := goodIn_r _ [756, 437, 757, 758, 707, 708, 709, 87, 88, 5, 89, 710, 711, 712, 713, 54, 714, 65, 715, 716, 717, 718, 62, 63, 719, 720, 721, 722, 723, 64, 724, 725, 726, 727, 728, 729, 730, 731, 896, 897, 898, 899, 900, 901, 902, 903, 904, 905, 906, 907, 908, 909, 910, 911, 912, 913, 914, 915, 916, 917, 918, 919] (by decide +kernel) (by decide +kernel)
set_option maxRecDepth 20000 in
theorem gL_law_X11_summed : GoodIn wsL_law (wsV RL 111 RX11 yX11_summed wsX11_summed) := goodIn_app (goodIn_of _ (by decide +kernel)) ggL_law_X11_summed
set_option maxRecDepth 20000 in
theorem ggL_law_X10_again : GoodIn wsL_law wsX10_again := goodIn_r _ [762, 94, 16, 74, 75, 2, 76, 115, 116, 117, 15, 118, 34, 31, 636, 528, 529, 530, 887, 888, 889, 890, 891, 892, 893, 894, 895, 920, 921, 922, 923, 924] (by decide +kernel) (by decide +kernel)
set_option maxRecDepth 20000 in
theorem gL_law_X10_again : GoodIn wsL_law (wsV RL 112 RX10 yX10_again wsX10_again) := goodIn_app (goodIn_of _ (by decide +kernel)) ggL_law_X10_again
