set_option maxRecDepth 20000 in
theorem ggL_law_X10_moved : GoodIn wsL_law wsX10_moved := goodIn_r _ [634, 133, 16, 73, 74, 75, 2, 76, 635, 636, 637, 638, 639, 531, 532, 15, 533, 31, 490, 412, 413, 890, 891, 892, 893, 894, 895, 896, 897, 898, 923, 924, 925, 926, 927] (by decide +kernel) (by decide +kernel)
set_option maxRecDepth 20000 in
theorem gL_law_X10_moved : GoodIn wsL_law (wsV RL 95 RX10 yX10_moved wsX10_moved) := goodIn_app (goodIn_of _ (by decide +kernel)) ggL_law_X10_moved
set_option maxRecDepth 20000 in
theorem ggL_law_X11_moved : GoodIn wsL_law wsX11_moved := goodIn_r _ [643, 85, 644, 104, 168, 54, 238, 87, 88, 5, 89, 550, 551, 552, 553, 899, 900, 901, 902, 903, 904, 905, 906, 907, 908, 909, 910, 911, 912, 913, 914, 915, 916, 917, 918, 919, 920, 921, 922] (by decide +kernel) (by decide +kernel)
set_option maxRecDepth 20000 in
theorem gL_law_X11_moved : GoodIn wsL_law (wsV RL 99 RX11 yX11_moved wsX11_moved) := goodIn_app (goodIn_of _ (by decide +kernel)) ggL_law_X11_moved
set_option maxRecDepth 20000 in
theorem ggL_law_X10_few : GoodIn wsL_law wsX10_few := goodIn_r _ [648, 649, 650, 651, 2, 652, 16, 73, 74, 75, 76, 653, 654, 655, 656, 657, 658, 659, 660, 661, 662, 663, 11, 12, 664, 32, 665, 666, 667, 668, 669, 670, 671, 672, 673, 674, 675, 676, 677, 678, 679, 680, 681, 682, 683, 684, 685, 686, 687, 688, 689, 690, 691, 692, 693, 694, 695, 696, 697, 698, 699, 700, 701, 702, 703, 704, 890, 891, 892, 893, 894, 895, 896, 897, 898, 923, 924, 925, 926, 927, 959, 960, 961, 962, 963, 964, 965, 966, 967, 968, 969, 970] (by decide +kernel) (by decide +kernel)
set_option maxRecDepth 20000 in
theorem gL_law_X10_few : GoodIn wsL_law (wsV RL 100 RX10 yX10_few wsX10_few) := goodIn_app (goodIn_of _ (by decide +kernel)) ggL_law_X10_few
set_option maxRecDepth 20000 in
theorem ggL_law_X11_few : GoodIn wsL_law wsX11_few := goodIn_r _ [708, 709, 710, 711, 712, 87, 88, 5, 89, 713, 714, 715, 716, 54, 717, 65, 718, 719, 720, 721, 62, 63, 722, 723, 724, 725, 726, 64, 727, 728, 729, 730, 731, 732, 733, 734, 899, 900, 901, 902, 903, 904, 905, 906, 907, 908, 909, 910, 911, 912, 913, 914, 915, 916, 917, 918, 919, 920, 921, 922] (by decide +kernel) (by decide +kernel)
set_option maxRecDepth 20000 in
theorem gL_law_X11_few : GoodIn wsL_law (wsV RL 103 RX11 yX11_few wsX11_few) := goodIn_app (goodIn_of _ (by decide +kernel)) ggL_law_X11_few
set_option maxRecDepth 20000 in
theorem ggL_law_X10_withAll : GoodIn wsL_law wsX10_withAll := goodIn_r _ [738, 649, 650, 651, 2, 652, 16, 73, 74, 75, 76, 739, 740, 741, 742, 743, 744, 745, 653, 654, 655, 656, 657, 658, 659, 660, 661, 662, 663, 11, 12, 664, 32, 665, 666, 667, 668, 669, 670, 671, 672, 673, 674, 675, 676, 677, 678, 679, 680, 681, 682, 683, 684, 685, 686, 687, 688, 689, 690, 691, 692, 693, 694, 695, 696, 697, 698, 699, 700, 701, 702, 703, 704, 890, 891, 892, 893, 894, 895, 896, 897, 898, 923, 924, 925, 926, 927, 959, 960, 961, 962, 963, 964, 965, 966, 967, 968, 969, 970] (by decide +kernel) (by decide +kernel)
set_option maxRecDepth 20000 in
theorem gL_law_X10_withAll : GoodIn wsL_law (wsV RL 104 RX10 yX10_withAll wsX10_withAll) := goodIn_app (goodIn_of _ (by decide +kernel)) ggL_law_X10_withAll
set_option maxRecDepth 20000 in
theorem ggL_law_X11_withAll : GoodIn wsL_law wsX11_withAll := goodIn_r _ [749, 750, 751, 710, 711, 712, 713, 714, 715, 5, 716, 54, 717, 65, 87, 88, 89, 718, 719, 720, 721, 62, 63, 722, 723, 724, 725, 726, 64, 727, 728, 729, 730, 731, 732, 733, 734, 899, 900, 901, 902, 903, 904, 905, 906, 907, 908, 909, 910, 911, 912, 913, 914, 915, 916, 917, 918, 919, 920, 921, 922] (by decide +kernel) (by decide +kernel)
set_option maxRecDepth 20000 in
theorem gL_law_X11_withAll : GoodIn wsL_law (wsV RL 107 RX11 yX11_withAll wsX11_withAll) := goodIn_app (goodIn_of _ (by decide +kernel)) ggL_law_X11_withAll
set_option maxRecDepth 20000 in
theorem ggL_law_X10_summed : GoodIn wsL_law wsX10_summed := goodIn_r _ [755, 74, 75, 2, 76, 653, 654, 655, 656, 657, 658, 659, 660, 16, 73, 661, 662, 663, 11, 12, 664, 32, 665, 666, 667, 668, 669, 670, 671, 672, 673, 674, 675, 676, 677, 678, 679, 680, 681, 682, 683, 684, 685, 686, 687, 688, 689, 690, 691, 692, 693, 694, 695, 696, 697, 698, 699, 700, 701, 702, 703, 704, 890, 891, 892, 893, 894, 895, 896, 897, 898, 959, 960, 961, 962, 963, 964, 965, 966, 967, 968, 969, 970, 923, 924, 925, 926, 927] (by decide +kernel) (by decide +kernel)
set_option maxRecDepth 20000 in
theorem gL_law_X10_summed : GoodIn wsL_law (wsV RL 108 RX10 yX10_summed wsX10_summed) := goodIn_app (goodIn_of _ (by decide +kernel)) ggL_law_X10_summed
set_option maxRecDepth 20000 in
theorem ggL_law_X11_summed : GoodIn wsL_law wsX11_summed := goodIn_r _ [759, 440, 760, 761, 710, 711, 712, 87, 88, 5, 89, 713, 714, 715, 716, 54, 717, 65, 718, 719, 720, 721, 62, 63, 722, 723, 724, 725, 726, 64, 727, 728, 729, 730, 731, 732, 733, 734, 899, 900, 901, 902, 903, 904, 905, 906, 907, 908, 909, 910, 911, 912, 913, 914, 915, 916, 917, 918, 919, 920, 921, 922] (by decide +kernel) (by decide +kernel)
set_option maxRecDepth 20000 in
theorem gL_law_X11_summed : GoodIn wsL_law (wsV RL 111 RX11 yX11_summed wsX11_summed) := goodIn_app (goodIn_of _ (by decide +kernel)) ggL_law_X11_summed
set_option maxRecDepth 20000 in
theorem ggL_law_X10_again : GoodIn wsL_law wsX10_again := goodIn_r _ [765, 94, 16, 74, 75, 2, 76, 115, 116, 117, 15, 118, 34, 31, 639, 531, 532, 533, 890, 891, 892, 893, 894, 895, 896, 897, 898, 923, 924, 925, 926, 927] (by decide +kernel) (by decide +kernel)
set_option maxRecDepth 20000 in
theorem gL_law_X10_again : GoodIn wsL_law (wsV RL 112 RX10 yX10_again wsX10_again) := goodIn_app (goodIn_of _ (by decide +kernel)) ggL_law_X10_again
