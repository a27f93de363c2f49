/-! the law's words are the tables' -/
set_option maxRecDepth 20000 in
theorem li_27 : ∀ w ∈ wsL_law_r27, w ∈ lw_tbl := fun w h => (goodIn_p wsL_law_r27 [1078, 630, 634, 1083, 639] (by decide +kernel) (by decide +kernel) w h).1
set_option maxRecDepth 20000 in
theorem li_28 : ∀ w ∈ wsL_law_r28, w ∈ lw_tbl := fun w h => (goodIn_p wsL_law_r28 [643, 647, 652] (by decide +kernel) (by decide +kernel) w h).1
set_option maxRecDepth 20000 in
theorem li_29 : ∀ w ∈ wsL_law_r29, w ∈ lw_tbl := fun w h => (goodIn_p wsL_law_r29 [695, 699, 703, 707, 711] (by decide +kernel) (by decide +kernel) w h).1
set_option maxRecDepth 20000 in
theorem li_30 : ∀ w ∈ wsL_law_r30, w ∈ lw_tbl := fun w h => (goodIn_p wsL_law_r30 [715, 719, 1088, 1093, 1097] (by decide +kernel) (by decide +kernel) w h).1
set_option maxRecDepth 20000 in
theorem li_31 : ∀ w ∈ wsL_law_r31, w ∈ lw_tbl := fun w h => (goodIn_p wsL_law_r31 [1101, 1105, 1109, 723, 726] (by decide +kernel) (by decide +kernel) w h).1
set_option maxRecDepth 20000 in
theorem li_32 : ∀ w ∈ wsL_law_r32, w ∈ lw_tbl := fun w h => (goodIn_p wsL_law_r32 [1113, 733, 1119, 737, 1125] (by decide +kernel) (by decide +kernel) w h).1
set_option maxRecDepth 20000 in
theorem li_33 : ∀ w ∈ wsL_law_r33, w ∈ lw_tbl := fun w h => (goodIn_p wsL_law_r33 [741, 746] (by decide +kernel) (by decide +kernel) w h).1
set_option maxRecDepth 20000 in
theorem li_34 : ∀ w ∈ wsL_law_r34, w ∈ lw_tbl := fun w h => (goodIn_p wsL_law_r34 [784, 787, 790, 794, 798, 1129] (by decide +kernel) (by decide +kernel) w h).1
set_option maxRecDepth 20000 in
theorem li_35 : ∀ w ∈ wsL_law_r35, w ∈ lw_tbl := fun w h => (goodIn_p wsL_law_r35 [1134, 1138, 1142, 804, 808] (by decide +kernel) (by decide +kernel) w h).1
set_option maxRecDepth 20000 in
theorem li_36 : ∀ w ∈ wsL_law_r36, w ∈ lw_tbl := fun w h => (goodIn_p wsL_law_r36 [813, 831, 835, 1146] (by decide +kernel) (by decide +kernel) w h).1
set_option maxRecDepth 20000 in
theorem li_37 : ∀ w ∈ wsL_law_r37, w ∈ lw_tbl := fun w h => (goodIn_p wsL_law_r37 [840, 844, 1150, 848, 852, 1154] (by decide +kernel) (by decide +kernel) w h).1
set_option maxRecDepth 20000 in
theorem li_wsX100 : ∀ w ∈ wsX100, w ∈ lw_tbl := fun w h => (goodIn_p wsX100 [] (by decide +kernel) (by decide +kernel) w h).1
set_option maxRecDepth 20000 in
theorem li_wsX110 : ∀ w ∈ wsX110, w ∈ lw_tbl := fun w h => (goodIn_p wsX110 [] (by decide +kernel) (by decide +kernel) w h).1
