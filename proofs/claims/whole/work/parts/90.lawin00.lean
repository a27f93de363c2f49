/-! the law's words are the tables' -/
set_option maxRecDepth 20000 in
theorem li_1 : ∀ w ∈ wsL_law_r1, w ∈ lw_tbl := fun w h => (goodIn_p wsL_law_r1 [77, 80] (by decide +kernel) (by decide +kernel) w h).1
set_option maxRecDepth 20000 in
theorem li_2 : ∀ w ∈ wsL_law_r2, w ∈ lw_tbl := fun w h => (goodIn_p wsL_law_r2 [85, 118, 142] (by decide +kernel) (by decide +kernel) w h).1
set_option maxRecDepth 20000 in
theorem li_3 : ∀ w ∈ wsL_law_r3, w ∈ lw_tbl := fun w h => (goodIn_p wsL_law_r3 [857] (by decide +kernel) (by decide +kernel) w h).1
set_option maxRecDepth 20000 in
theorem li_4 : ∀ w ∈ wsL_law_r4, w ∈ lw_tbl := fun w h => (goodIn_p wsL_law_r4 [182, 185, 189, 936, 941, 193] (by decide +kernel) (by decide +kernel) w h).1
set_option maxRecDepth 20000 in
theorem li_5 : ∀ w ∈ wsL_law_r5, w ∈ lw_tbl := fun w h => (goodIn_p wsL_law_r5 [198, 945, 202, 205, 210] (by decide +kernel) (by decide +kernel) w h).1
set_option maxRecDepth 20000 in
theorem li_6 : ∀ w ∈ wsL_law_r6, w ∈ lw_tbl := fun w h => (goodIn_p wsL_law_r6 [951, 956, 214, 217, 222] (by decide +kernel) (by decide +kernel) w h).1
set_option maxRecDepth 20000 in
theorem li_7 : ∀ w ∈ wsL_law_r7, w ∈ lw_tbl := fun w h => (goodIn_p wsL_law_r7 [227, 231, 235, 239, 960] (by decide +kernel) (by decide +kernel) w h).1
set_option maxRecDepth 20000 in
theorem li_8 : ∀ w ∈ wsL_law_r8, w ∈ lw_tbl := fun w h => (goodIn_p wsL_law_r8 [965, 969, 974, 978, 982, 245] (by decide +kernel) (by decide +kernel) w h).1
set_option maxRecDepth 20000 in
theorem li_9 : ∀ w ∈ wsL_law_r9, w ∈ lw_tbl := fun w h => (goodIn_p wsL_law_r9 [249, 258, 255, 987] (by decide +kernel) (by decide +kernel) w h).1
set_option maxRecDepth 20000 in
theorem li_10 : ∀ w ∈ wsL_law_r10, w ∈ lw_tbl := fun w h => (goodIn_p wsL_law_r10 [991, 995, 263, 267, 999, 272] (by decide +kernel) (by decide +kernel) w h).1
set_option maxRecDepth 20000 in
theorem li_11 : ∀ w ∈ wsL_law_r11, w ∈ lw_tbl := fun w h => (goodIn_p wsL_law_r11 [275, 279, 286, 291] (by decide +kernel) (by decide +kernel) w h).1
set_option maxRecDepth 20000 in
theorem li_12 : ∀ w ∈ wsL_law_r12, w ∈ lw_tbl := fun w h => (goodIn_p wsL_law_r12 [312, 347] (by decide +kernel) (by decide +kernel) w h).1
set_option maxRecDepth 20000 in
theorem li_13 : ∀ w ∈ wsL_law_r13, w ∈ lw_tbl := fun w h => (goodIn_p wsL_law_r13 [376, 457, 380, 384] (by decide +kernel) (by decide +kernel) w h).1
