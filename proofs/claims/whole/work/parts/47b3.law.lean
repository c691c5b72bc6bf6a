set_option maxRecDepth 20000 in
theorem wsL_law0_r25_in : ∀ w ∈ wsL_law0_r25, w ∈ lw_tbl := fun w h => (goodIn_p wsL_law0_r25 [970, 974, 646, 650, 654] (by decide +kernel) (by decide +kernel) w h).1
set_option maxRecDepth 20000 in
theorem wsL_law0_r26_in : ∀ w ∈ wsL_law0_r26, w ∈ lw_tbl := fun w h => (goodIn_p wsL_law0_r26 [659, 223, 978, 982, 986] (by decide +kernel) (by decide +kernel) w h).1
set_option maxRecDepth 20000 in
theorem wsL_law0_r27_in : ∀ w ∈ wsL_law0_r27, w ∈ lw_tbl := fun w h => (goodIn_p wsL_law0_r27 [666, 670, 990, 994, 678] (by decide +kernel) (by decide +kernel) w h).1
set_option maxRecDepth 20000 in
theorem wsL_law0_r28_in : ∀ w ∈ wsL_law0_r28, w ∈ lw_tbl := fun w h => (goodIn_p wsL_law0_r28 [682, 686, 998, 693, 697] (by decide +kernel) (by decide +kernel) w h).1
set_option maxRecDepth 20000 in
theorem wsL_law0_r29_in : ∀ w ∈ wsL_law0_r29, w ∈ lw_tbl := fun w h => (goodIn_p wsL_law0_r29 [1002, 704, 707, 711, 715, 719] (by decide +kernel) (by decide +kernel) w h).1
set_option maxRecDepth 20000 in
theorem wsL_law0_r30_in : ∀ w ∈ wsL_law0_r30, w ∈ lw_tbl := fun w h => (goodIn_p wsL_law0_r30 [725, 729, 733, 1006, 1009] (by decide +kernel) (by decide +kernel) w h).1
set_option maxRecDepth 20000 in
theorem wsL_law0_r31_in : ∀ w ∈ wsL_law0_r31, w ∈ lw_tbl := fun w h => (goodIn_p wsL_law0_r31 [740, 1013, 207, 219, 228, 232] (by decide +kernel) (by decide +kernel) w h).1
set_option maxRecDepth 20000 in
theorem wsL_law0_r32_in : ∀ w ∈ wsL_law0_r32, w ∈ lw_tbl := fun w h => (goodIn_p wsL_law0_r32 [236, 1017] (by decide +kernel) (by decide +kernel) w h).1
