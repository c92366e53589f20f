theorem goodIn_co {big L : List Cond} {c : Cond} (h1 : GoodIn big [c]) (h2 : GoodIn big L) : GoodIn big (c :: L) := fun w h => (List.mem_cons.mp h).elim (fun e => h1 w (by rw [e]; exact List.mem_cons_self)) (h2 w)
set_option maxRecDepth 20000 in
theorem gcL_wsX6_init_r1 : GoodIn wsL_law wsX6_init_r1 := goodIn_r _ [9, 10, 11, 12, 13, 14, 15, 16, 17, 18, 19, 20, 21, 22, 23, 24, 25, 26, 27, 28, 29, 30, 31, 32] (by decide +kernel) (by decide +kernel)
set_option maxRecDepth 20000 in
theorem gcL_wsX6_init_r2 : GoodIn wsL_law wsX6_init_r2 := goodIn_r _ [33, 34, 35, 36, 37, 38, 39, 40, 41, 42, 43, 44, 45, 46, 47, 48, 49, 50, 51, 52, 53, 54, 55, 56] (by decide +kernel) (by decide +kernel)
set_option maxRecDepth 20000 in
theorem gcL_wsX6_init_r3 : GoodIn wsL_law wsX6_init_r3 := goodIn_r _ [57, 58, 59, 60, 61, 62, 63, 64, 65, 66, 67, 68, 69, 70, 71, 72] (by decide +kernel) (by decide +kernel)
set_option maxRecDepth 20000 in
theorem gcL_wsX20 : GoodIn wsL_law wsX20 := goodIn_r _ [744, 745, 746, 747, 748, 749, 750, 751] (by decide +kernel) (by decide +kernel)
set_option maxRecDepth 20000 in
theorem gcL_wsX60 : GoodIn wsL_law wsX60 := goodIn_r _ [721, 722, 723, 724, 725] (by decide +kernel) (by decide +kernel)
set_option maxRecDepth 20000 in
theorem gcL_wsX00 : GoodIn wsL_law wsX00 := goodIn_r _ [752, 753, 754, 755, 756, 757, 758, 759, 760, 761, 762, 763, 764] (by decide +kernel) (by decide +kernel)
set_option maxRecDepth 20000 in
theorem gcL_wsX10 : GoodIn wsL_law wsX10 := goodIn_r _ [765, 766, 767] (by decide +kernel) (by decide +kernel)
set_option maxRecDepth 20000 in
theorem gcL_wsX50 : GoodIn wsL_law wsX50 := goodIn_r _ [768, 769, 770, 771, 772, 773] (by decide +kernel) (by decide +kernel)
set_option maxRecDepth 20000 in
theorem gcL_wsX40 : GoodIn wsL_law wsX40 := goodIn_r _ [774] (by decide +kernel) (by decide +kernel)
set_option maxRecDepth 20000 in
theorem gcL_wsX30 : GoodIn wsL_law wsX30 := goodIn_r _ [775, 776] (by decide +kernel) (by decide +kernel)
set_option maxRecDepth 20000 in
theorem gcL_wsX6_init_c : GoodIn wsL_law [.code yX6_init cX6_init 1 none] := goodIn_r _ [8] (by decide +kernel) (by decide +kernel)
set_option maxRecDepth 20000 in
theorem ggL_law_X6_init : GoodIn wsL_law wsX6_init := goodIn_co gcL_wsX6_init_c (goodIn_app (goodIn_app (goodIn_app (goodIn_app (goodIn_app (goodIn_app (goodIn_app (goodIn_app gcL_wsX6_init_r1 (goodIn_app gcL_wsX6_init_r2 gcL_wsX6_init_r3)) gcL_wsX20) gcL_wsX60) gcL_wsX00) gcL_wsX10) gcL_wsX50) gcL_wsX40) gcL_wsX30)
