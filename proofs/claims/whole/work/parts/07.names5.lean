set_option maxRecDepth 20000 in
theorem gX10_init_X2_init_n20 : GoodIn wsX10_init (wsX2_init) := ggX10_init_X2_init
set_option maxRecDepth 20000 in
theorem ggX10_init_X6_init : GoodIn wsX10_init wsX6_init := goodIn_r _ [39, 40, 2, 3, 41, 42, 43, 44, 45, 46, 47, 48, 49, 50, 51, 52, 53, 54, 55, 56, 57, 58, 59, 60, 61, 62, 63, 64, 65, 66, 67, 68, 69, 70, 71, 72, 73, 74, 75, 76, 77, 78, 79, 80, 81, 82, 83, 84, 91, 92, 93, 94, 95, 96, 97, 98, 99, 100, 101, 102, 103, 104, 105, 87, 88, 89, 90, 106, 107, 108, 109, 110, 111, 112, 113, 114, 115, 116] (by decide +kernel) (by decide +kernel)
set_option maxRecDepth 20000 in
theorem gX10_init_X6_init : GoodIn wsX10_init (wsX6_init) := ggX10_init_X6_init
set_option maxRecDepth 20000 in
theorem ggX10_make_X10_mapAt : GoodIn wsX10_make wsX10_mapAt := goodIn_ca (goodIn_r _ [8, 1, 2, 9, 10, 11, 7, 12, 33, 34] (by decide +kernel) (by decide +kernel)) (goodIn_sub (fun _ h => List.mem_cons_of_mem _ (List.mem_append_right _ h)) (by decide +kernel))
set_option maxRecDepth 20000 in
theorem gX10_make_X10_mapAt : GoodIn wsX10_make (wsV RX10 36 RX10 yX10_mapAt wsX10_mapAt) := goodIn_app (goodIn_of _ (by decide +kernel)) ggX10_make_X10_mapAt
set_option maxRecDepth 20000 in
theorem ggX10_make_X10_isBelow : GoodIn wsX10_make wsX10_isBelow := goodIn_r _ [12] (by decide +kernel) (by decide +kernel)
set_option maxRecDepth 20000 in
theorem gX10_make_X10_isBelow : GoodIn wsX10_make (va_wsS RX10 40 yX10_isBelow wsX10_isBelow) := goodIn_app (goodIn_of _ (by decide +kernel)) ggX10_make_X10_isBelow
set_option maxRecDepth 20000 in
theorem ggX10_make_X6_beginAnew : GoodIn wsX10_make wsX6_beginAnew := goodIn_r _ [17, 18, 19, 20, 21, 22, 23, 24, 25, 26, 27, 28, 29, 30, 31, 32, 35, 36, 37, 38, 39, 40, 41, 42, 43, 44, 45, 46, 47, 48, 49, 50, 51, 52, 53, 54, 55, 56, 57, 58, 59, 60, 61, 62, 63, 64] (by decide +kernel) (by decide +kernel)
set_option maxRecDepth 20000 in
theorem gX10_make_X6_beginAnew : GoodIn wsX10_make (wsV RX10 51 RX6 yX6_beginAnew wsX6_beginAnew) := goodIn_app (goodIn_of _ (by decide +kernel)) ggX10_make_X6_beginAnew
set_option maxRecDepth 20000 in
theorem ggX10_put_X10_mapAt : GoodIn wsX10_put wsX10_mapAt := goodIn_ca (goodIn_r _ [5, 6, 7, 8, 9, 10, 4, 11, 148, 149] (by decide +kernel) (by decide +kernel)) (goodIn_sub (fun _ h => List.mem_cons_of_mem _ (List.mem_append_left _ (List.mem_append_right _ h))) (by decide +kernel))
set_option maxRecDepth 20000 in
theorem gX10_put_X10_mapAt : GoodIn wsX10_put (wsV RX10 36 RX10 yX10_mapAt wsX10_mapAt) := goodIn_app (goodIn_of _ (by decide +kernel)) ggX10_put_X10_mapAt
set_option maxRecDepth 20000 in
theorem ggX10_put_X6_store : GoodIn wsX10_put wsX6_store := goodIn_ca (goodIn_r _ [16, 17, 18, 19, 20, 21, 22, 23, 15, 24, 25, 26, 27, 28, 29, 30, 31, 32, 33, 34, 35, 36, 37, 4, 38, 39, 40, 41, 42, 43, 44, 45, 46, 47, 48, 49, 50, 51, 52, 53, 54, 55, 56, 57, 58, 59, 60, 61, 62, 63, 64, 65, 66, 67, 68, 69, 70, 71, 72, 73, 74, 75, 76, 77, 78, 79, 80, 81, 82, 83, 84, 85, 86, 87, 88, 89, 90, 91, 92, 93, 94, 95, 96, 97, 98, 99, 100, 101, 102, 103, 104, 105, 106, 107, 108, 109, 110, 111, 112, 113, 114, 115, 116, 117, 118, 119, 120, 121, 122, 123, 124, 125, 126, 127, 128, 129, 130, 131, 132, 133, 134, 135, 136, 137, 138, 10, 11, 139, 140, 141, 142, 143, 144, 145, 146, 147, 150, 151, 152, 153, 154, 155, 156, 157, 158, 159, 160, 161, 162, 163, 164, 165, 166, 167, 168] (by decide +kernel) (by decide +kernel)) (goodIn_sub (fun _ h => List.mem_cons_of_mem _ (List.mem_append_right _ h)) (by decide +kernel))
set_option maxRecDepth 20000 in
theorem gX10_put_X6_store : GoodIn wsX10_put (wsV RX10 55 RX6 yX6_store wsX6_store) := goodIn_app (goodIn_of _ (by decide +kernel)) ggX10_put_X6_store
set_option maxRecDepth 20000 in
theorem ggX10_remove_X10_mapAt : GoodIn wsX10_remove wsX10_mapAt := goodIn_ca (goodIn_r _ [5, 6, 7, 8, 9, 10, 4, 11, 141, 142] (by decide +kernel) (by decide +kernel)) (goodIn_sub (fun _ h => List.mem_cons_of_mem _ (List.mem_append_right _ h)) (by decide +kernel))
set_option maxRecDepth 20000 in
theorem gX10_remove_X10_mapAt : GoodIn wsX10_remove (wsV RX10 36 RX10 yX10_mapAt wsX10_mapAt) := goodIn_app (goodIn_of _ (by decide +kernel)) ggX10_remove_X10_mapAt
set_option maxRecDepth 20000 in
theorem ggX10_remove_X6_takeOut : GoodIn wsX10_remove wsX6_takeOut := goodIn_r _ [16, 17, 18, 19, 20, 21, 22, 23, 24, 25, 26, 27, 28, 29, 30, 31, 32, 33, 34, 35, 36, 37, 4, 38, 39, 40, 41, 42, 43, 44, 45, 46, 47, 48, 49, 50, 51, 52, 53, 54, 55, 56, 57, 58, 59, 60, 61, 62, 63, 64, 65, 66, 67, 68, 69, 70, 71, 72, 73, 74, 75, 76, 77, 78, 79, 80, 81, 82, 83, 84, 85, 86, 87, 88, 89, 90, 91, 92, 93, 94, 95, 96, 97, 98, 99, 100, 101, 102, 103, 104, 105, 106, 107, 108, 109, 110, 111, 112, 113, 114, 115, 116, 117, 118, 119, 120, 121, 122, 123, 124, 125, 126, 127, 128, 129, 130, 131, 132, 133, 134, 135, 10, 11, 136, 137, 138, 139, 140, 143, 144, 145, 146, 147, 148, 149, 150, 151, 152, 153, 154, 155, 156, 157, 158, 159, 160, 161] (by decide +kernel) (by decide +kernel)
set_option maxRecDepth 20000 in
theorem gX10_remove_X6_takeOut : GoodIn wsX10_remove (wsV RX10 58 RX6 yX6_takeOut wsX6_takeOut) := goodIn_app (goodIn_of _ (by decide +kernel)) ggX10_remove_X6_takeOut
set_option maxRecDepth 20000 in
theorem ggX10_get_X10_mapAt : GoodIn wsX10_get wsX10_mapAt := goodIn_ca (goodIn_r _ [5, 6, 7, 8, 9, 10, 4, 11, 38, 39] (by decide +kernel) (by decide +kernel)) (goodIn_sub (fun _ h => List.mem_cons_of_mem _ (List.mem_append_left _ (List.mem_append_right _ h))) (by decide +kernel))
set_option maxRecDepth 20000 in
theorem gX10_get_X10_mapAt : GoodIn wsX10_get (wsV RX10 36 RX10 yX10_mapAt wsX10_mapAt) := goodIn_app (goodIn_of _ (by decide +kernel)) ggX10_get_X10_mapAt
set_option maxRecDepth 20000 in
theorem ggX10_get_X6_valueOf : GoodIn wsX10_get wsX6_valueOf := goodIn_ca (goodIn_r _ [16, 17, 18, 19, 20, 21, 22, 23, 24, 25, 26, 27, 28, 29, 30, 31, 32, 4, 33, 34, 35, 36, 37, 40, 41, 42, 43, 44, 45, 46, 47, 48, 49, 50, 51, 52, 53, 54, 55, 56, 57, 58] (by decide +kernel) (by decide +kernel)) (goodIn_sub (fun _ h => List.mem_cons_of_mem _ (List.mem_append_right _ h)) (by decide +kernel))
set_option maxRecDepth 20000 in
theorem gX10_get_X6_valueOf : GoodIn wsX10_get (wsV RX10 62 RX6 yX6_valueOf wsX6_valueOf) := goodIn_app (goodIn_of _ (by decide +kernel)) ggX10_get_X6_valueOf
set_option maxRecDepth 20000 in
theorem ggX10_near_X10_mapAt : GoodIn wsX10_near wsX10_mapAt := goodIn_ca (goodIn_r _ [7, 1, 2, 8, 9, 10, 6, 11, 55, 56] (by decide +kernel) (by decide +kernel)) (goodIn_sub (fun _ h => List.mem_cons_of_mem _ (List.mem_append_left _ (List.mem_append_right _ h))) (by decide +kernel))
set_option maxRecDepth 20000 in
theorem gX10_near_X10_mapAt : GoodIn wsX10_near (wsV RX10 36 RX10 yX10_mapAt wsX10_mapAt) := goodIn_app (goodIn_of _ (by decide +kernel)) ggX10_near_X10_mapAt
set_option maxRecDepth 20000 in
theorem ggX10_near_X6_countUpTo : GoodIn wsX10_near wsX6_countUpTo := goodIn_r _ [16, 17, 18, 19, 20, 21, 22, 23, 24, 25, 26, 27, 28, 29, 6, 30, 31, 32, 33, 34, 35, 36, 37, 38, 39, 40, 57, 58, 59, 60, 61, 62, 63, 64, 65, 66, 67, 68, 69, 70, 71, 72, 73, 74, 75] (by decide +kernel) (by decide +kernel)
set_option maxRecDepth 20000 in
theorem gX10_near_X6_countUpTo : GoodIn wsX10_near (wsV RX10 66 RX6 yX6_countUpTo wsX6_countUpTo) := goodIn_app (goodIn_of _ (by decide +kernel)) ggX10_near_X6_countUpTo
set_option maxRecDepth 20000 in
theorem ggX10_near_X6_keyAt : GoodIn wsX10_near wsX6_keyAt := goodIn_ca (goodIn_r _ [44, 45, 46, 17, 47, 48, 49, 21, 50, 26, 27, 28, 10, 6, 11, 57, 58, 59, 60, 61, 62, 63, 64, 65, 66, 67, 68, 69, 70, 71, 72, 73, 74, 75] (by decide +kernel) (by decide +kernel)) (goodIn_sub (fun _ h => List.mem_cons_of_mem _ (List.mem_append_right _ h)) (by decide +kernel))
set_option maxRecDepth 20000 in
theorem gX10_near_X6_keyAt : GoodIn wsX10_near (wsV RX10 69 RX6 yX6_keyAt wsX6_keyAt) := goodIn_app (goodIn_of _ (by decide +kernel)) ggX10_near_X6_keyAt
set_option maxRecDepth 20000 in
theorem ggX10_near_X6_countBefore : GoodIn wsX10_near wsX6_countBefore := goodIn_r _ [54, 17, 18, 19, 20, 21, 22, 23, 24, 25, 26, 27, 28, 29, 6, 30, 31, 32, 33, 34, 57, 58, 59, 60, 61, 62, 63, 64, 65, 66, 67, 68, 69, 70, 71, 72, 73, 74, 75] (by decide +kernel) (by decide +kernel)
set_option maxRecDepth 20000 in
theorem gX10_near_X6_countBefore : GoodIn wsX10_near (wsV RX10 72 RX6 yX6_countBefore wsX6_countBefore) := goodIn_app (goodIn_of _ (by decide +kernel)) ggX10_near_X6_countBefore
set_option maxRecDepth 20000 in
theorem ggX10_size_X10_mapAt : GoodIn wsX10_size wsX10_mapAt := goodIn_ca (goodIn_r _ [5, 6, 7, 8, 9, 10, 4, 11, 18, 19] (by decide +kernel) (by decide +kernel)) (goodIn_sub (fun _ h => List.mem_cons_of_mem _ (List.mem_append_right _ h)) (by decide +kernel))
set_option maxRecDepth 20000 in
theorem gX10_size_X10_mapAt : GoodIn wsX10_size (wsV RX10 36 RX10 yX10_mapAt wsX10_mapAt) := goodIn_app (goodIn_of _ (by decide +kernel)) ggX10_size_X10_mapAt
set_option maxRecDepth 20000 in
theorem ggX10_size_X6_entryCount : GoodIn wsX10_size wsX6_entryCount := goodIn_r _ [16, 17, 20, 21, 22, 23, 24, 25, 26, 27, 28, 29, 30, 31, 32, 33, 34, 35, 36, 37, 38] (by decide +kernel) (by decide +kernel)
set_option maxRecDepth 20000 in
theorem gX10_size_X6_entryCount : GoodIn wsX10_size (wsV RX10 77 RX6 yX6_entryCount wsX6_entryCount) := goodIn_app (goodIn_of _ (by decide +kernel)) ggX10_size_X6_entryCount
set_option maxRecDepth 20000 in
theorem ggX10_rank_X10_mapAt : GoodIn wsX10_rank wsX10_mapAt := goodIn_ca (goodIn_r _ [5, 6, 7, 8, 9, 10, 4, 11, 35, 36] (by decide +kernel) (by decide +kernel)) (goodIn_sub (fun _ h => List.mem_cons_of_mem _ (List.mem_append_right _ h)) (by decide +kernel))
set_option maxRecDepth 20000 in
theorem gX10_rank_X10_mapAt : GoodIn wsX10_rank (wsV RX10 36 RX10 yX10_mapAt wsX10_mapAt) := goodIn_app (goodIn_of _ (by decide +kernel)) ggX10_rank_X10_mapAt
set_option maxRecDepth 20000 in
theorem ggX10_rank_X6_countBefore : GoodIn wsX10_rank wsX6_countBefore := goodIn_r _ [16, 17, 18, 19, 20, 21, 22, 23, 24, 25, 26, 27, 28, 29, 4, 30, 31, 32, 33, 34, 37, 38, 39, 40, 41, 42, 43, 44, 45, 46, 47, 48, 49, 50, 51, 52, 53, 54, 55] (by decide +kernel) (by decide +kernel)
set_option maxRecDepth 20000 in
theorem gX10_rank_X6_countBefore : GoodIn wsX10_rank (wsV RX10 72 RX6 yX6_countBefore wsX6_countBefore) := goodIn_app (goodIn_of _ (by decide +kernel)) ggX10_rank_X6_countBefore
set_option maxRecDepth 20000 in
theorem ggX10_select_X10_mapAt : GoodIn wsX10_select wsX10_mapAt := goodIn_ca (goodIn_r _ [5, 6, 7, 8, 9, 10, 4, 11, 28, 29] (by decide +kernel) (by decide +kernel)) (goodIn_sub (fun _ h => List.mem_cons_of_mem _ (List.mem_append_left _ (List.mem_append_right _ h))) (by decide +kernel))
set_option maxRecDepth 20000 in
theorem gX10_select_X10_mapAt : GoodIn wsX10_select (wsV RX10 36 RX10 yX10_mapAt wsX10_mapAt) := goodIn_app (goodIn_of _ (by decide +kernel)) ggX10_select_X10_mapAt
set_option maxRecDepth 20000 in
theorem ggX10_select_X6_keyAt : GoodIn wsX10_select wsX6_keyAt := goodIn_ca (goodIn_r _ [16, 17, 18, 19, 20, 21, 22, 23, 24, 25, 26, 27, 10, 4, 11, 30, 31, 32, 33, 34, 35, 36, 37, 38, 39, 40, 41, 42, 43, 44, 45, 46, 47, 48] (by decide +kernel) (by decide +kernel)) (goodIn_sub (fun _ h => List.mem_cons_of_mem _ (List.mem_append_right _ h)) (by decide +kernel))
set_option maxRecDepth 20000 in
theorem gX10_select_X6_keyAt : GoodIn wsX10_select (wsV RX10 69 RX6 yX6_keyAt wsX6_keyAt) := goodIn_app (goodIn_of _ (by decide +kernel)) ggX10_select_X6_keyAt
set_option maxRecDepth 20000 in
theorem ggX10_sum_X10_mapAt : GoodIn wsX10_sum wsX10_mapAt := goodIn_ca (goodIn_r _ [5, 6, 7, 8, 9, 10, 4, 11, 36, 37] (by decide +kernel) (by decide +kernel)) (goodIn_sub (fun _ h => List.mem_cons_of_mem _ (List.mem_append_right _ h)) (by decide +kernel))
set_option maxRecDepth 20000 in
theorem gX10_sum_X10_mapAt : GoodIn wsX10_sum (wsV RX10 36 RX10 yX10_mapAt wsX10_mapAt) := goodIn_app (goodIn_of _ (by decide +kernel)) ggX10_sum_X10_mapAt
set_option maxRecDepth 20000 in
theorem ggX10_sum_X6_totalBefore : GoodIn wsX10_sum wsX6_totalBefore := goodIn_r _ [16, 17, 18, 19, 20, 21, 22, 23, 24, 25, 26, 27, 28, 29, 30, 4, 31, 32, 33, 34, 35, 38, 39, 40, 41, 42, 43, 44, 45, 46, 47, 48, 49, 50, 51, 52, 53, 54, 55, 56] (by decide +kernel) (by decide +kernel)
set_option maxRecDepth 20000 in
theorem gX10_sum_X6_totalBefore : GoodIn wsX10_sum (wsV RX10 81 RX6 yX6_totalBefore wsX6_totalBefore) := goodIn_app (goodIn_of _ (by decide +kernel)) ggX10_sum_X6_totalBefore
set_option maxRecDepth 20000 in
theorem ggX10_range_X10_mapAt : GoodIn wsX10_range wsX10_mapAt := goodIn_ca (goodIn_r _ [7, 1, 2, 8, 9, 10, 6, 11, 29, 30] (by decide +kernel) (by decide +kernel)) (goodIn_sub (fun _ h => List.mem_cons_of_mem _ (List.mem_append_right _ h)) (by decide +kernel))
set_option maxRecDepth 20000 in
theorem gX10_range_X10_mapAt : GoodIn wsX10_range (wsV RX10 36 RX10 yX10_mapAt wsX10_mapAt) := goodIn_app (goodIn_of _ (by decide +kernel)) ggX10_range_X10_mapAt
set_option maxRecDepth 20000 in
theorem ggX10_range_X10_isBelow : GoodIn wsX10_range wsX10_isBelow := goodIn_r _ [11] (by decide +kernel) (by decide +kernel)
set_option maxRecDepth 20000 in
theorem gX10_range_X10_isBelow : GoodIn wsX10_range (va_wsS RX10 40 yX10_isBelow wsX10_isBelow) := goodIn_app (goodIn_of _ (by decide +kernel)) ggX10_range_X10_isBelow
set_option maxRecDepth 20000 in
theorem ggX10_range_X6_putsBefore : GoodIn wsX10_range wsX6_putsBefore := goodIn_r _ [16, 17, 18, 6, 19, 20, 21, 22, 23, 31, 32, 33, 34, 35, 36, 37, 38, 39, 40, 41, 42, 43, 44, 45, 46, 47, 48, 49] (by decide +kernel) (by decide +kernel)
set_option maxRecDepth 20000 in
theorem gX10_range_X6_putsBefore : GoodIn wsX10_range (wsV RX10 85 RX6 yX6_putsBefore wsX6_putsBefore) := goodIn_app (goodIn_of _ (by decide +kernel)) ggX10_range_X6_putsBefore
set_option maxRecDepth 20000 in
theorem ggX10_range_X6_narrow : GoodIn wsX10_range wsX6_narrow := goodIn_r _ [27, 28, 31, 32, 33, 34, 50, 51, 52, 53] (by decide +kernel) (by decide +kernel)
set_option maxRecDepth 20000 in
theorem gX10_range_X6_narrow : GoodIn wsX10_range (wsV RX10 90 RX6 yX6_narrow wsX6_narrow) := goodIn_app (goodIn_of _ (by decide +kernel)) ggX10_range_X6_narrow
set_option maxRecDepth 20000 in
theorem ggX10_within_X10_mapAt : GoodIn wsX10_within wsX10_mapAt := goodIn_ca (goodIn_r _ [7, 1, 2, 8, 9, 10, 6, 11, 63, 64] (by decide +kernel) (by decide +kernel)) (goodIn_sub (fun _ h => List.mem_cons_of_mem _ (List.mem_append_left _ (List.mem_append_right _ h))) (by decide +kernel))
set_option maxRecDepth 20000 in
theorem gX10_within_X10_mapAt : GoodIn wsX10_within (wsV RX10 36 RX10 yX10_mapAt wsX10_mapAt) := goodIn_app (goodIn_of _ (by decide +kernel)) ggX10_within_X10_mapAt
set_option maxRecDepth 20000 in
theorem ggX10_within_X6_countInRange : GoodIn wsX10_within wsX6_countInRange := goodIn_r _ [16, 17, 18, 19, 20, 21, 22, 23, 24, 25, 26, 27, 28, 29, 30, 31, 32, 33, 34, 35, 36, 37, 6, 38, 39, 40, 41, 42, 43, 44, 45, 46, 47, 48, 65, 66, 67, 68, 69, 70, 71, 72, 73, 74, 75, 76, 77, 78, 79, 80, 81, 82, 83, 84, 85, 86, 87] (by decide +kernel) (by decide +kernel)
set_option maxRecDepth 20000 in
theorem gX10_within_X6_countInRange : GoodIn wsX10_within (wsV RX10 94 RX6 yX6_countInRange wsX6_countInRange) := goodIn_app (goodIn_of _ (by decide +kernel)) ggX10_within_X6_countInRange
set_option maxRecDepth 20000 in
theorem ggX10_within_X6_endOfRange : GoodIn wsX10_within wsX6_endOfRange := goodIn_r _ [52, 17, 18, 43, 44, 45, 22, 46, 47, 48, 26, 27, 28, 29, 30, 31, 32, 33, 34, 35, 36, 37, 6, 38, 39, 40, 41, 42, 19, 20, 21, 23, 24, 25, 65, 66, 67, 68, 69, 70, 71, 72, 73, 74, 75, 76, 77, 78, 79, 80, 81, 82, 83, 84, 85, 86, 87] (by decide +kernel) (by decide +kernel)
set_option maxRecDepth 20000 in
theorem gX10_within_X6_endOfRange : GoodIn wsX10_within (wsV RX10 97 RX6 yX6_endOfRange wsX6_endOfRange) := goodIn_app (goodIn_of _ (by decide +kernel)) ggX10_within_X6_endOfRange
set_option maxRecDepth 20000 in
theorem ggX10_within_X6_keyAt : GoodIn wsX10_within wsX6_keyAt := goodIn_ca (goodIn_r _ [56, 57, 58, 18, 59, 60, 61, 29, 62, 34, 35, 36, 10, 6, 11, 65, 66, 67, 68, 73, 74, 75, 76, 77, 78, 79, 80, 81, 82, 83, 84, 85, 86, 87] (by decide +kernel) (by decide +kernel)) (goodIn_sub (fun _ h => List.mem_cons_of_mem _ (List.mem_append_right _ h)) (by decide +kernel))
set_option maxRecDepth 20000 in
theorem gX10_within_X6_keyAt : GoodIn wsX10_within (wsV RX10 69 RX6 yX6_keyAt wsX6_keyAt) := goodIn_app (goodIn_of _ (by decide +kernel)) ggX10_within_X6_keyAt
set_option maxRecDepth 20000 in
theorem ggX10_putWithin_X10_mapAt : GoodIn wsX10_putWithin wsX10_mapAt := goodIn_ca (goodIn_r _ [7, 1, 2, 8, 9, 10, 6, 11, 162, 163] (by decide +kernel) (by decide +kernel)) (goodIn_sub (fun _ h => List.mem_cons_of_mem _ (List.mem_append_left _ (List.mem_append_right _ h))) (by decide +kernel))
set_option maxRecDepth 20000 in
theorem gX10_putWithin_X10_mapAt : GoodIn wsX10_putWithin (wsV RX10 36 RX10 yX10_mapAt wsX10_mapAt) := goodIn_app (goodIn_of _ (by decide +kernel)) ggX10_putWithin_X10_mapAt
set_option maxRecDepth 20000 in
theorem ggX10_putWithin_X6_isInRange : GoodIn wsX10_putWithin wsX6_isInRange := goodIn_r _ [16, 17, 18, 19, 20, 21, 22, 23, 24, 25, 26, 27, 28, 6, 29, 30, 31, 32, 33, 164, 165, 166, 167, 168, 169, 170, 171, 172, 173, 174, 175, 176, 177, 178, 179, 180, 181, 182, 183, 184, 185, 186] (by decide +kernel) (by decide +kernel)
set_option maxRecDepth 20000 in
theorem gX10_putWithin_X6_isInRange : GoodIn wsX10_putWithin (wsV RX10 103 RX6 yX6_isInRange wsX6_isInRange) := goodIn_app (goodIn_of _ (by decide +kernel)) ggX10_putWithin_X6_isInRange
set_option maxRecDepth 20000 in
theorem ggX10_putWithin_X6_store : GoodIn wsX10_putWithin wsX6_store := goodIn_ca (goodIn_r _ [37, 38, 39, 18, 40, 41, 42, 43, 15, 44, 45, 46, 47, 48, 49, 50, 51, 52, 53, 54, 55, 56, 28, 6, 29, 30, 31, 32, 33, 57, 58, 59, 60, 61, 62, 63, 64, 65, 66, 67, 68, 69, 70, 71, 72, 73, 74, 75, 76, 77, 78, 79, 80, 81, 82, 83, 84, 85, 86, 87, 88, 89, 90, 91, 92, 93, 94, 95, 96, 97, 98, 99, 100, 101, 102, 103, 104, 105, 106, 107, 108, 109, 110, 111, 112, 113, 114, 115, 116, 117, 118, 119, 120, 121, 122, 123, 124, 125, 126, 127, 128, 129, 130, 131, 132, 133, 134, 135, 136, 137, 138, 139, 140, 141, 142, 143, 144, 145, 146, 147, 148, 149, 150, 151, 152, 10, 11, 153, 154, 155, 156, 157, 158, 159, 160, 161, 164, 165, 166, 167, 168, 169, 170, 171, 172, 173, 174, 175, 176, 177, 178, 179, 180, 181, 182] (by decide +kernel) (by decide +kernel)) (goodIn_sub (fun _ h => List.mem_cons_of_mem _ (List.mem_append_right _ h)) (by decide +kernel))
set_option maxRecDepth 20000 in
theorem gX10_putWithin_X6_store : GoodIn wsX10_putWithin (wsV RX10 55 RX6 yX6_store wsX6_store) := goodIn_app (goodIn_of _ (by decide +kernel)) ggX10_putWithin_X6_store
set_option maxRecDepth 20000 in
theorem ggX10_poll_X10_mapAt : GoodIn wsX10_poll wsX10_mapAt := goodIn_ca (goodIn_r _ [5, 6, 7, 8, 9, 10, 4, 11, 170, 171] (by decide +kernel) (by decide +kernel)) (goodIn_sub (fun _ h => List.mem_cons_of_mem _ (List.mem_append_left _ (List.mem_append_right _ h))) (by decide +kernel))
set_option maxRecDepth 20000 in
theorem gX10_poll_X10_mapAt : GoodIn wsX10_poll (wsV RX10 36 RX10 yX10_mapAt wsX10_mapAt) := goodIn_app (goodIn_of _ (by decide +kernel)) ggX10_poll_X10_mapAt
set_option maxRecDepth 20000 in
theorem ggX10_poll_X6_endOfRange : GoodIn wsX10_poll wsX6_endOfRange := goodIn_r _ [16, 17, 18, 19, 20, 21, 22, 23, 24, 25, 26, 27, 28, 29, 30, 31, 32, 33, 34, 35, 36, 37, 4, 38, 39, 40, 41, 42, 43, 44, 45, 46, 47, 48, 172, 173, 174, 175, 176, 177, 178, 179, 180, 181, 182, 183, 184, 185, 186, 187, 188, 189, 190, 191, 192, 193, 194] (by decide +kernel) (by decide +kernel)
set_option maxRecDepth 20000 in
theorem gX10_poll_X6_endOfRange : GoodIn wsX10_poll (wsV RX10 97 RX6 yX6_endOfRange wsX6_endOfRange) := goodIn_app (goodIn_of _ (by decide +kernel)) ggX10_poll_X6_endOfRange
set_option maxRecDepth 20000 in
theorem ggX10_poll_X6_keyAt : GoodIn wsX10_poll wsX6_keyAt := goodIn_ca (goodIn_r _ [52, 53, 54, 18, 55, 56, 57, 29, 58, 34, 35, 36, 10, 4, 11, 172, 173, 174, 175, 180, 181, 182, 183, 184, 185, 186, 187, 188, 189, 190, 191, 192, 193, 194] (by decide +kernel) (by decide +kernel)) (goodIn_sub (fun _ h => List.mem_cons_of_mem _ (List.mem_append_right _ h)) (by decide +kernel))
set_option maxRecDepth 20000 in
theorem gX10_poll_X6_keyAt : GoodIn wsX10_poll (wsV RX10 69 RX6 yX6_keyAt wsX6_keyAt) := goodIn_app (goodIn_of _ (by decide +kernel)) ggX10_poll_X6_keyAt
set_option maxRecDepth 20000 in
theorem ggX10_poll_X6_takeOut : GoodIn wsX10_poll wsX6_takeOut := goodIn_r _ [62, 18, 63, 64, 65, 66, 29, 67, 35, 36, 68, 69, 70, 71, 72, 73, 74, 75, 31, 32, 33, 37, 4, 38, 39, 40, 41, 42, 76, 77, 78, 79, 80, 81, 82, 83, 84, 85, 86, 87, 88, 89, 90, 91, 92, 93, 34, 94, 95, 96, 97, 98, 99, 100, 101, 102, 103, 104, 105, 106, 107, 108, 109, 110, 111, 112, 113, 114, 115, 116, 117, 118, 119, 120, 121, 122, 123, 124, 125, 126, 127, 128, 129, 130, 131, 132, 133, 134, 135, 136, 137, 138, 139, 140, 141, 142, 143, 144, 145, 146, 147, 148, 149, 150, 151, 152, 153, 154, 155, 156, 157, 158, 159, 160, 161, 162, 163, 164, 56, 57, 58, 10, 11, 165, 166, 167, 168, 169, 172, 173, 174, 175, 180, 181, 182, 183, 184, 185, 186, 187, 188, 189, 190, 191, 192, 193, 194] (by decide +kernel) (by decide +kernel)
set_option maxRecDepth 20000 in
theorem gX10_poll_X6_takeOut : GoodIn wsX10_poll (wsV RX10 58 RX6 yX6_takeOut wsX6_takeOut) := goodIn_app (goodIn_of _ (by decide +kernel)) ggX10_poll_X6_takeOut
set_option maxRecDepth 20000 in
theorem ggX10_iterate_X10_mapAt : GoodIn wsX10_iterate wsX10_mapAt := goodIn_ca (goodIn_r _ [5, 6, 7, 8, 9, 10, 4, 11, 62, 63] (by decide +kernel) (by decide +kernel)) (goodIn_sub (fun _ h => List.mem_cons_of_mem _ (List.mem_append_right _ h)) (by decide +kernel))
set_option maxRecDepth 20000 in
theorem gX10_iterate_X10_mapAt : GoodIn wsX10_iterate (wsV RX10 36 RX10 yX10_mapAt wsX10_mapAt) := goodIn_app (goodIn_of _ (by decide +kernel)) ggX10_iterate_X10_mapAt
set_option maxRecDepth 20000 in
theorem ggX10_iterate_X6_startWalk : GoodIn wsX10_iterate wsX6_startWalk := goodIn_r _ [16, 17, 18, 19, 20, 21, 22, 23, 24, 25, 26, 27, 28, 29, 30, 31, 32, 33, 34, 35, 36, 37, 38, 39, 4, 40, 41, 42, 43, 44, 45, 46, 47, 48, 49, 50, 51, 52, 53, 54, 55, 56, 57, 58, 59, 60, 61, 64, 65, 66, 67, 68, 69, 70, 71, 72, 73, 74, 75, 76, 77, 78, 79, 80, 81, 82, 83, 84, 85, 86, 87, 88, 89, 90, 91, 92, 93] (by decide +kernel) (by decide +kernel)
set_option maxRecDepth 20000 in
theorem gX10_iterate_X6_startWalk : GoodIn wsX10_iterate (wsV RX10 108 RX6 yX6_startWalk wsX6_startWalk) := goodIn_app (goodIn_of _ (by decide +kernel)) ggX10_iterate_X6_startWalk
set_option maxRecDepth 20000 in
theorem ggX10_next_X10_mapAt : GoodIn wsX10_next wsX10_mapAt := goodIn_ca (goodIn_r _ [7, 8, 9, 10, 11, 12, 6, 13, 54, 55] (by decide +kernel) (by decide +kernel)) (goodIn_sub (fun _ h => List.mem_cons_of_mem _ (List.mem_append_left _ (List.mem_append_right _ h))) (by decide +kernel))
set_option maxRecDepth 20000 in
theorem gX10_next_X10_mapAt : GoodIn wsX10_next (wsV RX10 36 RX10 yX10_mapAt wsX10_mapAt) := goodIn_app (goodIn_of _ (by decide +kernel)) ggX10_next_X10_mapAt
set_option maxRecDepth 20000 in
theorem ggX10_next_X6_canWalk : GoodIn wsX10_next wsX6_canWalk := goodIn_r _ [18, 19, 20, 56, 57, 58, 59, 60, 61, 62, 63, 64, 65, 66] (by decide +kernel) (by decide +kernel)
set_option maxRecDepth 20000 in
theorem gX10_next_X6_canWalk : GoodIn wsX10_next (wsV RX10 112 RX6 yX6_canWalk wsX6_canWalk) := goodIn_app (goodIn_of _ (by decide +kernel)) ggX10_next_X6_canWalk
set_option maxRecDepth 20000 in
theorem ggX10_next_X6_walkOn : GoodIn wsX10_next wsX6_walkOn := goodIn_ca (goodIn_r _ [24, 19, 25, 26, 27, 28, 29, 30, 31, 32, 33, 34, 35, 36, 17, 37, 38, 39, 40, 41, 42, 43, 44, 45, 46, 47, 48, 12, 6, 13, 49, 50, 51, 52, 53, 56, 57, 58, 59, 60, 61, 62, 63, 64, 65, 66, 67, 68, 69, 70, 71, 72, 73, 74, 75, 76, 77, 78, 79, 80, 81] (by decide +kernel) (by decide +kernel)) (goodIn_sub (fun _ h => List.mem_cons_of_mem _ (List.mem_append_right _ h)) (by decide +kernel))
set_option maxRecDepth 20000 in
theorem gX10_next_X6_walkOn : GoodIn wsX10_next (wsV RX10 121 RX6 yX6_walkOn wsX6_walkOn) := goodIn_app (goodIn_of _ (by decide +kernel)) ggX10_next_X6_walkOn
set_option maxRecDepth 20000 in
theorem ggX10_drop_X10_mapAt : GoodIn wsX10_drop wsX10_mapAt := goodIn_ca (goodIn_r _ [7, 8, 9, 10, 11, 12, 6, 13, 172, 173] (by decide +kernel) (by decide +kernel)) (goodIn_sub (fun _ h => List.mem_cons_of_mem _ (List.mem_append_left _ (List.mem_append_right _ h))) (by decide +kernel))
set_option maxRecDepth 20000 in
theorem gX10_drop_X10_mapAt : GoodIn wsX10_drop (wsV RX10 36 RX10 yX10_mapAt wsX10_mapAt) := goodIn_app (goodIn_of _ (by decide +kernel)) ggX10_drop_X10_mapAt
set_option maxRecDepth 20000 in
theorem ggX10_drop_X6_canDrop : GoodIn wsX10_drop wsX6_canDrop := goodIn_r _ [18, 19, 20, 21, 22, 17, 23, 24, 174, 175, 176, 177, 178, 179, 180, 181, 182, 183, 184] (by decide +kernel) (by decide +kernel)
set_option maxRecDepth 20000 in
theorem gX10_drop_X6_canDrop : GoodIn wsX10_drop (wsV RX10 124 RX6 yX6_canDrop wsX6_canDrop) := goodIn_app (goodIn_of _ (by decide +kernel)) ggX10_drop_X6_canDrop
set_option maxRecDepth 20000 in
theorem ggX10_drop_X6_dropLatest : GoodIn wsX10_drop wsX6_dropLatest := goodIn_ca (goodIn_r _ [28, 29, 19, 24, 30, 31, 32, 33, 34, 35, 36, 37, 38, 39, 17, 40, 41, 42, 43, 44, 45, 46, 47, 48, 49, 50, 12, 6, 13, 51, 52, 53, 54, 55, 56, 57, 58, 59, 60, 61, 62, 63, 64, 65, 66, 67, 68, 69, 70, 71, 72, 73, 74, 75, 76, 77, 78, 79, 80, 81, 82, 83, 84, 85, 86, 87, 88, 89, 90, 91, 92, 93, 94, 95, 96, 97, 98, 99, 100, 101, 102, 103, 104, 105, 106, 107, 108, 109, 110, 111, 112, 113, 114, 115, 116, 117, 118, 119, 120, 121, 122, 123, 124, 125, 126, 127, 128, 129, 130, 131, 132, 133, 134, 135, 136, 137, 138, 139, 140, 141, 142, 143, 144, 145, 146, 147, 148, 149, 150, 151, 152, 153, 154, 155, 156, 157, 158, 159, 160, 161, 162, 163, 164, 165, 166, 167, 168, 169, 170, 171, 174, 175, 176, 177, 178, 179, 180, 181, 182, 183, 184, 185, 186, 187, 188, 189, 190, 191, 192, 193, 194, 195, 196, 197, 198, 199] (by decide +kernel) (by decide +kernel)) (goodIn_sub (fun _ h => List.mem_cons_of_mem _ (List.mem_append_right _ h)) (by decide +kernel))
set_option maxRecDepth 20000 in
theorem gX10_drop_X6_dropLatest : GoodIn wsX10_drop (wsV RX10 129 RX6 yX6_dropLatest wsX6_dropLatest) := goodIn_app (goodIn_of _ (by decide +kernel)) ggX10_drop_X6_dropLatest
set_option maxRecDepth 20000 in
theorem ggX10_join_X10_mapAt : GoodIn wsX10_join wsX10_mapAt := goodIn_ca (goodIn_r _ [7, 1, 2, 8, 9, 10, 6, 11, 177, 178] (by decide +kernel) (by decide +kernel)) (goodIn_sub (fun _ h => List.mem_cons_of_mem _ (List.mem_append_left _ (List.mem_append_right _ h))) (by decide +kernel))
set_option maxRecDepth 20000 in
theorem gX10_join_X10_mapAt : GoodIn wsX10_join (wsV RX10 36 RX10 yX10_mapAt wsX10_mapAt) := goodIn_app (goodIn_of _ (by decide +kernel)) ggX10_join_X10_mapAt
set_option maxRecDepth 20000 in
theorem ggX10_join_X10_isBelow : GoodIn wsX10_join wsX10_isBelow := goodIn_r _ [11] (by decide +kernel) (by decide +kernel)
set_option maxRecDepth 20000 in
theorem gX10_join_X10_isBelow : GoodIn wsX10_join (va_wsS RX10 40 yX10_isBelow wsX10_isBelow) := goodIn_app (goodIn_of _ (by decide +kernel)) ggX10_join_X10_isBelow
set_option maxRecDepth 20000 in
theorem ggX10_join_X6_hasOrderOf : GoodIn wsX10_join wsX6_hasOrderOf := goodIn_r _ [16, 17, 179, 180, 181, 182, 183, 184, 185, 186, 187, 188, 189, 190, 191, 192, 193, 194, 195, 196, 197] (by decide +kernel) (by decide +kernel)
set_option maxRecDepth 20000 in
theorem gX10_join_X6_hasOrderOf : GoodIn wsX10_join (wsV RX10 132 RX6 yX6_hasOrderOf wsX6_hasOrderOf) := goodIn_app (goodIn_of _ (by decide +kernel)) ggX10_join_X6_hasOrderOf
set_option maxRecDepth 20000 in
theorem ggX10_join_X6_unite : GoodIn wsX10_join wsX6_unite := goodIn_ca (goodIn_r _ [21, 22, 23, 17, 24, 25, 26, 27, 15, 28, 29, 30, 31, 32, 33, 34, 35, 36, 37, 38, 39, 40, 10, 6, 11, 41, 42, 43, 44, 45, 46, 47, 48, 49, 50, 51, 52, 53, 54, 55, 56, 57, 58, 59, 60, 61, 62, 63, 64, 65, 66, 67, 68, 69, 70, 71, 72, 73, 74, 75, 76, 77, 78, 79, 80, 81, 82, 83, 84, 85, 86, 87, 88, 89, 90, 91, 92, 93, 94, 95, 96, 97, 98, 99, 100, 101, 102, 103, 104, 105, 106, 107, 108, 109, 110, 111, 112, 113, 114, 115, 116, 117, 118, 119, 120, 121, 122, 123, 124, 125, 126, 127, 128, 129, 130, 131, 132, 133, 134, 135, 136, 137, 138, 139, 140, 141, 142, 143, 144, 145, 146, 147, 148, 149, 150, 151, 152, 153, 154, 155, 156, 179, 180, 181, 182, 183, 184, 185, 186, 187, 188, 189, 190, 191, 192, 193, 194, 195, 196, 197] (by decide +kernel) (by decide +kernel)) (goodIn_sub (fun _ h => List.mem_cons_of_mem _ (List.mem_append_right _ h)) (by decide +kernel))
set_option maxRecDepth 20000 in
theorem gX10_join_X6_unite : GoodIn wsX10_join (wsV RX10 138 RX6 yX6_unite wsX6_unite) := goodIn_app (goodIn_of _ (by decide +kernel)) ggX10_join_X6_unite
set_option maxRecDepth 20000 in
theorem ggX10_join_X6_intersect : GoodIn wsX10_join wsX6_intersect := goodIn_r _ [160, 17, 29, 30, 31, 15, 32, 33, 34, 35, 36, 37, 38, 39, 40, 10, 6, 11, 41, 42, 43, 44, 45, 46, 47, 48, 49, 50, 51, 52, 53, 54, 55, 161, 162, 163, 164, 67, 60, 62, 165, 166, 167, 168, 61, 153, 154, 155, 156, 68, 69, 70, 71, 72, 73, 74, 75, 76, 77, 78, 79, 80, 81, 82, 83, 84, 85, 86, 87, 88, 89, 90, 91, 92, 93, 94, 95, 96, 97, 98, 99, 100, 101, 102, 103, 104, 105, 106, 107, 108, 109, 110, 111, 112, 113, 114, 115, 116, 117, 118, 119, 120, 121, 122, 123, 124, 125, 126, 127, 128, 129, 130, 131, 132, 133, 134, 135, 136, 137, 138, 139, 140, 141, 142, 143, 144, 145, 146, 147, 148, 149, 150, 151, 152, 56, 57, 58, 59, 63, 64, 65, 66, 169, 170, 171, 172, 24, 179, 180, 181, 182, 183, 184, 185, 186, 187, 188, 189, 190, 191, 192, 193, 194, 195, 196, 197] (by decide +kernel) (by decide +kernel)
set_option maxRecDepth 20000 in
theorem gX10_join_X6_intersect : GoodIn wsX10_join (wsV RX10 142 RX6 yX6_intersect wsX6_intersect) := goodIn_app (goodIn_of _ (by decide +kernel)) ggX10_join_X6_intersect
set_option maxRecDepth 20000 in
theorem ggX10_join_X6_subtract : GoodIn wsX10_join wsX6_subtract := goodIn_r _ [176, 17, 29, 30, 31, 15, 32, 33, 34, 35, 36, 37, 38, 39, 40, 10, 6, 11, 41, 42, 43, 44, 45, 46, 47, 48, 49, 50, 51, 52, 53, 54, 55, 161, 162, 163, 164, 67, 60, 62, 165, 166, 167, 168, 61, 153, 154, 155, 156, 68, 69, 70, 71, 72, 73, 74, 75, 76, 77, 78, 79, 80, 81, 82, 83, 84, 85, 86, 87, 88, 89, 90, 91, 92, 93, 94, 95, 96, 97, 98, 99, 100, 101, 102, 103, 104, 105, 106, 107, 108, 109, 110, 111, 112, 113, 114, 115, 116, 117, 118, 119, 120, 121, 122, 123, 124, 125, 126, 127, 128, 129, 130, 131, 132, 133, 134, 135, 136, 137, 138, 139, 140, 141, 142, 143, 144, 145, 146, 147, 148, 149, 150, 151, 152, 169, 170, 171, 172, 24, 179, 180, 181, 182, 183, 184, 185, 186, 187, 188, 189, 190, 191, 192, 193, 194, 195, 196, 197] (by decide +kernel) (by decide +kernel)
set_option maxRecDepth 20000 in
theorem gX10_join_X6_subtract : GoodIn wsX10_join (wsV RX10 145 RX6 yX6_subtract wsX6_subtract) := goodIn_app (goodIn_of _ (by decide +kernel)) ggX10_join_X6_subtract
set_option maxRecDepth 20000 in
theorem ggX10_split_X10_mapAt : GoodIn wsX10_split wsX10_mapAt := goodIn_ca (goodIn_r _ [7, 1, 2, 8, 9, 10, 6, 11, 172, 173] (by decide +kernel) (by decide +kernel)) (goodIn_sub (fun _ h => List.mem_cons_of_mem _ (List.mem_append_right _ h)) (by decide +kernel))
set_option maxRecDepth 20000 in
theorem gX10_split_X10_mapAt : GoodIn wsX10_split (wsV RX10 36 RX10 yX10_mapAt wsX10_mapAt) := goodIn_app (goodIn_of _ (by decide +kernel)) ggX10_split_X10_mapAt
set_option maxRecDepth 20000 in
theorem ggX10_split_X6_moveBehind : GoodIn wsX10_split wsX6_moveBehind := goodIn_r _ [16, 17, 18, 19, 20, 21, 15, 22, 23, 24, 25, 26, 27, 28, 29, 30, 31, 32, 33, 34, 35, 36, 37, 38, 39, 40, 41, 42, 43, 44, 45, 46, 47, 48, 6, 49, 50, 51, 52, 53, 54, 55, 56, 57, 10, 11, 58, 59, 60, 61, 62, 63, 64, 65, 66, 67, 68, 69, 70, 71, 72, 73, 74, 75, 76, 77, 78, 79, 80, 81, 82, 83, 84, 85, 86, 87, 88, 89, 90, 91, 92, 93, 94, 95, 96, 97, 98, 99, 100, 101, 102, 103, 104, 105, 106, 107, 108, 109, 110, 111, 112, 113, 114, 115, 116, 117, 118, 119, 120, 121, 122, 123, 124, 125, 126, 127, 128, 129, 130, 131, 132, 133, 134, 135, 136, 137, 138, 139, 140, 141, 142, 143, 144, 145, 146, 147, 148, 149, 150, 151, 152, 153, 154, 155, 156, 157, 158, 159, 160, 161, 162, 163, 164, 165, 166, 167, 168, 169, 170, 171, 174, 175, 176, 177, 178, 179, 180, 181, 182, 183, 184, 185, 186, 187, 188, 189, 190, 191, 192, 193, 194, 195, 196, 197, 198, 199, 200, 201, 202, 203] (by decide +kernel) (by decide +kernel)
set_option maxRecDepth 20000 in
theorem gX10_split_X6_moveBehind : GoodIn wsX10_split (wsV RX10 150 RX6 yX6_moveBehind wsX6_moveBehind) := goodIn_app (goodIn_of _ (by decide +kernel)) ggX10_split_X6_moveBehind
set_option maxRecDepth 20000 in
theorem ggX10_changes_X10_mapAt : GoodIn wsX10_changes wsX10_mapAt := goodIn_ca (goodIn_r _ [5, 6, 7, 8, 9, 10, 4, 11, 16, 17] (by decide +kernel) (by decide +kernel)) (goodIn_sub (fun _ h => List.mem_cons_of_mem _ (List.mem_append_right _ h)) (by decide +kernel))
set_option maxRecDepth 20000 in
theorem gX10_changes_X10_mapAt : GoodIn wsX10_changes (wsV RX10 36 RX10 yX10_mapAt wsX10_mapAt) := goodIn_app (goodIn_of _ (by decide +kernel)) ggX10_changes_X10_mapAt
set_option maxRecDepth 20000 in
theorem ggX10_audit_X10_mapAt : GoodIn wsX10_audit wsX10_mapAt := goodIn_ca (goodIn_r _ [5, 6, 7, 8, 9, 10, 4, 11, 86, 87] (by decide +kernel) (by decide +kernel)) (goodIn_sub (fun _ h => List.mem_cons_of_mem _ (List.mem_append_right _ h)) (by decide +kernel))
set_option maxRecDepth 20000 in
theorem gX10_audit_X10_mapAt : GoodIn wsX10_audit (wsV RX10 36 RX10 yX10_mapAt wsX10_mapAt) := goodIn_app (goodIn_of _ (by decide +kernel)) ggX10_audit_X10_mapAt
set_option maxRecDepth 20000 in
theorem ggX10_audit_X6_isSound : GoodIn wsX10_audit wsX6_isSound := goodIn_r _ [16, 17, 18, 19, 20, 21, 22, 23, 24, 25, 26, 27, 28, 29, 30, 31, 32, 33, 34, 10, 4, 11, 35, 36, 37, 38, 39, 40, 41, 42, 43, 44, 45, 46, 47, 48, 49, 50, 51, 52, 53, 54, 55, 56, 57, 58, 59, 60, 61, 62, 63, 64, 65, 66, 67, 68, 69, 70, 71, 72, 73, 74, 75, 76, 77, 78, 79, 80, 81, 82, 83, 84, 85, 88, 89, 90, 91, 92, 93, 94, 95, 96, 97, 98, 99, 100, 101, 102, 103, 104, 105, 106] (by decide +kernel) (by decide +kernel)
set_option maxRecDepth 20000 in
theorem gX10_audit_X6_isSound : GoodIn wsX10_audit (wsV RX10 158 RX6 yX6_isSound wsX6_isSound) := goodIn_app (goodIn_of _ (by decide +kernel)) ggX10_audit_X6_isSound
set_option maxRecDepth 20000 in
theorem ggX10_mapAt_X10_isBelow : GoodIn wsX10_mapAt wsX10_isBelow := goodIn_r _ [7] (by decide +kernel) (by decide +kernel)
set_option maxRecDepth 20000 in
theorem gX10_mapAt_X10_isBelow : GoodIn wsX10_mapAt (va_wsS RX10 40 yX10_isBelow wsX10_isBelow) := goodIn_app (goodIn_of _ (by decide +kernel)) ggX10_mapAt_X10_isBelow
set_option maxRecDepth 20000 in
theorem ggX10_goesBefore_J9_floorDiv_7cf53 : GoodIn wsX10_goesBefore wsJ9_floorDiv_7cf53 := goodIn_r _ [4] (by decide +kernel) (by decide +kernel)
set_option maxRecDepth 20000 in
theorem gX10_goesBefore_J9_floorDiv_7cf53 : GoodIn wsX10_goesBefore (va_wsS RX10 163 yJ9_floorDiv_7cf53 wsJ9_floorDiv_7cf53) := goodIn_app (goodIn_of _ (by decide +kernel)) ggX10_goesBefore_J9_floorDiv_7cf53
set_option maxRecDepth 20000 in
theorem ggX11_place_X11_before : GoodIn wsX11_place wsX11_before := goodIn_r _ [7, 8, 9, 10, 11, 12, 13, 14, 15, 16, 17, 18, 19, 20, 21, 22, 23, 24, 25] (by decide +kernel) (by decide +kernel)
set_option maxRecDepth 20000 in
theorem gX11_place_X11_before : GoodIn wsX11_place (wsV RX11 63 RX11 yX11_before wsX11_before) := goodIn_app (goodIn_of _ (by decide +kernel)) ggX11_place_X11_before
set_option maxRecDepth 20000 in
theorem ggX11_isAt_X11_before : GoodIn wsX11_isAt wsX11_before := goodIn_r _ [7, 8, 9, 10, 11, 12, 13, 14, 15, 16, 17, 18, 19, 20, 21, 22, 23, 24, 25] (by decide +kernel) (by decide +kernel)
set_option maxRecDepth 20000 in
theorem gX11_isAt_X11_before : GoodIn wsX11_isAt (wsV RX11 63 RX11 yX11_before wsX11_before) := goodIn_app (goodIn_of _ (by decide +kernel)) ggX11_isAt_X11_before
set_option maxRecDepth 20000 in
theorem ggX11_make_X11_isMap : GoodIn wsX11_make wsX11_isMap := goodIn_r _ [5] (by decide +kernel) (by decide +kernel)
set_option maxRecDepth 20000 in
theorem gX11_make_X11_isMap : GoodIn wsX11_make (va_wsS RX11 67 yX11_isMap wsX11_isMap) := goodIn_app (goodIn_of _ (by decide +kernel)) ggX11_make_X11_isMap
set_option maxRecDepth 20000 in
theorem ggX11_make_X11_renew : GoodIn wsX11_make wsX11_renew := goodIn_r _ [9, 10, 11, 12, 13, 14, 15, 16, 17, 18, 19, 20, 21, 22, 23, 24, 25, 26, 27, 28, 29, 30, 31] (by decide +kernel) (by decide +kernel)
set_option maxRecDepth 20000 in
theorem gX11_make_X11_renew : GoodIn wsX11_make (wsV RX11 71 RX11 yX11_renew wsX11_renew) := goodIn_app (goodIn_of _ (by decide +kernel)) ggX11_make_X11_renew
set_option maxRecDepth 20000 in
theorem ggX11_put_X11_isMap : GoodIn wsX11_put wsX11_isMap := goodIn_r _ [5] (by decide +kernel) (by decide +kernel)
set_option maxRecDepth 20000 in
theorem gX11_put_X11_isMap : GoodIn wsX11_put (va_wsS RX11 67 yX11_isMap wsX11_isMap) := goodIn_app (goodIn_of _ (by decide +kernel)) ggX11_put_X11_isMap
set_option maxRecDepth 20000 in
theorem ggX11_put_X11_enter : GoodIn wsX11_put wsX11_enter := goodIn_r _ [9, 10, 11, 1, 12, 13, 14, 4, 15, 16, 17, 18, 19, 20, 21, 22, 23, 24, 25, 26, 27, 28, 29, 30, 31, 32, 33, 34, 35, 36, 37, 38, 39, 40, 41, 42, 43, 44, 45, 46, 47] (by decide +kernel) (by decide +kernel)
set_option maxRecDepth 20000 in
theorem gX11_put_X11_enter : GoodIn wsX11_put (wsV RX11 75 RX11 yX11_enter wsX11_enter) := goodIn_app (goodIn_of _ (by decide +kernel)) ggX11_put_X11_enter
set_option maxRecDepth 20000 in
theorem ggX11_enter_X11_place : GoodIn wsX11_enter wsX11_place := goodIn_r _ [8, 2, 9, 10, 11, 12, 7, 13, 14, 24, 25, 26, 27, 28, 29, 30, 31, 32, 33, 34, 35, 36, 37, 38, 39, 40] (by decide +kernel) (by decide +kernel)
set_option maxRecDepth 20000 in
theorem gX11_enter_X11_place : GoodIn wsX11_enter (wsV RX11 78 RX11 yX11_place wsX11_place) := goodIn_app (goodIn_of _ (by decide +kernel)) ggX11_enter_X11_place
set_option maxRecDepth 20000 in
theorem ggX11_enter_X11_isAt : GoodIn wsX11_enter wsX11_isAt := goodIn_r _ [18, 2, 9, 10, 11, 12, 7, 13, 14, 24, 25, 26, 27, 28, 29, 30, 31, 32, 33, 34, 35, 36, 37, 38, 39, 40] (by decide +kernel) (by decide +kernel)
set_option maxRecDepth 20000 in
theorem gX11_enter_X11_isAt : GoodIn wsX11_enter (wsV RX11 82 RX11 yX11_isAt wsX11_isAt) := goodIn_app (goodIn_of _ (by decide +kernel)) ggX11_enter_X11_isAt
set_option maxRecDepth 20000 in
theorem ggX11_enter_X11_open : GoodIn wsX11_enter wsX11_open := goodIn_r _ [22, 2, 9, 1, 23, 24, 25, 26, 27, 28, 29, 30, 31, 32, 33, 34, 35, 36, 37, 38, 39, 40] (by decide +kernel) (by decide +kernel)
set_option maxRecDepth 20000 in
theorem gX11_enter_X11_open : GoodIn wsX11_enter (wsV RX11 85 RX11 yX11_open wsX11_open) := goodIn_app (goodIn_of _ (by decide +kernel)) ggX11_enter_X11_open
set_option maxRecDepth 20000 in
theorem ggX11_remove_X11_isMap : GoodIn wsX11_remove wsX11_isMap := goodIn_r _ [5] (by decide +kernel) (by decide +kernel)
set_option maxRecDepth 20000 in
theorem gX11_remove_X11_isMap : GoodIn wsX11_remove (va_wsS RX11 67 yX11_isMap wsX11_isMap) := goodIn_app (goodIn_of _ (by decide +kernel)) ggX11_remove_X11_isMap
set_option maxRecDepth 20000 in
theorem ggX11_remove_X11_place : GoodIn wsX11_remove wsX11_place := goodIn_r _ [9, 10, 11, 12, 13, 14, 4, 15, 16, 27, 28, 29, 30, 31, 32, 33, 34, 35, 36, 37, 38, 39, 40, 41, 42, 43] (by decide +kernel) (by decide +kernel)
set_option maxRecDepth 20000 in
theorem gX11_remove_X11_place : GoodIn wsX11_remove (wsV RX11 78 RX11 yX11_place wsX11_place) := goodIn_app (goodIn_of _ (by decide +kernel)) ggX11_remove_X11_place
set_option maxRecDepth 20000 in
theorem ggX11_remove_X11_isAt : GoodIn wsX11_remove wsX11_isAt := goodIn_r _ [20, 10, 11, 12, 13, 14, 4, 15, 16, 27, 28, 29, 30, 31, 32, 33, 34, 35, 36, 37, 38, 39, 40, 41, 42, 43] (by decide +kernel) (by decide +kernel)
set_option maxRecDepth 20000 in
theorem gX11_remove_X11_isAt : GoodIn wsX11_remove (wsV RX11 82 RX11 yX11_isAt wsX11_isAt) := goodIn_app (goodIn_of _ (by decide +kernel)) ggX11_remove_X11_isAt
set_option maxRecDepth 20000 in
theorem ggX11_remove_X11_close : GoodIn wsX11_remove wsX11_close := goodIn_r _ [24, 11, 10, 25, 26, 27, 28, 29, 30, 31, 32, 33, 34, 35, 36, 37, 38, 39, 40, 41, 42, 43] (by decide +kernel) (by decide +kernel)
set_option maxRecDepth 20000 in
theorem gX11_remove_X11_close : GoodIn wsX11_remove (wsV RX11 89 RX11 yX11_close wsX11_close) := goodIn_app (goodIn_of _ (by decide +kernel)) ggX11_remove_X11_close
set_option maxRecDepth 20000 in
theorem ggX11_get_X11_isMap : GoodIn wsX11_get wsX11_isMap := goodIn_r _ [6] (by decide +kernel) (by decide +kernel)
set_option maxRecDepth 20000 in
theorem gX11_get_X11_isMap : GoodIn wsX11_get (va_wsS RX11 67 yX11_isMap wsX11_isMap) := goodIn_app (goodIn_of _ (by decide +kernel)) ggX11_get_X11_isMap
set_option maxRecDepth 20000 in
theorem ggX11_get_X11_refuse : GoodIn wsX11_get wsX11_refuse := goodIn_r _ [10, 1, 26, 27, 28, 29, 30, 31, 32, 33, 34, 35, 36, 37, 38, 39, 40, 41, 42] (by decide +kernel) (by decide +kernel)
set_option maxRecDepth 20000 in
theorem gX11_get_X11_refuse : GoodIn wsX11_get (wsV RX11 92 RX11 yX11_refuse wsX11_refuse) := goodIn_app (goodIn_of _ (by decide +kernel)) ggX11_get_X11_refuse
set_option maxRecDepth 20000 in
theorem ggX11_get_X11_place : GoodIn wsX11_get wsX11_place := goodIn_r _ [14, 15, 16, 17, 18, 19, 5, 20, 21, 26, 27, 28, 29, 30, 31, 32, 33, 34, 35, 36, 37, 38, 39, 40, 41, 42] (by decide +kernel) (by decide +kernel)
set_option maxRecDepth 20000 in
theorem gX11_get_X11_place : GoodIn wsX11_get (wsV RX11 78 RX11 yX11_place wsX11_place) := goodIn_app (goodIn_of _ (by decide +kernel)) ggX11_get_X11_place
set_option maxRecDepth 20000 in
theorem ggX11_get_X11_isAt : GoodIn wsX11_get wsX11_isAt := goodIn_r _ [25, 15, 16, 17, 18, 19, 5, 20, 21, 26, 27, 28, 29, 30, 31, 32, 33, 34, 35, 36, 37, 38, 39, 40, 41, 42] (by decide +kernel) (by decide +kernel)
set_option maxRecDepth 20000 in
theorem gX11_get_X11_isAt : GoodIn wsX11_get (wsV RX11 82 RX11 yX11_isAt wsX11_isAt) := goodIn_app (goodIn_of _ (by decide +kernel)) ggX11_get_X11_isAt
set_option maxRecDepth 20000 in
theorem ggX11_near_X11_isMap : GoodIn wsX11_near wsX11_isMap := goodIn_r _ [7] (by decide +kernel) (by decide +kernel)
set_option maxRecDepth 20000 in
theorem gX11_near_X11_isMap : GoodIn wsX11_near (va_wsS RX11 67 yX11_isMap wsX11_isMap) := goodIn_app (goodIn_of _ (by decide +kernel)) ggX11_near_X11_isMap
set_option maxRecDepth 20000 in
theorem ggX11_near_X11_refuse : GoodIn wsX11_near wsX11_refuse := goodIn_r _ [11, 1, 25, 26, 27, 28, 29, 30, 31, 32, 33, 34, 35, 36, 37, 38, 39, 40, 41] (by decide +kernel) (by decide +kernel)
set_option maxRecDepth 20000 in
theorem gX11_near_X11_refuse : GoodIn wsX11_near (wsV RX11 92 RX11 yX11_refuse wsX11_refuse) := goodIn_app (goodIn_of _ (by decide +kernel)) ggX11_near_X11_refuse
set_option maxRecDepth 20000 in
theorem ggX11_near_X11_place : GoodIn wsX11_near wsX11_place := goodIn_r _ [15, 2, 3, 16, 17, 18, 6, 19, 20, 25, 26, 27, 28, 29, 30, 31, 32, 33, 34, 35, 36, 37, 38, 39, 40, 41] (by decide +kernel) (by decide +kernel)
set_option maxRecDepth 20000 in
theorem gX11_near_X11_place : GoodIn wsX11_near (wsV RX11 78 RX11 yX11_place wsX11_place) := goodIn_app (goodIn_of _ (by decide +kernel)) ggX11_near_X11_place
set_option maxRecDepth 20000 in
theorem ggX11_near_X11_isAt : GoodIn wsX11_near wsX11_isAt := goodIn_r _ [24, 2, 3, 16, 17, 18, 6, 19, 20, 25, 26, 27, 28, 29, 30, 31, 32, 33, 34, 35, 36, 37, 38, 39, 40, 41] (by decide +kernel) (by decide +kernel)
set_option maxRecDepth 20000 in
theorem gX11_near_X11_isAt : GoodIn wsX11_near (wsV RX11 82 RX11 yX11_isAt wsX11_isAt) := goodIn_app (goodIn_of _ (by decide +kernel)) ggX11_near_X11_isAt
set_option maxRecDepth 20000 in
theorem ggX11_size_X11_isMap : GoodIn wsX11_size wsX11_isMap := goodIn_r _ [6] (by decide +kernel) (by decide +kernel)
set_option maxRecDepth 20000 in
theorem gX11_size_X11_isMap : GoodIn wsX11_size (va_wsS RX11 67 yX11_isMap wsX11_isMap) := goodIn_app (goodIn_of _ (by decide +kernel)) ggX11_size_X11_isMap
set_option maxRecDepth 20000 in
theorem ggX11_rank_X11_isMap : GoodIn wsX11_rank wsX11_isMap := goodIn_r _ [5] (by decide +kernel) (by decide +kernel)
set_option maxRecDepth 20000 in
theorem gX11_rank_X11_isMap : GoodIn wsX11_rank (va_wsS RX11 67 yX11_isMap wsX11_isMap) := goodIn_app (goodIn_of _ (by decide +kernel)) ggX11_rank_X11_isMap
set_option maxRecDepth 20000 in
theorem ggX11_rank_X11_place : GoodIn wsX11_rank wsX11_place := goodIn_r _ [9, 10, 11, 12, 13, 14, 4, 15, 16, 17, 18, 19, 20, 21, 22, 23, 24, 25, 26, 27, 28, 29, 30, 31, 32, 33] (by decide +kernel) (by decide +kernel)
set_option maxRecDepth 20000 in
theorem gX11_rank_X11_place : GoodIn wsX11_rank (wsV RX11 78 RX11 yX11_place wsX11_place) := goodIn_app (goodIn_of _ (by decide +kernel)) ggX11_rank_X11_place
set_option maxRecDepth 20000 in
theorem ggX11_select_X11_isMap : GoodIn wsX11_select wsX11_isMap := goodIn_r _ [7] (by decide +kernel) (by decide +kernel)
set_option maxRecDepth 20000 in
theorem gX11_select_X11_isMap : GoodIn wsX11_select (va_wsS RX11 67 yX11_isMap wsX11_isMap) := goodIn_app (goodIn_of _ (by decide +kernel)) ggX11_select_X11_isMap
set_option maxRecDepth 20000 in
theorem ggX11_sum_X11_isMap : GoodIn wsX11_sum wsX11_isMap := goodIn_r _ [6] (by decide +kernel) (by decide +kernel)
set_option maxRecDepth 20000 in
theorem gX11_sum_X11_isMap : GoodIn wsX11_sum (va_wsS RX11 67 yX11_isMap wsX11_isMap) := goodIn_app (goodIn_of _ (by decide +kernel)) ggX11_sum_X11_isMap
set_option maxRecDepth 20000 in
theorem ggX11_sum_X11_place : GoodIn wsX11_sum wsX11_place := goodIn_r _ [10, 11, 12, 13, 14, 15, 5, 16, 17, 18, 19, 20, 21, 22, 23, 24, 25, 26, 27, 28, 29, 30, 31, 32, 33, 34] (by decide +kernel) (by decide +kernel)
set_option maxRecDepth 20000 in
theorem gX11_sum_X11_place : GoodIn wsX11_sum (wsV RX11 78 RX11 yX11_place wsX11_place) := goodIn_app (goodIn_of _ (by decide +kernel)) ggX11_sum_X11_place
set_option maxRecDepth 20000 in
theorem ggX11_range_X11_isMap : GoodIn wsX11_range wsX11_isMap := goodIn_r _ [8] (by decide +kernel) (by decide +kernel)
set_option maxRecDepth 20000 in
theorem gX11_range_X11_isMap : GoodIn wsX11_range (va_wsS RX11 67 yX11_isMap wsX11_isMap) := goodIn_app (goodIn_of _ (by decide +kernel)) ggX11_range_X11_isMap
set_option maxRecDepth 20000 in
theorem ggX11_range_X11_before : GoodIn wsX11_range wsX11_before := goodIn_r _ [12, 13, 14, 15, 16, 17, 18, 19, 20, 21, 22, 23, 24, 25, 26, 27, 28, 29, 30] (by decide +kernel) (by decide +kernel)
set_option maxRecDepth 20000 in
theorem gX11_range_X11_before : GoodIn wsX11_range (wsV RX11 63 RX11 yX11_before wsX11_before) := goodIn_app (goodIn_of _ (by decide +kernel)) ggX11_range_X11_before
set_option maxRecDepth 20000 in
theorem ggX11_begins_X11_place : GoodIn wsX11_begins wsX11_place := goodIn_r _ [7, 8, 9, 10, 11, 12, 6, 13, 14, 15, 16, 17, 18, 19, 20, 21, 22, 23, 24, 25, 26, 27, 28, 29, 30, 31] (by decide +kernel) (by decide +kernel)
set_option maxRecDepth 20000 in
theorem gX11_begins_X11_place : GoodIn wsX11_begins (wsV RX11 78 RX11 yX11_place wsX11_place) := goodIn_app (goodIn_of _ (by decide +kernel)) ggX11_begins_X11_place
set_option maxRecDepth 20000 in
theorem ggX11_ends_X11_place : GoodIn wsX11_ends wsX11_place := goodIn_r _ [8, 3, 9, 10, 11, 12, 7, 13, 14, 15, 16, 17, 18, 19, 20, 21, 22, 23, 24, 25, 26, 27, 28, 29, 30, 31] (by decide +kernel) (by decide +kernel)
set_option maxRecDepth 20000 in
theorem gX11_ends_X11_place : GoodIn wsX11_ends (wsV RX11 78 RX11 yX11_place wsX11_place) := goodIn_app (goodIn_of _ (by decide +kernel)) ggX11_ends_X11_place
set_option maxRecDepth 20000 in
theorem ggX11_within_X11_isMap : GoodIn wsX11_within wsX11_isMap := goodIn_r _ [6] (by decide +kernel) (by decide +kernel)
set_option maxRecDepth 20000 in
theorem gX11_within_X11_isMap : GoodIn wsX11_within (va_wsS RX11 67 yX11_isMap wsX11_isMap) := goodIn_app (goodIn_of _ (by decide +kernel)) ggX11_within_X11_isMap
set_option maxRecDepth 20000 in
theorem ggX11_within_X11_begins : GoodIn wsX11_within wsX11_begins := goodIn_r _ [10, 11, 12, 13, 14, 15, 5, 16, 17, 2, 18, 19, 20, 21, 22, 32, 33, 34, 35, 36, 37, 38, 39, 40, 41, 42, 43, 44, 45, 46, 47, 48] (by decide +kernel) (by decide +kernel)
set_option maxRecDepth 20000 in
theorem gX11_within_X11_begins : GoodIn wsX11_within (wsV RX11 96 RX11 yX11_begins wsX11_begins) := goodIn_app (goodIn_of _ (by decide +kernel)) ggX11_within_X11_begins
set_option maxRecDepth 20000 in
theorem ggX11_within_X11_ends : GoodIn wsX11_within wsX11_ends := goodIn_r _ [26, 11, 27, 17, 13, 14, 15, 5, 16, 2, 18, 19, 20, 21, 22, 32, 33, 34, 35, 36, 37, 38, 39, 40, 41, 42, 43, 44, 45, 46, 47, 48] (by decide +kernel) (by decide +kernel)
set_option maxRecDepth 20000 in
theorem gX11_within_X11_ends : GoodIn wsX11_within (wsV RX11 99 RX11 yX11_ends wsX11_ends) := goodIn_app (goodIn_of _ (by decide +kernel)) ggX11_within_X11_ends
set_option maxRecDepth 20000 in
theorem ggX11_within_X11_refuse : GoodIn wsX11_within wsX11_refuse := goodIn_r _ [31, 1, 32, 33, 34, 35, 36, 37, 38, 39, 40, 41, 42, 43, 44, 45, 46, 47, 48] (by decide +kernel) (by decide +kernel)
set_option maxRecDepth 20000 in
theorem gX11_within_X11_refuse : GoodIn wsX11_within (wsV RX11 92 RX11 yX11_refuse wsX11_refuse) := goodIn_app (goodIn_of _ (by decide +kernel)) ggX11_within_X11_refuse
set_option maxRecDepth 20000 in
theorem ggX11_putWithin_X11_isMap : GoodIn wsX11_putWithin wsX11_isMap := goodIn_r _ [8] (by decide +kernel) (by decide +kernel)
set_option maxRecDepth 20000 in
theorem gX11_putWithin_X11_isMap : GoodIn wsX11_putWithin (va_wsS RX11 67 yX11_isMap wsX11_isMap) := goodIn_app (goodIn_of _ (by decide +kernel)) ggX11_putWithin_X11_isMap
set_option maxRecDepth 20000 in
theorem ggX11_putWithin_X11_before : GoodIn wsX11_putWithin wsX11_before := goodIn_r _ [12, 13, 34, 35, 36, 37, 38, 39, 40, 41, 42, 43, 44, 45, 46, 47, 48, 49, 50] (by decide +kernel) (by decide +kernel)
set_option maxRecDepth 20000 in
theorem gX11_putWithin_X11_before : GoodIn wsX11_putWithin (wsV RX11 63 RX11 yX11_before wsX11_before) := goodIn_app (goodIn_of _ (by decide +kernel)) ggX11_putWithin_X11_before
set_option maxRecDepth 20000 in
theorem ggX11_putWithin_X11_enter : GoodIn wsX11_putWithin wsX11_enter := goodIn_r _ [17, 18, 19, 4, 20, 21, 22, 7, 23, 24, 9, 10, 11, 12, 13, 25, 26, 27, 28, 29, 30, 31, 32, 33, 34, 35, 36, 37, 38, 39, 40, 41, 42, 43, 44, 45, 46, 47, 48, 49, 50] (by decide +kernel) (by decide +kernel)
set_option maxRecDepth 20000 in
theorem gX11_putWithin_X11_enter : GoodIn wsX11_putWithin (wsV RX11 75 RX11 yX11_enter wsX11_enter) := goodIn_app (goodIn_of _ (by decide +kernel)) ggX11_putWithin_X11_enter
set_option maxRecDepth 20000 in
theorem ggX11_poll_X11_isMap : GoodIn wsX11_poll wsX11_isMap := goodIn_r _ [5] (by decide +kernel) (by decide +kernel)
set_option maxRecDepth 20000 in
theorem gX11_poll_X11_isMap : GoodIn wsX11_poll (va_wsS RX11 67 yX11_isMap wsX11_isMap) := goodIn_app (goodIn_of _ (by decide +kernel)) ggX11_poll_X11_isMap
set_option maxRecDepth 20000 in
theorem ggX11_poll_X11_begins : GoodIn wsX11_poll wsX11_begins := goodIn_r _ [9, 10, 11, 12, 13, 14, 4, 15, 16, 17, 18, 19, 20, 21, 22, 34, 35, 36, 37, 38, 39, 40, 41, 42, 43, 44, 45, 46, 47, 48, 49, 50] (by decide +kernel) (by decide +kernel)
set_option maxRecDepth 20000 in
theorem gX11_poll_X11_begins : GoodIn wsX11_poll (wsV RX11 96 RX11 yX11_begins wsX11_begins) := goodIn_app (goodIn_of _ (by decide +kernel)) ggX11_poll_X11_begins
set_option maxRecDepth 20000 in
theorem ggX11_poll_X11_ends : GoodIn wsX11_poll wsX11_ends := goodIn_r _ [26, 10, 27, 16, 12, 13, 14, 4, 15, 17, 18, 19, 20, 21, 22, 34, 35, 36, 37, 38, 39, 40, 41, 42, 43, 44, 45, 46, 47, 48, 49, 50] (by decide +kernel) (by decide +kernel)
set_option maxRecDepth 20000 in
theorem gX11_poll_X11_ends : GoodIn wsX11_poll (wsV RX11 99 RX11 yX11_ends wsX11_ends) := goodIn_app (goodIn_of _ (by decide +kernel)) ggX11_poll_X11_ends
set_option maxRecDepth 20000 in
theorem ggX11_poll_X11_close : GoodIn wsX11_poll wsX11_close := goodIn_r _ [31, 17, 16, 32, 33, 34, 35, 36, 37, 38, 39, 40, 41, 42, 43, 44, 45, 46, 47, 48, 49, 50] (by decide +kernel) (by decide +kernel)
set_option maxRecDepth 20000 in
theorem gX11_poll_X11_close : GoodIn wsX11_poll (wsV RX11 89 RX11 yX11_close wsX11_close) := goodIn_app (goodIn_of _ (by decide +kernel)) ggX11_poll_X11_close
set_option maxRecDepth 20000 in
theorem ggX11_iterate_X11_isMap : GoodIn wsX11_iterate wsX11_isMap := goodIn_r _ [13] (by decide +kernel) (by decide +kernel)
set_option maxRecDepth 20000 in
theorem gX11_iterate_X11_isMap : GoodIn wsX11_iterate (va_wsS RX11 67 yX11_isMap wsX11_isMap) := goodIn_app (goodIn_of _ (by decide +kernel)) ggX11_iterate_X11_isMap
set_option maxRecDepth 20000 in
theorem ggX11_iterate_X11_begins : GoodIn wsX11_iterate wsX11_begins := goodIn_r _ [17, 18, 19, 20, 21, 22, 12, 23, 24, 9, 25, 26, 27, 28, 29, 35, 36, 37, 38, 39, 40, 41, 42, 43, 44, 45, 46, 47, 48, 49, 50, 51] (by decide +kernel) (by decide +kernel)
set_option maxRecDepth 20000 in
theorem gX11_iterate_X11_begins : GoodIn wsX11_iterate (wsV RX11 96 RX11 yX11_begins wsX11_begins) := goodIn_app (goodIn_of _ (by decide +kernel)) ggX11_iterate_X11_begins
set_option maxRecDepth 20000 in
theorem ggX11_iterate_X11_ends : GoodIn wsX11_iterate wsX11_ends := goodIn_r _ [33, 18, 34, 24, 20, 21, 22, 12, 23, 9, 25, 26, 27, 28, 29, 35, 36, 37, 38, 39, 40, 41, 42, 43, 44, 45, 46, 47, 48, 49, 50, 51] (by decide +kernel) (by decide +kernel)
set_option maxRecDepth 20000 in
theorem gX11_iterate_X11_ends : GoodIn wsX11_iterate (wsV RX11 99 RX11 yX11_ends wsX11_ends) := goodIn_app (goodIn_of _ (by decide +kernel)) ggX11_iterate_X11_ends
set_option maxRecDepth 20000 in
theorem ggX11_next_X11_isMap : GoodIn wsX11_next wsX11_isMap := goodIn_r _ [12] (by decide +kernel) (by decide +kernel)
set_option maxRecDepth 20000 in
theorem gX11_next_X11_isMap : GoodIn wsX11_next (va_wsS RX11 67 yX11_isMap wsX11_isMap) := goodIn_app (goodIn_of _ (by decide +kernel)) ggX11_next_X11_isMap
set_option maxRecDepth 20000 in
theorem ggX11_drop_X11_isMap : GoodIn wsX11_drop wsX11_isMap := goodIn_r _ [11] (by decide +kernel) (by decide +kernel)
set_option maxRecDepth 20000 in
theorem gX11_drop_X11_isMap : GoodIn wsX11_drop (va_wsS RX11 67 yX11_isMap wsX11_isMap) := goodIn_app (goodIn_of _ (by decide +kernel)) ggX11_drop_X11_isMap
set_option maxRecDepth 20000 in
theorem ggX11_drop_X11_place : GoodIn wsX11_drop wsX11_place := goodIn_r _ [15, 16, 17, 18, 19, 20, 10, 21, 22, 28, 29, 30, 31, 32, 33, 34, 35, 36, 37, 38, 39, 40, 41, 42, 43, 44] (by decide +kernel) (by decide +kernel)
set_option maxRecDepth 20000 in
theorem gX11_drop_X11_place : GoodIn wsX11_drop (wsV RX11 78 RX11 yX11_place wsX11_place) := goodIn_app (goodIn_of _ (by decide +kernel)) ggX11_drop_X11_place
set_option maxRecDepth 20000 in
theorem ggX11_drop_X11_close : GoodIn wsX11_drop wsX11_close := goodIn_r _ [26, 17, 16, 27, 3, 28, 29, 30, 31, 32, 33, 34, 35, 36, 37, 38, 39, 40, 41, 42, 43, 44] (by decide +kernel) (by decide +kernel)
set_option maxRecDepth 20000 in
theorem gX11_drop_X11_close : GoodIn wsX11_drop (wsV RX11 89 RX11 yX11_close wsX11_close) := goodIn_app (goodIn_of _ (by decide +kernel)) ggX11_drop_X11_close
set_option maxRecDepth 20000 in
theorem ggX11_join_X11_isMap : GoodIn wsX11_join wsX11_isMap := goodIn_r _ [12] (by decide +kernel) (by decide +kernel)
set_option maxRecDepth 20000 in
theorem gX11_join_X11_isMap : GoodIn wsX11_join (va_wsS RX11 67 yX11_isMap wsX11_isMap) := goodIn_app (goodIn_of _ (by decide +kernel)) ggX11_join_X11_isMap
set_option maxRecDepth 20000 in
theorem ggX11_join_X11_refuse : GoodIn wsX11_join wsX11_refuse := goodIn_r _ [16, 1, 21, 22, 23, 24, 25, 26, 27, 28, 29, 30, 31, 32, 33, 34, 35, 36, 37] (by decide +kernel) (by decide +kernel)
set_option maxRecDepth 20000 in
theorem gX11_join_X11_refuse : GoodIn wsX11_join (wsV RX11 92 RX11 yX11_refuse wsX11_refuse) := goodIn_app (goodIn_of _ (by decide +kernel)) ggX11_join_X11_refuse
set_option maxRecDepth 20000 in
theorem ggX11_join_X11_before : GoodIn wsX11_join wsX11_before := goodIn_r _ [20, 2, 21, 22, 23, 24, 25, 26, 27, 28, 29, 30, 31, 32, 33, 34, 35, 36, 37] (by decide +kernel) (by decide +kernel)
set_option maxRecDepth 20000 in
theorem gX11_join_X11_before : GoodIn wsX11_join (wsV RX11 63 RX11 yX11_before wsX11_before) := goodIn_app (goodIn_of _ (by decide +kernel)) ggX11_join_X11_before
set_option maxRecDepth 20000 in
theorem ggX11_split_X11_isMap : GoodIn wsX11_split wsX11_isMap := goodIn_r _ [10] (by decide +kernel) (by decide +kernel)
set_option maxRecDepth 20000 in
theorem gX11_split_X11_isMap : GoodIn wsX11_split (va_wsS RX11 67 yX11_isMap wsX11_isMap) := goodIn_app (goodIn_of _ (by decide +kernel)) ggX11_split_X11_isMap
set_option maxRecDepth 20000 in
theorem ggX11_split_X11_refuse : GoodIn wsX11_split wsX11_refuse := goodIn_r _ [14, 1, 33, 34, 35, 36, 37, 38, 39, 40, 41, 42, 43, 44, 45, 46, 47, 48, 49] (by decide +kernel) (by decide +kernel)
set_option maxRecDepth 20000 in
theorem gX11_split_X11_refuse : GoodIn wsX11_split (wsV RX11 92 RX11 yX11_refuse wsX11_refuse) := goodIn_app (goodIn_of _ (by decide +kernel)) ggX11_split_X11_refuse
set_option maxRecDepth 20000 in
theorem ggX11_split_X11_renew : GoodIn wsX11_split wsX11_renew := goodIn_r _ [18, 2, 3, 19, 20, 6, 33, 34, 35, 36, 37, 38, 39, 40, 41, 42, 43, 44, 45, 46, 47, 48, 49] (by decide +kernel) (by decide +kernel)
set_option maxRecDepth 20000 in
theorem gX11_split_X11_renew : GoodIn wsX11_split (wsV RX11 71 RX11 yX11_renew wsX11_renew) := goodIn_app (goodIn_of _ (by decide +kernel)) ggX11_split_X11_renew
set_option maxRecDepth 20000 in
theorem ggX11_split_X11_place : GoodIn wsX11_split wsX11_place := goodIn_r _ [24, 3, 4, 25, 26, 27, 9, 28, 2, 33, 34, 35, 36, 37, 38, 39, 40, 41, 42, 43, 44, 45, 46, 47, 48, 49] (by decide +kernel) (by decide +kernel)
set_option maxRecDepth 20000 in
theorem gX11_split_X11_place : GoodIn wsX11_split (wsV RX11 78 RX11 yX11_place wsX11_place) := goodIn_app (goodIn_of _ (by decide +kernel)) ggX11_split_X11_place
set_option maxRecDepth 20000 in
theorem ggX11_split_X11_open : GoodIn wsX11_split wsX11_open := goodIn_r _ [32, 3, 4, 5, 6, 33, 34, 35, 36, 37, 38, 39, 40, 41, 42, 43, 44, 45, 46, 47, 48, 49] (by decide +kernel) (by decide +kernel)
set_option maxRecDepth 20000 in
theorem gX11_split_X11_open : GoodIn wsX11_split (wsV RX11 85 RX11 yX11_open wsX11_open) := goodIn_app (goodIn_of _ (by decide +kernel)) ggX11_split_X11_open
set_option maxRecDepth 20000 in
theorem ggX11_changes_X11_isMap : GoodIn wsX11_changes wsX11_isMap := goodIn_r _ [6] (by decide +kernel) (by decide +kernel)
set_option maxRecDepth 20000 in
theorem gX11_changes_X11_isMap : GoodIn wsX11_changes (va_wsS RX11 67 yX11_isMap wsX11_isMap) := goodIn_app (goodIn_of _ (by decide +kernel)) ggX11_changes_X11_isMap
set_option maxRecDepth 20000 in
theorem ggX11_audit_X11_isMap : GoodIn wsX11_audit wsX11_isMap := goodIn_r _ [5] (by decide +kernel) (by decide +kernel)
set_option maxRecDepth 20000 in
theorem gX11_audit_X11_isMap : GoodIn wsX11_audit (va_wsS RX11 67 yX11_isMap wsX11_isMap) := goodIn_app (goodIn_of _ (by decide +kernel)) ggX11_audit_X11_isMap
abbrev vwCl : List vw_C := [(RX0, TX0, 0), (RX1, TX1, 0), (RX2, TX2, 0), (RX4, TX4, 0), (RX6, TX6, 4), (RX7, TX7, 4), (RX8, TX8, 15), (RX9, TX9, 7), (RX10, TX10, 2), (RX11, TX11, 17)]
