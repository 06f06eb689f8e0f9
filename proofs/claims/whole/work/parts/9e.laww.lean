/-! the law's words (printed) -/
theorem inlX0 : ∀ w ∈ wsX00, w ∈ wsL_law := fun _ h => List.mem_append_left _ (List.mem_append_left _ (List.mem_append_left _ (List.mem_append_left _ (List.mem_append_left _ (List.mem_append_left _ (List.mem_append_left _ (List.mem_append_left _ (List.mem_append_left _ (List.mem_append_left _ (List.mem_append_left _ (List.mem_append_right _ h)))))))))))
theorem inlX1 : ∀ w ∈ wsX10, w ∈ wsL_law := fun _ h => List.mem_append_left _ (List.mem_append_left _ (List.mem_append_left _ (List.mem_append_left _ (List.mem_append_left _ (List.mem_append_left _ (List.mem_append_left _ (List.mem_append_left _ (List.mem_append_left _ (List.mem_append_right _ h)))))))))
theorem inlX2 : ∀ w ∈ wsX20, w ∈ wsL_law := fun _ h => List.mem_append_left _ (List.mem_append_left _ (List.mem_append_left _ (List.mem_append_left _ (List.mem_append_left _ (List.mem_append_left _ (List.mem_append_left _ (List.mem_append_left _ (List.mem_append_right _ h))))))))
theorem inlX4 : ∀ w ∈ wsX40, w ∈ wsL_law := fun _ h => List.mem_append_left _ (List.mem_append_left _ (List.mem_append_left _ (List.mem_append_left _ (List.mem_append_left _ (List.mem_append_left _ (List.mem_append_left _ (List.mem_append_left _ (List.mem_append_left _ (List.mem_append_left _ (List.mem_append_right _ h))))))))))
theorem inlX6 : ∀ w ∈ wsX60, w ∈ wsL_law := fun _ h => List.mem_append_left _ (List.mem_append_left _ (List.mem_append_left _ (List.mem_append_left _ (List.mem_append_left _ (List.mem_append_left _ (List.mem_append_left _ (List.mem_append_right _ h)))))))
theorem inlX7 : ∀ w ∈ wsX70, w ∈ wsL_law := fun _ h => List.mem_append_left _ (List.mem_append_left _ (List.mem_append_left _ (List.mem_append_left _ (List.mem_append_left _ (List.mem_append_right _ h)))))
theorem inlX8 : ∀ w ∈ wsX80, w ∈ wsL_law := fun _ h => List.mem_append_left _ (List.mem_append_left _ (List.mem_append_left _ (List.mem_append_left _ (List.mem_append_left _ (List.mem_append_left _ (List.mem_append_right _ h))))))
theorem inlX9 : ∀ w ∈ wsX90, w ∈ wsL_law := fun _ h => List.mem_append_left _ (List.mem_append_left _ (List.mem_append_left _ (List.mem_append_left _ (List.mem_append_right _ h))))
theorem inlX10 : ∀ w ∈ wsX100, w ∈ wsL_law := fun _ h => List.mem_append_left _ (List.mem_append_left _ (List.mem_append_left _ (List.mem_append_left _ (List.mem_append_left _ (List.mem_append_left _ (List.mem_append_left _ (List.mem_append_left _ (List.mem_append_left _ (List.mem_append_left _ (List.mem_append_left _ (List.mem_append_left _ (List.mem_append_left _ (List.mem_append_right _ h)))))))))))))
theorem inlX11 : ∀ w ∈ wsX110, w ∈ wsL_law := fun _ h => List.mem_append_left _ (List.mem_append_left _ (List.mem_append_left _ (List.mem_append_left _ (List.mem_append_left _ (List.mem_append_left _ (List.mem_append_left _ (List.mem_append_left _ (List.mem_append_left _ (List.mem_append_left _ (List.mem_append_left _ (List.mem_append_left _ (List.mem_append_right _ h))))))))))))
set_option maxRecDepth 20000 in
theorem ggL_law_X10_init : GoodIn wsL_law wsX10_init := goodIn_r _ [9, 10, 11, 12, 13, 14, 15, 16, 17, 18, 19, 20, 21, 22, 23, 24, 25, 26, 27, 28, 29, 30, 31, 32, 33, 34, 35, 36, 37, 38, 39, 40, 41, 42, 43, 44, 45, 46, 47, 48, 49, 50, 51, 52, 53, 54, 55, 56, 57, 58, 59, 60, 61, 62, 63, 64, 65, 66, 67, 68, 69, 70, 71, 72, 73, 6, 74, 75, 76, 77, 78, 79, 80, 81, 82, 83, 84, 85, 86, 87, 88, 89, 90, 91, 92, 692, 693, 711, 712, 713, 714, 715, 716, 717, 718, 719, 720, 721, 722, 723, 724, 725, 726, 727, 728, 729, 730, 731, 732, 733, 734, 735, 736, 737, 738, 739, 740] (by decide +kernel) (by decide +kernel)
set_option maxRecDepth 20000 in
theorem gL_law_X10_init : GoodIn wsL_law (wsX10_init) := ggL_law_X10_init
set_option maxRecDepth 20000 in
theorem ggL_law_X11_init : GoodIn wsL_law wsX11_init := goodIn_r _ [95, 96, 11, 12, 67, 97, 98, 99, 100, 101, 102, 103, 104, 105, 106, 107, 108, 109, 110, 111, 112, 113, 694, 695, 696, 697, 698, 699, 700, 701, 702, 703, 704, 705, 706, 707, 708, 709, 710] (by decide +kernel) (by decide +kernel)
set_option maxRecDepth 20000 in
theorem gL_law_X11_init : GoodIn wsL_law (wsX11_init) := ggL_law_X11_init
set_option maxRecDepth 20000 in
theorem ggL_law_L_make : GoodIn wsL_law wsL_make := goodIn_ca (goodIn_r _ [117, 118, 119, 120, 121, 2, 122, 123, 124, 26, 125, 126, 127, 128, 28, 129, 130, 131, 132, 133, 134, 30, 135, 53, 57, 61, 62, 136, 79, 80, 52, 81, 82, 83, 84, 85, 86, 75, 692, 693, 711, 712, 713, 714, 730, 731, 732, 733, 734, 735, 736, 737, 738, 739, 740, 715, 716, 717, 718, 719, 720, 721, 722, 723, 724, 725, 726, 727, 728, 729] (by decide +kernel) (by decide +kernel)) (goodIn_sub (fun _ h => List.mem_append_left _ (List.mem_append_left _ (List.mem_append_right _ h))) (by decide +kernel))
set_option maxRecDepth 20000 in
theorem gL_law_L_make : GoodIn wsL_law (va_wsS RL 91 yL_make wsL_make) := goodIn_app (goodIn_of _ (by decide +kernel)) ggL_law_L_make
set_option maxRecDepth 20000 in
theorem ggL_law_X11_make : GoodIn wsL_law wsX11_make := goodIn_r _ [140, 141, 142, 143, 5, 144, 145, 146, 147, 148, 97, 98, 102, 106, 101, 694, 695, 696, 697, 698, 699, 700, 701, 702, 703, 704, 705, 706, 707, 708, 709, 710] (by decide +kernel) (by decide +kernel)
set_option maxRecDepth 20000 in
theorem gL_law_X11_make : GoodIn wsL_law (wsV RL 96 RX11 yX11_make wsX11_make) := goodIn_app (goodIn_of _ (by decide +kernel)) ggL_law_X11_make
set_option maxRecDepth 20000 in
theorem ggL_law_X11_thrown : GoodIn wsL_law wsX11_thrown := goodIn_r _ [152, 141, 694, 695, 696, 697, 698, 699, 700, 701, 702, 703, 704, 705, 706, 707, 708, 709, 710] (by decide +kernel) (by decide +kernel)
set_option maxRecDepth 20000 in
theorem gL_law_X11_thrown : GoodIn wsL_law (wsV RL 97 RX11 yX11_thrown wsX11_thrown) := goodIn_app (goodIn_of _ (by decide +kernel)) ggL_law_X11_thrown
set_option maxRecDepth 20000 in
theorem ggL_law_L_put : GoodIn wsL_law wsL_put := goodIn_ca (goodIn_ca (goodIn_r _ [155, 118, 156, 157, 158, 159, 2, 160, 125, 126, 127, 128, 123, 124, 28, 129, 130, 131, 161, 162, 163, 30, 164, 165, 166, 53, 62, 167, 168, 169, 170, 171, 172, 173, 52, 174, 85, 84, 76, 83, 68, 70, 71, 175, 176, 177, 178, 179, 180, 181, 182, 183, 184, 86, 69, 185, 186, 187, 188, 189, 75, 190, 191, 192, 193, 82, 194, 195, 196, 197, 72, 74, 73, 198, 199, 200, 201, 34, 202, 203, 204, 205, 206, 15, 207, 208, 209, 19, 210, 211, 212, 213, 214, 215, 216, 217, 218, 219, 220, 221, 222, 223, 224, 225, 226, 227, 228, 22, 229, 230, 231, 232, 233, 234, 235, 236, 237, 238, 239, 240, 241, 242, 243, 244, 245, 25, 246, 247, 248, 249, 250, 251, 252, 253, 254, 255, 256, 257, 258, 259, 77, 260, 261, 262, 263, 264, 265, 266, 267, 268, 269, 270, 271, 272, 692, 693, 711, 712, 713, 714, 715, 716, 717, 718, 719, 720, 721, 722, 723, 724, 725, 726, 727, 728, 729] (by decide +kernel) (by decide +kernel)) (goodIn_sub (fun _ h => List.mem_append_left _ (List.mem_append_left _ (List.mem_append_right _ h))) (by decide +kernel))) (goodIn_sub (fun _ h => List.mem_append_left _ (List.mem_append_right _ h)) (by decide +kernel))
set_option maxRecDepth 20000 in
theorem gL_law_L_put : GoodIn wsL_law (va_wsS RL 101 yL_put wsL_put) := goodIn_app (goodIn_of _ (by decide +kernel)) ggL_law_L_put
set_option maxRecDepth 20000 in
theorem ggL_law_X11_put : GoodIn wsL_law wsX11_put := goodIn_r _ [276, 141, 142, 143, 5, 144, 277, 278, 279, 280, 100, 98, 281, 282, 283, 284, 99, 285, 286, 287, 288, 97, 289, 290, 291, 292, 293, 294, 295, 296, 101, 694, 695, 696, 697, 698, 699, 700, 701, 702, 703, 704, 705, 706, 707, 708, 709, 710] (by decide +kernel) (by decide +kernel)
set_option maxRecDepth 20000 in
theorem gL_law_X11_put : GoodIn wsL_law (wsV RL 104 RX11 yX11_put wsX11_put) := goodIn_app (goodIn_of _ (by decide +kernel)) ggL_law_X11_put
set_option maxRecDepth 20000 in
theorem ggL_law_L_remove : GoodIn wsL_law wsL_remove := goodIn_ca (goodIn_r _ [299, 118, 300, 301, 302, 2, 303, 125, 126, 127, 128, 123, 124, 28, 129, 130, 131, 304, 305, 306, 30, 307, 53, 62, 308, 309, 310, 52, 311, 70, 71, 85, 76, 75, 86, 185, 172, 173, 174, 84, 83, 68, 175, 176, 177, 178, 179, 180, 312, 313, 314, 315, 69, 269, 270, 271, 272, 190, 191, 192, 193, 82, 194, 195, 196, 197, 72, 74, 73, 198, 199, 200, 201, 34, 202, 203, 204, 205, 206, 15, 207, 208, 209, 19, 210, 211, 212, 213, 214, 215, 216, 217, 218, 219, 220, 221, 222, 223, 224, 225, 226, 227, 228, 22, 229, 230, 231, 232, 233, 234, 235, 236, 237, 238, 239, 240, 241, 242, 243, 244, 245, 25, 246, 247, 248, 249, 250, 251, 252, 253, 254, 255, 256, 257, 258, 259, 77, 260, 261, 262, 263, 264, 265, 266, 267, 268, 692, 693, 711, 712, 713, 714, 715, 716, 717, 718, 719, 720, 721, 722, 723, 724, 725, 726, 727, 728, 729] (by decide +kernel) (by decide +kernel)) (goodIn_sub (fun _ h => List.mem_append_left _ (List.mem_append_left _ (List.mem_append_right _ h))) (by decide +kernel))
set_option maxRecDepth 20000 in
theorem gL_law_L_remove : GoodIn wsL_law (va_wsS RL 105 yL_remove wsL_remove) := goodIn_app (goodIn_of _ (by decide +kernel)) ggL_law_L_remove
set_option maxRecDepth 20000 in
theorem ggL_law_X11_remove : GoodIn wsL_law wsX11_remove := goodIn_r _ [319, 141, 142, 143, 5, 144, 281, 282, 283, 284, 98, 99, 285, 286, 287, 288, 97, 289, 290, 291, 292, 320, 321, 322, 323, 100, 101, 694, 695, 696, 697, 698, 699, 700, 701, 702, 703, 704, 705, 706, 707, 708, 709, 710] (by decide +kernel) (by decide +kernel)
set_option maxRecDepth 20000 in
theorem gL_law_X11_remove : GoodIn wsL_law (wsV RL 108 RX11 yX11_remove wsX11_remove) := goodIn_app (goodIn_of _ (by decide +kernel)) ggL_law_X11_remove
set_option maxRecDepth 20000 in
theorem ggL_law_L_get : GoodIn wsL_law wsL_get := goodIn_ca (goodIn_ca (goodIn_r _ [326, 118, 156, 327, 328, 329, 2, 330, 125, 126, 127, 128, 123, 124, 28, 129, 130, 131, 331, 332, 333, 30, 334, 165, 166, 53, 171, 172, 173, 52, 174, 85, 84, 76, 83, 68, 70, 71, 175, 176, 177, 178, 179, 180, 692, 693, 711, 712, 713, 714, 715, 716, 717, 718, 719, 720, 721, 722, 723, 724, 725, 726, 727, 728, 729] (by decide +kernel) (by decide +kernel)) (goodIn_sub (fun _ h => List.mem_append_left _ (List.mem_append_left _ (List.mem_append_right _ h))) (by decide +kernel))) (goodIn_sub (fun _ h => List.mem_append_left _ (List.mem_append_right _ h)) (by decide +kernel))
set_option maxRecDepth 20000 in
theorem gL_law_L_get : GoodIn wsL_law (va_wsS RL 109 yL_get wsL_get) := goodIn_app (goodIn_of _ (by decide +kernel)) ggL_law_L_get
set_option maxRecDepth 20000 in
theorem ggL_law_X11_get : GoodIn wsL_law wsX11_get := goodIn_r _ [338, 141, 100, 142, 143, 5, 144, 339, 340, 341, 342, 281, 282, 283, 284, 98, 99, 285, 286, 287, 288, 97, 289, 290, 291, 292, 694, 695, 696, 697, 698, 699, 700, 701, 702, 703, 704, 705, 706, 707, 708, 709, 710] (by decide +kernel) (by decide +kernel)
set_option maxRecDepth 20000 in
theorem gL_law_X11_get : GoodIn wsL_law (wsV RL 111 RX11 yX11_get wsX11_get) := goodIn_app (goodIn_of _ (by decide +kernel)) ggL_law_X11_get
set_option maxRecDepth 20000 in
theorem ggL_law_L_near : GoodIn wsL_law wsL_near := goodIn_ca (goodIn_ca (goodIn_r _ [345, 118, 156, 346, 347, 348, 2, 349, 123, 124, 125, 126, 127, 128, 28, 129, 130, 131, 350, 351, 352, 30, 353, 53, 354, 355, 356, 52, 357, 84, 83, 68, 72, 70, 71, 175, 176, 177, 178, 179, 180, 171, 172, 173, 174, 85, 76, 358, 359, 360, 361, 165, 166, 362, 261, 262, 263, 363, 364, 365, 366, 692, 693, 711, 712, 713, 714, 715, 716, 717, 718, 719, 720, 721, 722, 723, 724, 725, 726, 727, 728, 729] (by decide +kernel) (by decide +kernel)) (goodIn_sub (fun _ h => List.mem_append_left _ (List.mem_append_left _ (List.mem_append_right _ h))) (by decide +kernel))) (goodIn_sub (fun _ h => List.mem_append_left _ (List.mem_append_right _ h)) (by decide +kernel))
set_option maxRecDepth 20000 in
theorem gL_law_L_near : GoodIn wsL_law (va_wsS RL 112 yL_near wsL_near) := goodIn_app (goodIn_of _ (by decide +kernel)) ggL_law_L_near
set_option maxRecDepth 20000 in
theorem ggL_law_X11_near : GoodIn wsL_law wsX11_near := goodIn_r _ [370, 141, 98, 99, 142, 143, 5, 144, 339, 340, 341, 342, 281, 282, 283, 284, 285, 286, 287, 288, 97, 289, 290, 291, 292, 694, 695, 696, 697, 698, 699, 700, 701, 702, 703, 704, 705, 706, 707, 708, 709, 710] (by decide +kernel) (by decide +kernel)
set_option maxRecDepth 20000 in
theorem gL_law_X11_near : GoodIn wsL_law (wsV RL 114 RX11 yX11_near wsX11_near) := goodIn_app (goodIn_of _ (by decide +kernel)) ggL_law_X11_near
set_option maxRecDepth 20000 in
theorem ggL_law_L_size : GoodIn wsL_law wsL_size := goodIn_ca (goodIn_r _ [373, 118, 374, 375, 376, 2, 377, 125, 126, 127, 128, 123, 124, 28, 129, 130, 131, 378, 168, 169, 30, 170, 53, 692, 693, 711, 712, 713, 714, 715, 716, 717, 718, 719, 720, 721, 722, 723, 724, 725, 726, 727, 728, 729] (by decide +kernel) (by decide +kernel)) (goodIn_sub (fun _ h => List.mem_append_left _ (List.mem_append_left _ (List.mem_append_right _ h))) (by decide +kernel))
set_option maxRecDepth 20000 in
theorem gL_law_L_size : GoodIn wsL_law (va_wsS RL 115 yL_size wsL_size) := goodIn_app (goodIn_of _ (by decide +kernel)) ggL_law_L_size
set_option maxRecDepth 20000 in
theorem ggL_law_X11_size : GoodIn wsL_law wsX11_size := goodIn_r _ [382, 141, 98, 142, 143, 5, 144, 694, 695, 696, 697, 698, 699, 700, 701, 702, 703, 704, 705, 706, 707, 708, 709, 710] (by decide +kernel) (by decide +kernel)
set_option maxRecDepth 20000 in
theorem gL_law_X11_size : GoodIn wsL_law (wsV RL 118 RX11 yX11_size wsX11_size) := goodIn_app (goodIn_of _ (by decide +kernel)) ggL_law_X11_size
set_option maxRecDepth 20000 in
theorem ggL_law_L_rank : GoodIn wsL_law wsL_rank := goodIn_ca (goodIn_r _ [385, 118, 386, 387, 388, 2, 389, 125, 126, 127, 128, 123, 124, 28, 129, 130, 131, 363, 364, 365, 30, 366, 53, 354, 355, 356, 52, 357, 84, 83, 68, 72, 70, 71, 175, 176, 177, 178, 179, 180, 692, 693, 711, 712, 713, 714, 715, 716, 717, 718, 719, 720, 721, 722, 723, 724, 725, 726, 727, 728, 729] (by decide +kernel) (by decide +kernel)) (goodIn_sub (fun _ h => List.mem_append_left _ (List.mem_append_left _ (List.mem_append_right _ h))) (by decide +kernel))
set_option maxRecDepth 20000 in
theorem gL_law_L_rank : GoodIn wsL_law (va_wsS RL 119 yL_rank wsL_rank) := goodIn_app (goodIn_of _ (by decide +kernel)) ggL_law_L_rank
set_option maxRecDepth 20000 in
theorem ggL_law_X11_rank : GoodIn wsL_law wsX11_rank := goodIn_r _ [393, 141, 142, 143, 5, 144, 281, 282, 283, 284, 98, 99, 285, 286, 287, 288, 97, 694, 695, 696, 697, 698, 699, 700, 701, 702, 703, 704, 705, 706, 707, 708, 709, 710] (by decide +kernel) (by decide +kernel)
set_option maxRecDepth 20000 in
theorem gL_law_X11_rank : GoodIn wsL_law (wsV RL 121 RX11 yX11_rank wsX11_rank) := goodIn_app (goodIn_of _ (by decide +kernel)) ggL_law_X11_rank
set_option maxRecDepth 20000 in
theorem ggL_law_L_select : GoodIn wsL_law wsL_select := goodIn_ca (goodIn_ca (goodIn_r _ [396, 118, 156, 397, 398, 399, 2, 400, 125, 126, 127, 128, 123, 124, 28, 129, 130, 131, 358, 359, 360, 30, 361, 165, 166, 53, 362, 261, 262, 52, 263, 72, 70, 71, 692, 693, 711, 712, 713, 714, 715, 716, 717, 718, 719, 720, 721, 722, 723, 724, 725, 726, 727, 728, 729] (by decide +kernel) (by decide +kernel)) (goodIn_sub (fun _ h => List.mem_append_left _ (List.mem_append_left _ (List.mem_append_right _ h))) (by decide +kernel))) (goodIn_sub (fun _ h => List.mem_append_left _ (List.mem_append_right _ h)) (by decide +kernel))
set_option maxRecDepth 20000 in
theorem gL_law_L_select : GoodIn wsL_law (va_wsS RL 122 yL_select wsL_select) := goodIn_app (goodIn_of _ (by decide +kernel)) ggL_law_L_select
set_option maxRecDepth 20000 in
theorem ggL_law_X11_select : GoodIn wsL_law wsX11_select := goodIn_r _ [404, 98, 141, 99, 142, 143, 5, 144, 694, 695, 696, 697, 698, 699, 700, 701, 702, 703, 704, 705, 706, 707, 708, 709, 710] (by decide +kernel) (by decide +kernel)
set_option maxRecDepth 20000 in
theorem gL_law_X11_select : GoodIn wsL_law (wsV RL 124 RX11 yX11_select wsX11_select) := goodIn_app (goodIn_of _ (by decide +kernel)) ggL_law_X11_select
set_option maxRecDepth 20000 in
theorem ggL_law_L_sum : GoodIn wsL_law wsL_sum := goodIn_ca (goodIn_r _ [407, 118, 408, 409, 410, 2, 411, 125, 126, 127, 128, 123, 124, 28, 129, 130, 131, 412, 413, 414, 30, 415, 53, 416, 417, 418, 52, 419, 84, 83, 68, 74, 70, 69, 71, 175, 176, 177, 178, 179, 180, 692, 693, 711, 712, 713, 714, 715, 716, 717, 718, 719, 720, 721, 722, 723, 724, 725, 726, 727, 728, 729] (by decide +kernel) (by decide +kernel)) (goodIn_sub (fun _ h => List.mem_append_left _ (List.mem_append_left _ (List.mem_append_right _ h))) (by decide +kernel))
set_option maxRecDepth 20000 in
theorem gL_law_L_sum : GoodIn wsL_law (va_wsS RL 125 yL_sum wsL_sum) := goodIn_app (goodIn_of _ (by decide +kernel)) ggL_law_L_sum
set_option maxRecDepth 20000 in
theorem ggL_law_X11_sum : GoodIn wsL_law wsX11_sum := goodIn_r _ [423, 141, 100, 142, 143, 5, 144, 281, 282, 283, 284, 98, 99, 285, 286, 287, 288, 97, 694, 695, 696, 697, 698, 699, 700, 701, 702, 703, 704, 705, 706, 707, 708, 709, 710] (by decide +kernel) (by decide +kernel)
set_option maxRecDepth 20000 in
theorem gL_law_X11_sum : GoodIn wsL_law (wsV RL 127 RX11 yX11_sum wsX11_sum) := goodIn_app (goodIn_of _ (by decide +kernel)) ggL_law_X11_sum
set_option maxRecDepth 20000 in
theorem ggL_law_L_range : GoodIn wsL_law wsL_range := goodIn_ca (goodIn_r _ [426, 118, 427, 428, 429, 2, 430, 123, 124, 125, 126, 127, 128, 28, 129, 130, 131, 431, 432, 433, 30, 434, 53, 175, 176, 177, 178, 179, 180, 435, 436, 437, 438, 57, 692, 693, 711, 712, 713, 714, 715, 716, 717, 718, 719, 720, 721, 722, 723, 724, 725, 726, 727, 728, 729, 730, 731, 732, 733] (by decide +kernel) (by decide +kernel)) (goodIn_sub (fun _ h => List.mem_append_left _ (List.mem_append_left _ (List.mem_append_right _ h))) (by decide +kernel))
set_option maxRecDepth 20000 in
theorem gL_law_L_range : GoodIn wsL_law (va_wsS RL 128 yL_range wsL_range) := goodIn_app (goodIn_of _ (by decide +kernel)) ggL_law_L_range
set_option maxRecDepth 20000 in
theorem ggL_law_X11_range : GoodIn wsL_law wsX11_range := goodIn_r _ [442, 141, 102, 103, 104, 142, 143, 5, 144, 285, 286, 287, 288, 97, 694, 695, 696, 697, 698, 699, 700, 701, 702, 703, 704, 705, 706, 707, 708, 709, 710] (by decide +kernel) (by decide +kernel)
set_option maxRecDepth 20000 in
theorem gL_law_X11_range : GoodIn wsL_law (wsV RL 131 RX11 yX11_range wsX11_range) := goodIn_app (goodIn_of _ (by decide +kernel)) ggL_law_X11_range
set_option maxRecDepth 20000 in
theorem ggL_law_L_within : GoodIn wsL_law wsL_within := goodIn_ca (goodIn_ca (goodIn_r _ [445, 118, 156, 446, 447, 448, 2, 449, 123, 124, 125, 126, 127, 128, 28, 129, 130, 131, 450, 451, 452, 30, 453, 57, 53, 454, 455, 456, 56, 457, 458, 459, 460, 355, 356, 52, 357, 84, 83, 68, 72, 70, 71, 175, 176, 177, 178, 179, 180, 461, 462, 463, 464, 465, 466, 467, 468, 469, 470, 358, 359, 360, 361, 165, 166, 362, 261, 262, 263, 692, 693, 711, 712, 713, 714, 730, 731, 732, 733, 715, 716, 717, 718, 719, 720, 721, 722, 723, 724, 725, 726, 727, 728, 729] (by decide +kernel) (by decide +kernel)) (goodIn_sub (fun _ h => List.mem_append_left _ (List.mem_append_left _ (List.mem_append_right _ h))) (by decide +kernel))) (goodIn_sub (fun _ h => List.mem_append_left _ (List.mem_append_right _ h)) (by decide +kernel))
set_option maxRecDepth 20000 in
theorem gL_law_L_within : GoodIn wsL_law (va_wsS RL 132 yL_within wsL_within) := goodIn_app (goodIn_of _ (by decide +kernel)) ggL_law_L_within
set_option maxRecDepth 20000 in
theorem ggL_law_X11_within : GoodIn wsL_law wsX11_within := goodIn_r _ [474, 141, 99, 142, 143, 5, 144, 475, 476, 477, 478, 102, 103, 281, 282, 283, 284, 98, 285, 286, 287, 288, 97, 479, 480, 481, 482, 104, 339, 340, 341, 342, 694, 695, 696, 697, 698, 699, 700, 701, 702, 703, 704, 705, 706, 707, 708, 709, 710] (by decide +kernel) (by decide +kernel)
set_option maxRecDepth 20000 in
theorem gL_law_X11_within : GoodIn wsL_law (wsV RL 134 RX11 yX11_within wsX11_within) := goodIn_app (goodIn_of _ (by decide +kernel)) ggL_law_X11_within
set_option maxRecDepth 20000 in
theorem ggL_law_L_putWithin : GoodIn wsL_law wsL_putWithin := goodIn_ca (goodIn_ca (goodIn_r _ [485, 118, 156, 486, 487, 488, 2, 489, 123, 124, 125, 126, 127, 128, 28, 129, 130, 131, 490, 491, 492, 30, 493, 57, 53, 494, 495, 496, 56, 497, 465, 466, 458, 459, 175, 176, 177, 178, 179, 180, 161, 162, 163, 164, 165, 166, 62, 167, 168, 169, 170, 171, 172, 173, 52, 174, 85, 84, 76, 83, 68, 70, 71, 181, 182, 183, 184, 86, 69, 185, 186, 187, 188, 189, 75, 190, 191, 192, 193, 82, 194, 195, 196, 197, 72, 74, 73, 198, 199, 200, 201, 34, 202, 203, 204, 205, 206, 15, 207, 208, 209, 19, 210, 211, 212, 213, 214, 215, 216, 217, 218, 219, 220, 221, 222, 223, 224, 225, 226, 227, 228, 22, 229, 230, 231, 232, 233, 234, 235, 236, 237, 238, 239, 240, 241, 242, 243, 244, 245, 25, 246, 247, 248, 249, 250, 251, 252, 253, 254, 255, 256, 257, 258, 259, 77, 260, 261, 262, 263, 264, 265, 266, 267, 268, 269, 270, 271, 272, 692, 693, 711, 712, 713, 714, 715, 716, 717, 718, 719, 720, 721, 722, 723, 724, 725, 726, 727, 728, 729, 730, 731, 732, 733] (by decide +kernel) (by decide +kernel)) (goodIn_sub (fun _ h => List.mem_append_left _ (List.mem_append_left _ (List.mem_append_right _ h))) (by decide +kernel))) (goodIn_sub (fun _ h => List.mem_append_left _ (List.mem_append_right _ h)) (by decide +kernel))
set_option maxRecDepth 20000 in
theorem gL_law_L_putWithin : GoodIn wsL_law (va_wsS RL 135 yL_putWithin wsL_putWithin) := goodIn_app (goodIn_of _ (by decide +kernel)) ggL_law_L_putWithin
set_option maxRecDepth 20000 in
theorem ggL_law_X11_putWithin : GoodIn wsL_law wsX11_putWithin := goodIn_r _ [501, 102, 103, 104, 141, 142, 143, 5, 144, 285, 286, 287, 288, 97, 277, 278, 279, 280, 100, 98, 281, 282, 283, 284, 99, 289, 290, 291, 292, 293, 294, 295, 296, 101, 694, 695, 696, 697, 698, 699, 700, 701, 702, 703, 704, 705, 706, 707, 708, 709, 710] (by decide +kernel) (by decide +kernel)
set_option maxRecDepth 20000 in
theorem gL_law_X11_putWithin : GoodIn wsL_law (wsV RL 137 RX11 yX11_putWithin wsX11_putWithin) := goodIn_app (goodIn_of _ (by decide +kernel)) ggL_law_X11_putWithin
set_option maxRecDepth 20000 in
theorem ggL_law_L_poll : GoodIn wsL_law wsL_poll := goodIn_ca (goodIn_ca (goodIn_r _ [504, 118, 156, 505, 506, 507, 2, 508, 125, 126, 127, 128, 123, 124, 28, 129, 130, 131, 467, 468, 469, 30, 470, 57, 53, 461, 462, 463, 56, 464, 465, 466, 460, 355, 356, 52, 357, 84, 83, 68, 72, 70, 71, 175, 176, 177, 178, 179, 180, 454, 455, 456, 457, 458, 459, 358, 359, 360, 361, 165, 166, 362, 261, 262, 263, 304, 305, 306, 307, 62, 308, 309, 310, 311, 85, 76, 75, 86, 185, 172, 173, 174, 312, 313, 314, 315, 69, 269, 270, 271, 272, 190, 191, 192, 193, 82, 194, 195, 196, 197, 74, 73, 198, 199, 200, 201, 34, 202, 203, 204, 205, 206, 15, 207, 208, 209, 19, 210, 211, 212, 213, 214, 215, 216, 217, 218, 219, 220, 221, 222, 223, 224, 225, 226, 227, 228, 22, 229, 230, 231, 232, 233, 234, 235, 236, 237, 238, 239, 240, 241, 242, 243, 244, 245, 25, 246, 247, 248, 249, 250, 251, 252, 253, 254, 255, 256, 257, 258, 259, 77, 260, 264, 265, 266, 267, 268, 692, 693, 711, 712, 713, 714, 730, 731, 732, 733, 715, 716, 717, 718, 719, 720, 721, 722, 723, 724, 725, 726, 727, 728, 729] (by decide +kernel) (by decide +kernel)) (goodIn_sub (fun _ h => List.mem_append_left _ (List.mem_append_left _ (List.mem_append_right _ h))) (by decide +kernel))) (goodIn_sub (fun _ h => List.mem_append_left _ (List.mem_append_right _ h)) (by decide +kernel))
set_option maxRecDepth 20000 in
theorem gL_law_L_poll : GoodIn wsL_law (va_wsS RL 138 yL_poll wsL_poll) := goodIn_app (goodIn_of _ (by decide +kernel)) ggL_law_L_poll
set_option maxRecDepth 20000 in
theorem ggL_law_X11_poll : GoodIn wsL_law wsX11_poll := goodIn_r _ [512, 141, 142, 143, 5, 144, 475, 476, 477, 478, 102, 103, 281, 282, 283, 284, 98, 99, 285, 286, 287, 288, 97, 479, 480, 481, 482, 104, 320, 321, 322, 323, 100, 101, 694, 695, 696, 697, 698, 699, 700, 701, 702, 703, 704, 705, 706, 707, 708, 709, 710] (by decide +kernel) (by decide +kernel)
set_option maxRecDepth 20000 in
theorem gL_law_X11_poll : GoodIn wsL_law (wsV RL 141 RX11 yX11_poll wsX11_poll) := goodIn_app (goodIn_of _ (by decide +kernel)) ggL_law_X11_poll
set_option maxRecDepth 20000 in
theorem ggL_law_L_iterate : GoodIn wsL_law wsL_iterate := goodIn_ca (goodIn_r _ [515, 118, 516, 517, 518, 2, 519, 125, 126, 127, 128, 123, 124, 28, 129, 130, 131, 520, 521, 522, 30, 523, 61, 57, 53, 62, 461, 462, 463, 56, 464, 465, 466, 460, 355, 356, 52, 357, 84, 83, 68, 72, 70, 71, 175, 176, 177, 178, 179, 180, 454, 455, 456, 457, 458, 459, 524, 525, 526, 60, 527, 528, 529, 530, 531, 532, 533, 692, 693, 711, 712, 713, 714, 734, 735, 736, 737, 738, 739, 740, 730, 731, 732, 733, 715, 716, 717, 718, 719, 720, 721, 722, 723, 724, 725, 726, 727, 728, 729] (by decide +kernel) (by decide +kernel)) (goodIn_sub (fun _ h => List.mem_append_left _ (List.mem_append_left _ (List.mem_append_right _ h))) (by decide +kernel))
set_option maxRecDepth 20000 in
theorem gL_law_L_iterate : GoodIn wsL_law (va_wsS RL 142 yL_iterate wsL_iterate) := goodIn_app (goodIn_of _ (by decide +kernel)) ggL_law_L_iterate
set_option maxRecDepth 20000 in
theorem ggL_law_X11_iterate : GoodIn wsL_law wsX11_iterate := goodIn_r _ [537, 141, 106, 107, 101, 108, 109, 111, 110, 99, 142, 143, 5, 144, 475, 476, 477, 478, 102, 103, 281, 282, 283, 284, 98, 285, 286, 287, 288, 97, 479, 480, 481, 482, 104, 694, 695, 696, 697, 698, 699, 700, 701, 702, 703, 704, 705, 706, 707, 708, 709, 710] (by decide +kernel) (by decide +kernel)
set_option maxRecDepth 20000 in
theorem gL_law_X11_iterate : GoodIn wsL_law (wsV RL 145 RX11 yX11_iterate wsX11_iterate) := goodIn_app (goodIn_of _ (by decide +kernel)) ggL_law_X11_iterate
set_option maxRecDepth 20000 in
theorem ggL_law_L_next : GoodIn wsL_law wsL_next := goodIn_ca (goodIn_ca (goodIn_ca (goodIn_r _ [540, 118, 541, 156, 542, 543, 544, 2, 545, 546, 547, 125, 126, 127, 128, 123, 124, 28, 129, 130, 131, 548, 549, 550, 30, 551, 61, 62, 552, 553, 554, 555, 556, 557, 558, 60, 559, 529, 533, 531, 532, 560, 359, 360, 361, 165, 166, 53, 362, 261, 262, 52, 263, 72, 70, 71, 561, 562, 563, 564, 530, 692, 693, 711, 712, 713, 714, 734, 735, 736, 737, 738, 739, 740, 715, 716, 717, 718, 719, 720, 721, 722, 723, 724, 725, 726, 727, 728, 729] (by decide +kernel) (by decide +kernel)) (goodIn_sub (fun _ h => List.mem_append_right _ h) (by decide +kernel))) (goodIn_sub (fun _ h => List.mem_append_left _ (List.mem_append_left _ (List.mem_append_right _ h))) (by decide +kernel))) (goodIn_sub (fun _ h => List.mem_append_left _ (List.mem_append_right _ h)) (by decide +kernel))
set_option maxRecDepth 20000 in
theorem gL_law_L_next : GoodIn wsL_law (va_wsS RL 146 yL_next wsL_next) := goodIn_app (goodIn_of _ (by decide +kernel)) ggL_law_L_next
set_option maxRecDepth 20000 in
theorem ggL_law_X11_next : GoodIn wsL_law wsX11_next := goodIn_r _ [568, 106, 107, 101, 109, 108, 141, 111, 110, 142, 143, 5, 144, 694, 695, 696, 697, 698, 699, 700, 701, 702, 703, 704, 705, 706, 707, 708, 709, 710] (by decide +kernel) (by decide +kernel)
set_option maxRecDepth 20000 in
theorem gL_law_X11_next : GoodIn wsL_law (wsV RL 148 RX11 yX11_next wsX11_next) := goodIn_app (goodIn_of _ (by decide +kernel)) ggL_law_X11_next
set_option maxRecDepth 20000 in
theorem ggL_law_L_drop : GoodIn wsL_law wsL_drop := goodIn_ca (goodIn_ca (goodIn_ca (goodIn_r _ [571, 118, 541, 572, 573, 574, 2, 575, 546, 547, 125, 126, 127, 128, 123, 124, 28, 129, 130, 131, 576, 577, 578, 30, 579, 61, 580, 549, 550, 551, 62, 581, 582, 583, 584, 53, 585, 586, 587, 60, 588, 529, 533, 560, 359, 360, 361, 165, 166, 362, 261, 262, 52, 263, 72, 70, 71, 308, 309, 310, 311, 85, 76, 75, 86, 185, 172, 173, 174, 84, 83, 68, 175, 176, 177, 178, 179, 180, 312, 313, 314, 315, 69, 269, 270, 271, 272, 190, 191, 192, 193, 82, 194, 195, 196, 197, 74, 73, 198, 199, 200, 201, 34, 202, 203, 204, 205, 206, 15, 207, 208, 209, 19, 210, 211, 212, 213, 214, 215, 216, 217, 218, 219, 220, 221, 222, 223, 224, 225, 226, 227, 228, 22, 229, 230, 231, 232, 233, 234, 235, 236, 237, 238, 239, 240, 241, 242, 243, 244, 245, 25, 246, 247, 248, 249, 250, 251, 252, 253, 254, 255, 256, 257, 258, 259, 77, 260, 264, 265, 266, 267, 268, 589, 590, 591, 592, 532, 530, 692, 693, 711, 712, 713, 714, 734, 735, 736, 737, 738, 739, 740, 715, 716, 717, 718, 719, 720, 721, 722, 723, 724, 725, 726, 727, 728, 729] (by decide +kernel) (by decide +kernel)) (goodIn_sub (fun _ h => List.mem_append_right _ h) (by decide +kernel))) (goodIn_sub (fun _ h => List.mem_append_left _ (List.mem_append_left _ (List.mem_append_right _ h))) (by decide +kernel))) (goodIn_sub (fun _ h => List.mem_append_left _ (List.mem_append_right _ h)) (by decide +kernel))
set_option maxRecDepth 20000 in
theorem gL_law_L_drop : GoodIn wsL_law (va_wsS RL 149 yL_drop wsL_drop) := goodIn_app (goodIn_of _ (by decide +kernel)) ggL_law_L_drop
set_option maxRecDepth 20000 in
theorem ggL_law_X11_drop : GoodIn wsL_law wsX11_drop := goodIn_r _ [596, 106, 107, 101, 111, 141, 110, 109, 142, 143, 5, 144, 281, 282, 283, 284, 98, 99, 285, 286, 287, 288, 97, 320, 321, 322, 323, 100, 694, 695, 696, 697, 698, 699, 700, 701, 702, 703, 704, 705, 706, 707, 708, 709, 710] (by decide +kernel) (by decide +kernel)
set_option maxRecDepth 20000 in
theorem gL_law_X11_drop : GoodIn wsL_law (wsV RL 152 RX11 yX11_drop wsX11_drop) := goodIn_app (goodIn_of _ (by decide +kernel)) ggL_law_X11_drop
set_option maxRecDepth 20000 in
theorem ggL_law_L_join : GoodIn wsL_law wsL_join := goodIn_ca (goodIn_ca (goodIn_r _ [599, 118, 156, 600, 601, 602, 2, 603, 123, 124, 125, 126, 127, 128, 28, 129, 130, 131, 604, 605, 606, 30, 607, 53, 608, 609, 610, 611, 165, 166, 62, 612, 613, 614, 615, 167, 168, 169, 170, 362, 261, 262, 52, 263, 72, 70, 71, 171, 172, 173, 174, 85, 84, 76, 83, 68, 175, 176, 177, 178, 179, 180, 181, 182, 183, 184, 86, 69, 185, 186, 187, 188, 189, 75, 190, 191, 192, 193, 82, 194, 195, 196, 197, 74, 73, 198, 199, 200, 201, 34, 202, 203, 204, 205, 206, 15, 207, 208, 209, 19, 210, 211, 212, 213, 214, 215, 216, 217, 218, 219, 220, 221, 222, 223, 224, 225, 226, 227, 228, 22, 229, 230, 231, 232, 233, 234, 235, 236, 237, 238, 239, 240, 241, 242, 243, 244, 245, 25, 246, 247, 248, 249, 250, 251, 252, 253, 254, 255, 256, 257, 258, 259, 77, 260, 264, 265, 266, 267, 268, 269, 270, 271, 272, 616, 617, 618, 619, 308, 309, 310, 311, 312, 313, 314, 315, 620, 621, 622, 623, 624, 625, 626, 627, 692, 693, 711, 712, 713, 714, 715, 716, 717, 718, 719, 720, 721, 722, 723, 724, 725, 726, 727, 728, 729] (by decide +kernel) (by decide +kernel)) (goodIn_sub (fun _ h => List.mem_append_left _ (List.mem_append_left _ (List.mem_append_right _ h))) (by decide +kernel))) (goodIn_sub (fun _ h => List.mem_append_left _ (List.mem_append_right _ h)) (by decide +kernel))
set_option maxRecDepth 20000 in
theorem gL_law_L_join : GoodIn wsL_law (va_wsS RL 153 yL_join wsL_join) := goodIn_app (goodIn_of _ (by decide +kernel)) ggL_law_L_join
set_option maxRecDepth 20000 in
theorem ggL_law_X11_join : GoodIn wsL_law wsX11_join := goodIn_r _ [631, 141, 97, 98, 99, 112, 113, 100, 101, 142, 143, 5, 144, 339, 340, 341, 342, 285, 286, 287, 288, 694, 695, 696, 697, 698, 699, 700, 701, 702, 703, 704, 705, 706, 707, 708, 709, 710] (by decide +kernel) (by decide +kernel)
set_option maxRecDepth 20000 in
theorem gL_law_X11_join : GoodIn wsL_law (wsV RL 155 RX11 yX11_join wsX11_join) := goodIn_app (goodIn_of _ (by decide +kernel)) ggL_law_X11_join
set_option maxRecDepth 20000 in
theorem ggL_law_L_split : GoodIn wsL_law wsL_split := goodIn_ca (goodIn_r _ [634, 118, 635, 636, 637, 2, 638, 123, 124, 125, 126, 127, 128, 28, 129, 130, 131, 639, 640, 641, 30, 642, 53, 62, 643, 133, 134, 135, 57, 61, 136, 79, 80, 52, 81, 82, 83, 84, 85, 86, 75, 167, 168, 169, 170, 354, 355, 356, 357, 68, 72, 70, 71, 175, 176, 177, 178, 179, 180, 362, 261, 262, 263, 181, 182, 183, 184, 69, 185, 172, 173, 174, 76, 186, 187, 188, 189, 190, 191, 192, 193, 194, 195, 196, 197, 74, 73, 198, 199, 200, 201, 34, 202, 203, 204, 205, 206, 15, 207, 208, 209, 19, 210, 211, 212, 213, 214, 215, 216, 217, 218, 219, 220, 221, 222, 223, 224, 225, 226, 227, 228, 22, 229, 230, 231, 232, 233, 234, 235, 236, 237, 238, 239, 240, 241, 242, 243, 244, 245, 25, 246, 247, 248, 249, 250, 251, 252, 253, 254, 255, 256, 257, 258, 259, 77, 260, 264, 265, 266, 267, 268, 269, 270, 271, 272, 308, 309, 310, 311, 312, 313, 314, 315, 620, 621, 622, 623, 692, 693, 711, 712, 713, 714, 715, 716, 717, 718, 719, 720, 721, 722, 723, 724, 725, 726, 727, 728, 729, 730, 731, 732, 733, 734, 735, 736, 737, 738, 739, 740] (by decide +kernel) (by decide +kernel)) (goodIn_sub (fun _ h => List.mem_append_left _ (List.mem_append_left _ (List.mem_append_right _ h))) (by decide +kernel))
set_option maxRecDepth 20000 in
theorem gL_law_L_split : GoodIn wsL_law (va_wsS RL 156 yL_split wsL_split) := goodIn_app (goodIn_of _ (by decide +kernel)) ggL_law_L_split
set_option maxRecDepth 20000 in
theorem ggL_law_X11_split : GoodIn wsL_law wsX11_split := goodIn_r _ [647, 141, 97, 98, 99, 100, 101, 142, 143, 5, 144, 339, 340, 341, 342, 145, 146, 147, 148, 102, 106, 281, 282, 283, 284, 285, 286, 287, 288, 293, 294, 295, 296, 694, 695, 696, 697, 698, 699, 700, 701, 702, 703, 704, 705, 706, 707, 708, 709, 710] (by decide +kernel) (by decide +kernel)
set_option maxRecDepth 20000 in
theorem gL_law_X11_split : GoodIn wsL_law (wsV RL 158 RX11 yX11_split wsX11_split) := goodIn_app (goodIn_of _ (by decide +kernel)) ggL_law_X11_split
set_option maxRecDepth 20000 in
theorem ggL_law_L_changes : GoodIn wsL_law wsL_changes := goodIn_ca (goodIn_r _ [650, 118, 651, 652, 653, 2, 654, 125, 126, 127, 128, 123, 124, 28, 129, 130, 131, 711, 712, 713, 714, 692, 693] (by decide +kernel) (by decide +kernel)) (goodIn_sub (fun _ h => List.mem_append_left _ (List.mem_append_left _ (List.mem_append_right _ h))) (by decide +kernel))
set_option maxRecDepth 20000 in
theorem gL_law_L_changes : GoodIn wsL_law (va_wsS RL 159 yL_changes wsL_changes) := goodIn_app (goodIn_of _ (by decide +kernel)) ggL_law_L_changes
set_option maxRecDepth 20000 in
theorem ggL_law_X11_changes : GoodIn wsL_law wsX11_changes := goodIn_r _ [658, 141, 101, 142, 143, 5, 144, 694, 695, 696, 697, 698, 699, 700, 701, 702, 703, 704, 705, 706, 707, 708, 709, 710] (by decide +kernel) (by decide +kernel)
set_option maxRecDepth 20000 in
theorem gL_law_X11_changes : GoodIn wsL_law (wsV RL 161 RX11 yX11_changes wsX11_changes) := goodIn_app (goodIn_of _ (by decide +kernel)) ggL_law_X11_changes
set_option maxRecDepth 20000 in
theorem ggL_law_L_audit : GoodIn wsL_law wsL_audit := goodIn_ca (goodIn_r _ [661, 118, 662, 663, 664, 2, 665, 125, 126, 127, 128, 123, 124, 28, 129, 130, 131, 666, 667, 668, 30, 669, 53, 670, 671, 672, 52, 673, 72, 84, 82, 83, 68, 86, 260, 261, 262, 263, 70, 71, 674, 675, 676, 677, 74, 69, 73, 678, 679, 680, 681, 34, 682, 203, 204, 205, 206, 15, 207, 208, 209, 19, 210, 683, 684, 22, 685, 233, 234, 235, 236, 237, 238, 239, 240, 686, 248, 25, 250, 251, 252, 253, 254, 255, 687, 175, 176, 177, 178, 179, 180, 692, 693, 711, 712, 713, 714, 715, 716, 717, 718, 719, 720, 721, 722, 723, 724, 725, 726, 727, 728, 729] (by decide +kernel) (by decide +kernel)) (goodIn_sub (fun _ h => List.mem_append_left _ (List.mem_append_left _ (List.mem_append_right _ h))) (by decide +kernel))
set_option maxRecDepth 20000 in
theorem gL_law_L_audit : GoodIn wsL_law (va_wsS RL 162 yL_audit wsL_audit) := goodIn_app (goodIn_of _ (by decide +kernel)) ggL_law_L_audit
set_option maxRecDepth 20000 in
theorem ggL_law_X11_audit : GoodIn wsL_law wsX11_audit := goodIn_r _ [691, 141, 142, 143, 5, 144, 694, 695, 696, 697, 698, 699, 700, 701, 702, 703, 704, 705, 706, 707, 708, 709, 710] (by decide +kernel) (by decide +kernel)
set_option maxRecDepth 20000 in
theorem gL_law_X11_audit : GoodIn wsL_law (wsV RL 164 RX11 yX11_audit wsX11_audit) := goodIn_app (goodIn_of _ (by decide +kernel)) ggL_law_X11_audit
