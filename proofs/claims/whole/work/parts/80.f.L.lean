theorem inlX0 : ∀ w ∈ wsX00, w ∈ wsL_law := fun _ h => List.mem_append_left _ (List.mem_append_left _ (List.mem_append_right _ h))
theorem inX0 : ∀ w ∈ wsX00, w ∈ lw_tbl := fun w h => wsL_law_in w (inlX0 w h)
theorem inlX1 : ∀ w ∈ wsX10, w ∈ wsL_law := fun _ h => List.mem_append_left _ (List.mem_append_right _ h)
theorem inX1 : ∀ w ∈ wsX10, w ∈ lw_tbl := fun w h => wsL_law_in w (inlX1 w h)
theorem inlX2 : ∀ w ∈ wsX20, w ∈ wsL_law := fun _ h => List.mem_append_left _ (List.mem_append_left _ (List.mem_append_left _ (List.mem_append_right _ h)))
theorem inX2 : ∀ w ∈ wsX20, w ∈ lw_tbl := fun w h => wsL_law_in w (inlX2 w h)
theorem inlX3 : ∀ w ∈ wsX30, w ∈ wsL_law := fun _ h => List.mem_append_left _ (List.mem_append_left _ (List.mem_append_left _ (List.mem_append_left _ (List.mem_append_left _ (List.mem_append_right _ h)))))
theorem inX3 : ∀ w ∈ wsX30, w ∈ lw_tbl := fun w h => wsL_law_in w (inlX3 w h)
theorem inlX4 : ∀ w ∈ wsX40, w ∈ wsL_law := fun _ h => List.mem_append_left _ (List.mem_append_left _ (List.mem_append_left _ (List.mem_append_left _ (List.mem_append_right _ h))))
theorem inX4 : ∀ w ∈ wsX40, w ∈ lw_tbl := fun w h => wsL_law_in w (inlX4 w h)
set_option maxRecDepth 20000 in
theorem ggL_law_X3_init : GoodIn wsL_law wsX3_init := goodIn_r _ [8, 9, 10, 11, 12, 13, 14, 15, 16, 17, 18, 19, 20, 21, 22, 23, 24, 25, 26, 27, 28, 29, 30, 31, 32, 33, 34, 35, 36, 37, 38, 39, 40, 41, 42, 43, 44, 45, 46, 47, 48, 49, 50, 51, 52, 53, 54, 928, 929, 930, 931, 932, 933, 934, 935, 936, 937, 901, 902, 903, 904, 905, 906, 907, 908, 909, 910, 911, 938, 939, 940] (by decide +kernel) (by decide +kernel)
set_option maxRecDepth 20000 in
theorem gL_law_X3_init : GoodIn wsL_law (wsX3_init) := ggL_law_X3_init
set_option maxRecDepth 20000 in
theorem ggL_law_X4_init : GoodIn wsL_law wsX4_init := goodIn_r _ [57, 58, 10, 11, 23, 59, 60, 61, 62, 63, 64, 65, 66, 67, 68, 912, 913, 914, 915, 916, 917, 918, 919, 920, 921, 922, 923, 924, 925, 926, 927] (by decide +kernel) (by decide +kernel)
set_option maxRecDepth 20000 in
theorem gL_law_X4_init : GoodIn wsL_law (wsX4_init) := ggL_law_X4_init
set_option maxRecDepth 20000 in
theorem ggL_law_X3_letter : GoodIn wsL_law wsX3_letter := goodIn_r _ [72, 22, 73, 74, 75, 2, 76, 26, 77, 78, 79, 21, 80, 50, 81, 82, 83, 84, 49, 85, 901, 902, 903, 904, 905, 906, 907, 908, 909, 910, 911, 938, 939] (by decide +kernel) (by decide +kernel)
set_option maxRecDepth 20000 in
theorem gL_law_X3_letter : GoodIn wsL_law (wsV RL 13 RX3 yX3_letter wsX3_letter) := goodIn_app (goodIn_of _ (by decide +kernel)) ggL_law_X3_letter
set_option maxRecDepth 20000 in
theorem ggL_law_X4_letter : GoodIn wsL_law wsX4_letter := goodIn_r _ [89, 90, 63, 91, 92, 93, 5, 94, 65, 912, 913, 914, 915, 916, 917, 918, 919, 920, 921, 922, 923, 924, 925, 926, 927] (by decide +kernel) (by decide +kernel)
set_option maxRecDepth 20000 in
theorem gL_law_X4_letter : GoodIn wsL_law (wsV RL 17 RX4 yX4_letter wsX4_letter) := goodIn_app (goodIn_of _ (by decide +kernel)) ggL_law_X4_letter
set_option maxRecDepth 20000 in
theorem ggL_law_X3_lane : GoodIn wsL_law wsX3_lane := goodIn_r _ [98, 16, 15, 22, 99, 100, 101, 14, 102, 36, 103, 104, 105, 106, 37, 38, 39, 40, 41, 42, 43, 44, 45, 107, 108, 109, 21, 110, 50, 111, 112, 113, 114, 49, 115, 116, 117, 118, 119, 120, 121, 122, 123, 124, 125, 126, 127, 128, 129, 130, 131, 132, 133, 134, 135, 136, 137, 138, 139, 140, 141, 142, 143, 144, 145, 146, 147, 148, 149, 150, 151, 152, 153, 154, 155, 156, 157, 158, 159, 160, 161, 162, 163, 164, 165, 166, 167, 168, 169, 170, 171, 172, 173, 174, 175, 176, 177, 178, 179, 180, 181, 182, 183, 184, 185, 186, 187, 188, 189, 190, 191, 192, 193, 194, 195, 196, 197, 198, 199, 200, 201, 202, 203, 204, 205, 206, 901, 902, 903, 904, 905, 906, 907, 908, 909, 910, 911, 928, 929, 930, 931, 932, 933, 934, 935, 936, 937, 938, 939] (by decide +kernel) (by decide +kernel)
set_option maxRecDepth 20000 in
theorem gL_law_X3_lane : GoodIn wsL_law (wsV RL 18 RX3 yX3_lane wsX3_lane) := goodIn_app (goodIn_of _ (by decide +kernel)) ggL_law_X3_lane
set_option maxRecDepth 20000 in
theorem ggL_law_X4_lane : GoodIn wsL_law wsX4_lane := goodIn_r _ [210, 211, 90, 59, 62, 212, 213, 214, 5, 215, 216, 217, 218, 219, 63, 220, 221, 222, 223, 66, 224, 225, 226, 227, 228, 229, 230, 231, 232, 233, 234, 235, 236, 237, 238, 239, 240, 241, 242, 243, 244, 245, 246, 247, 248, 249, 250, 251, 252, 253, 254, 255, 256, 257, 258, 259, 260, 261, 262, 263, 264, 265, 266, 267, 268, 269, 270, 271, 272, 273, 274, 275, 276, 277, 278, 279, 280, 281, 282, 283, 284, 285, 286, 287, 288, 289, 290, 291, 292, 912, 913, 914, 915, 916, 917, 918, 919, 920, 921, 922, 923, 924, 925, 926, 927] (by decide +kernel) (by decide +kernel)
set_option maxRecDepth 20000 in
theorem gL_law_X4_lane : GoodIn wsL_law (wsV RL 22 RX4 yX4_lane wsX4_lane) := goodIn_app (goodIn_of _ (by decide +kernel)) ggL_law_X4_lane
set_option maxRecDepth 20000 in
theorem ggL_law_X3_person : GoodIn wsL_law wsX3_person := goodIn_r _ [296, 15, 297, 298, 299, 143, 144, 14, 145, 43, 73, 74, 75, 2, 76, 26, 300, 301, 302, 303, 44, 40, 304, 305, 306, 307, 42, 901, 902, 903, 904, 905, 906, 907, 908, 909, 910, 911, 928, 929, 930, 931, 932, 933, 934, 935, 936, 937] (by decide +kernel) (by decide +kernel)
set_option maxRecDepth 20000 in
theorem gL_law_X3_person : GoodIn wsL_law (wsV RL 23 RX3 yX3_person wsX3_person) := goodIn_app (goodIn_of _ (by decide +kernel)) ggL_law_X3_person
set_option maxRecDepth 20000 in
theorem ggL_law_X4_person : GoodIn wsL_law wsX4_person := goodIn_r _ [311, 59, 252, 253, 254, 5, 255, 224, 225, 226, 91, 92, 93, 94, 65, 245, 246, 247, 256, 257, 258, 912, 913, 914, 915, 916, 917, 918, 919, 920, 921, 922, 923, 924, 925, 926, 927] (by decide +kernel) (by decide +kernel)
set_option maxRecDepth 20000 in
theorem gL_law_X4_person : GoodIn wsL_law (wsV RL 27 RX4 yX4_person wsX4_person) := goodIn_app (goodIn_of _ (by decide +kernel)) ggL_law_X4_person
set_option maxRecDepth 20000 in
theorem ggL_law_X3_thing : GoodIn wsL_law wsX3_thing := goodIn_r _ [315, 15, 316, 317, 318, 319, 320, 321, 322, 152, 153, 14, 154, 44, 73, 74, 75, 2, 76, 26, 323, 192, 193, 194, 39, 195, 196, 197, 198, 40, 38, 36, 142, 143, 144, 145, 43, 324, 172, 173, 174, 901, 902, 903, 904, 905, 906, 907, 908, 909, 910, 911, 928, 929, 930, 931, 932, 933, 934, 935, 936, 937] (by decide +kernel) (by decide +kernel)
set_option maxRecDepth 20000 in
theorem gL_law_X3_thing : GoodIn wsL_law (wsV RL 28 RX3 yX3_thing wsX3_thing) := goodIn_app (goodIn_of _ (by decide +kernel)) ggL_law_X3_thing
set_option maxRecDepth 20000 in
theorem ggL_law_X4_thing : GoodIn wsL_law wsX4_thing := goodIn_r _ [328, 59, 259, 260, 261, 5, 262, 224, 225, 226, 91, 92, 93, 94, 65, 256, 257, 258, 287, 288, 289, 275, 276, 277, 245, 246, 247, 272, 273, 274, 912, 913, 914, 915, 916, 917, 918, 919, 920, 921, 922, 923, 924, 925, 926, 927] (by decide +kernel) (by decide +kernel)
set_option maxRecDepth 20000 in
theorem gL_law_X4_thing : GoodIn wsL_law (wsV RL 31 RX4 yX4_thing wsX4_thing) := goodIn_app (goodIn_of _ (by decide +kernel)) ggL_law_X4_thing
set_option maxRecDepth 20000 in
theorem ggL_law_X3_breaks : GoodIn wsL_law wsX3_breaks := goodIn_r _ [332, 15, 320, 299, 143, 144, 14, 145, 43, 322, 152, 153, 154, 44, 73, 74, 75, 2, 76, 26, 333, 168, 169, 170, 42, 334, 335, 336, 337, 338, 339, 340, 341, 167, 342, 343, 344, 345, 346, 347, 348, 901, 902, 903, 904, 905, 906, 907, 908, 909, 910, 911, 928, 929, 930, 931, 932, 933, 934, 935, 936, 937] (by decide +kernel) (by decide +kernel)
set_option maxRecDepth 20000 in
theorem gL_law_X3_breaks : GoodIn wsL_law (wsV RL 32 RX3 yX3_breaks wsX3_breaks) := goodIn_app (goodIn_of _ (by decide +kernel)) ggL_law_X3_breaks
set_option maxRecDepth 20000 in
theorem ggL_law_X4_breaks : GoodIn wsL_law wsX4_breaks := goodIn_r _ [352, 59, 252, 253, 254, 5, 255, 224, 225, 226, 353, 354, 355, 356, 259, 260, 261, 262, 263, 264, 265, 256, 257, 258, 91, 92, 93, 94, 65, 357, 358, 359, 360, 361, 362, 912, 913, 914, 915, 916, 917, 918, 919, 920, 921, 922, 923, 924, 925, 926, 927] (by decide +kernel) (by decide +kernel)
set_option maxRecDepth 20000 in
theorem gL_law_X4_breaks : GoodIn wsL_law (wsV RL 35 RX4 yX4_breaks wsX4_breaks) := goodIn_app (goodIn_of _ (by decide +kernel)) ggL_law_X4_breaks
set_option maxRecDepth 20000 in
theorem ggL_law_X3_rusts : GoodIn wsL_law wsX3_rusts := goodIn_r _ [366, 15, 320, 322, 152, 153, 14, 154, 44, 73, 74, 75, 2, 76, 26, 333, 168, 169, 170, 42, 334, 335, 336, 337, 338, 339, 340, 341, 167, 342, 343, 344, 345, 346, 347, 348, 901, 902, 903, 904, 905, 906, 907, 908, 909, 910, 911, 928, 929, 930, 931, 932, 933, 934, 935, 936, 937] (by decide +kernel) (by decide +kernel)
set_option maxRecDepth 20000 in
theorem gL_law_X3_rusts : GoodIn wsL_law (wsV RL 36 RX3 yX3_rusts wsX3_rusts) := goodIn_app (goodIn_of _ (by decide +kernel)) ggL_law_X3_rusts
set_option maxRecDepth 20000 in
theorem ggL_law_X4_rusts : GoodIn wsL_law wsX4_rusts := goodIn_r _ [370, 59, 353, 354, 355, 5, 356, 259, 260, 261, 262, 224, 225, 226, 263, 264, 265, 256, 257, 258, 91, 92, 93, 94, 65, 357, 358, 359, 360, 361, 362, 912, 913, 914, 915, 916, 917, 918, 919, 920, 921, 922, 923, 924, 925, 926, 927] (by decide +kernel) (by decide +kernel)
set_option maxRecDepth 20000 in
theorem gL_law_X4_rusts : GoodIn wsL_law (wsV RL 39 RX4 yX4_rusts wsX4_rusts) := goodIn_app (goodIn_of _ (by decide +kernel)) ggL_law_X4_rusts
set_option maxRecDepth 20000 in
theorem ggL_law_X3_says : GoodIn wsL_law wsX3_says := goodIn_r _ [374, 15, 320, 299, 143, 144, 14, 145, 43, 322, 152, 153, 154, 44, 73, 74, 75, 2, 76, 26, 375, 376, 377, 378, 42, 379, 380, 381, 382, 187, 188, 189, 190, 36, 191, 192, 193, 194, 39, 195, 196, 197, 198, 40, 38, 142, 901, 902, 903, 904, 905, 906, 907, 908, 909, 910, 911, 928, 929, 930, 931, 932, 933, 934, 935, 936, 937] (by decide +kernel) (by decide +kernel)
set_option maxRecDepth 20000 in
theorem gL_law_X3_says : GoodIn wsL_law (wsV RL 40 RX3 yX3_says wsX3_says) := goodIn_app (goodIn_of _ (by decide +kernel)) ggL_law_X3_says
set_option maxRecDepth 20000 in
theorem ggL_law_X4_says : GoodIn wsL_law wsX4_says := goodIn_r _ [386, 59, 252, 253, 254, 5, 255, 224, 225, 226, 259, 260, 261, 262, 91, 92, 93, 94, 65, 256, 257, 258, 387, 388, 389, 390, 284, 285, 286, 245, 246, 247, 287, 288, 289, 275, 276, 277, 360, 361, 362, 912, 913, 914, 915, 916, 917, 918, 919, 920, 921, 922, 923, 924, 925, 926, 927] (by decide +kernel) (by decide +kernel)
set_option maxRecDepth 20000 in
theorem gL_law_X4_says : GoodIn wsL_law (wsV RL 43 RX4 yX4_says wsX4_says) := goodIn_app (goodIn_of _ (by decide +kernel)) ggL_law_X4_says
set_option maxRecDepth 20000 in
theorem ggL_law_X3_mends : GoodIn wsL_law wsX3_mends := goodIn_r _ [394, 15, 299, 143, 144, 14, 145, 43, 322, 152, 153, 154, 44, 73, 74, 75, 2, 76, 26, 395, 188, 189, 190, 42, 36, 191, 192, 193, 194, 39, 195, 196, 197, 198, 40, 38, 142, 396, 200, 201, 202, 41, 37, 334, 335, 336, 337, 338, 339, 340, 341, 167, 168, 169, 170, 342, 343, 344, 345, 346, 347, 348, 901, 902, 903, 904, 905, 906, 907, 908, 909, 910, 911, 928, 929, 930, 931, 932, 933, 934, 935, 936, 937] (by decide +kernel) (by decide +kernel)
set_option maxRecDepth 20000 in
theorem gL_law_X3_mends : GoodIn wsL_law (wsV RL 44 RX3 yX3_mends wsX3_mends) := goodIn_app (goodIn_of _ (by decide +kernel)) ggL_law_X3_mends
set_option maxRecDepth 20000 in
theorem ggL_law_X4_mends : GoodIn wsL_law wsX4_mends := goodIn_r _ [400, 59, 252, 253, 254, 5, 255, 224, 225, 226, 259, 260, 261, 262, 91, 92, 93, 94, 65, 281, 282, 283, 256, 257, 258, 284, 285, 286, 245, 246, 247, 287, 288, 289, 275, 276, 277, 290, 291, 292, 357, 358, 359, 263, 264, 265, 360, 361, 362, 912, 913, 914, 915, 916, 917, 918, 919, 920, 921, 922, 923, 924, 925, 926, 927] (by decide +kernel) (by decide +kernel)
set_option maxRecDepth 20000 in
theorem gL_law_X4_mends : GoodIn wsL_law (wsV RL 47 RX4 yX4_mends wsX4_mends) := goodIn_app (goodIn_of _ (by decide +kernel)) ggL_law_X4_mends
set_option maxRecDepth 20000 in
theorem ggL_law_X3_wears : GoodIn wsL_law wsX3_wears := goodIn_r _ [404, 15, 319, 322, 152, 153, 14, 154, 44, 73, 74, 75, 2, 76, 26, 405, 406, 407, 901, 902, 903, 904, 905, 906, 907, 908, 909, 910, 911, 928, 929, 930, 931, 932, 933, 934, 935, 936, 937] (by decide +kernel) (by decide +kernel)
set_option maxRecDepth 20000 in
theorem gL_law_X3_wears : GoodIn wsL_law (wsV RL 48 RX3 yX3_wears wsX3_wears) := goodIn_app (goodIn_of _ (by decide +kernel)) ggL_law_X3_wears
set_option maxRecDepth 20000 in
theorem ggL_law_X4_wears : GoodIn wsL_law wsX4_wears := goodIn_r _ [411, 59, 259, 260, 261, 5, 262, 224, 225, 226, 412, 413, 414, 91, 92, 93, 94, 65, 256, 257, 258, 912, 913, 914, 915, 916, 917, 918, 919, 920, 921, 922, 923, 924, 925, 926, 927] (by decide +kernel) (by decide +kernel)
set_option maxRecDepth 20000 in
theorem gL_law_X4_wears : GoodIn wsL_law (wsV RL 51 RX4 yX4_wears wsX4_wears) := goodIn_app (goodIn_of _ (by decide +kernel)) ggL_law_X4_wears
set_option maxRecDepth 20000 in
theorem ggL_law_X3_skill : GoodIn wsL_law wsX3_skill := goodIn_r _ [418, 15, 297, 299, 143, 144, 14, 145, 43, 73, 74, 75, 2, 76, 26, 405, 406, 407, 901, 902, 903, 904, 905, 906, 907, 908, 909, 910, 911, 928, 929, 930, 931, 932, 933, 934, 935, 936, 937] (by decide +kernel) (by decide +kernel)
set_option maxRecDepth 20000 in
theorem gL_law_X3_skill : GoodIn wsL_law (wsV RL 52 RX3 yX3_skill wsX3_skill) := goodIn_app (goodIn_of _ (by decide +kernel)) ggL_law_X3_skill
set_option maxRecDepth 20000 in
theorem ggL_law_X4_skill : GoodIn wsL_law wsX4_skill := goodIn_r _ [422, 59, 252, 253, 254, 5, 255, 224, 225, 226, 412, 413, 414, 91, 92, 93, 94, 65, 245, 246, 247, 912, 913, 914, 915, 916, 917, 918, 919, 920, 921, 922, 923, 924, 925, 926, 927] (by decide +kernel) (by decide +kernel)
set_option maxRecDepth 20000 in
theorem gL_law_X4_skill : GoodIn wsL_law (wsV RL 55 RX4 yX4_skill wsX4_skill) := goodIn_app (goodIn_of _ (by decide +kernel)) ggL_law_X4_skill
set_option maxRecDepth 20000 in
theorem ggL_law_X3_turn : GoodIn wsL_law wsX3_turn := goodIn_r _ [426, 15, 316, 317, 322, 152, 153, 14, 154, 44, 73, 74, 75, 2, 76, 26, 405, 406, 407, 901, 902, 903, 904, 905, 906, 907, 908, 909, 910, 911, 928, 929, 930, 931, 932, 933, 934, 935, 936, 937] (by decide +kernel) (by decide +kernel)
set_option maxRecDepth 20000 in
theorem gL_law_X3_turn : GoodIn wsL_law (wsV RL 56 RX3 yX3_turn wsX3_turn) := goodIn_app (goodIn_of _ (by decide +kernel)) ggL_law_X3_turn
set_option maxRecDepth 20000 in
theorem ggL_law_X4_turn : GoodIn wsL_law wsX4_turn := goodIn_r _ [430, 59, 259, 260, 261, 5, 262, 224, 225, 226, 412, 413, 414, 91, 92, 93, 94, 65, 256, 257, 258, 912, 913, 914, 915, 916, 917, 918, 919, 920, 921, 922, 923, 924, 925, 926, 927] (by decide +kernel) (by decide +kernel)
set_option maxRecDepth 20000 in
theorem gL_law_X4_turn : GoodIn wsL_law (wsV RL 60 RX4 yX4_turn wsX4_turn) := goodIn_app (goodIn_of _ (by decide +kernel)) ggL_law_X4_turn
set_option maxRecDepth 20000 in
theorem ggL_law_X3_days : GoodIn wsL_law wsX3_days := goodIn_r _ [434, 15, 321, 405, 406, 2, 407, 73, 74, 75, 76, 26, 435, 160, 161, 14, 162, 45, 43, 163, 164, 165, 166, 44, 167, 168, 169, 170, 42, 171, 172, 173, 174, 38, 39, 175, 176, 177, 178, 41, 179, 180, 181, 182, 183, 184, 185, 186, 187, 188, 189, 190, 36, 191, 192, 193, 194, 195, 196, 197, 198, 40, 142, 143, 144, 145, 199, 200, 201, 202, 37, 334, 335, 336, 337, 338, 339, 340, 341, 342, 343, 344, 345, 346, 347, 348, 901, 902, 903, 904, 905, 906, 907, 908, 909, 910, 911, 928, 929, 930, 931, 932, 933, 934, 935, 936, 937] (by decide +kernel) (by decide +kernel)
set_option maxRecDepth 20000 in
theorem gL_law_X3_days : GoodIn wsL_law (wsV RL 61 RX3 yX3_days wsX3_days) := goodIn_app (goodIn_of _ (by decide +kernel)) ggL_law_X3_days
set_option maxRecDepth 20000 in
theorem ggL_law_X4_days : GoodIn wsL_law wsX4_days := goodIn_r _ [439, 59, 91, 92, 93, 5, 94, 65, 266, 267, 268, 269, 270, 271, 263, 264, 265, 256, 257, 258, 272, 273, 274, 275, 276, 277, 278, 279, 280, 281, 282, 283, 284, 285, 286, 245, 246, 247, 287, 288, 289, 290, 291, 292, 357, 358, 359, 360, 361, 362, 912, 913, 914, 915, 916, 917, 918, 919, 920, 921, 922, 923, 924, 925, 926, 927] (by decide +kernel) (by decide +kernel)
set_option maxRecDepth 20000 in
theorem gL_law_X4_days : GoodIn wsL_law (wsV RL 64 RX4 yX4_days wsX4_days) := goodIn_app (goodIn_of _ (by decide +kernel)) ggL_law_X4_days
set_option maxRecDepth 20000 in
theorem ggL_law_X3_wholeThen : GoodIn wsL_law wsX3_wholeThen := goodIn_r _ [443, 16, 15, 405, 406, 2, 407, 73, 74, 75, 76, 26, 99, 100, 101, 14, 102, 36, 103, 104, 105, 106, 37, 38, 39, 40, 41, 42, 43, 44, 45, 435, 160, 161, 162, 163, 164, 165, 166, 167, 168, 169, 170, 171, 172, 173, 174, 175, 176, 177, 178, 179, 180, 181, 182, 183, 184, 185, 186, 187, 188, 189, 190, 191, 192, 193, 194, 195, 196, 197, 198, 142, 143, 144, 145, 199, 200, 201, 202, 444, 339, 340, 341, 901, 902, 903, 904, 905, 906, 907, 908, 909, 910, 911, 928, 929, 930, 931, 932, 933, 934, 935, 936, 937] (by decide +kernel) (by decide +kernel)
set_option maxRecDepth 20000 in
theorem gL_law_X3_wholeThen : GoodIn wsL_law (wsV RL 65 RX3 yX3_wholeThen wsX3_wholeThen) := goodIn_app (goodIn_of _ (by decide +kernel)) ggL_law_X3_wholeThen
set_option maxRecDepth 20000 in
theorem ggL_law_X4_wholeThen : GoodIn wsL_law wsX4_wholeThen := goodIn_r _ [448, 60, 412, 413, 5, 414, 91, 92, 93, 94, 65, 449, 450, 451, 452, 59, 234, 235, 236, 266, 267, 268, 269, 270, 271, 263, 264, 265, 256, 257, 258, 272, 273, 274, 275, 276, 277, 278, 279, 280, 281, 282, 283, 284, 285, 286, 245, 246, 247, 287, 288, 289, 290, 291, 292, 357, 358, 359, 912, 913, 914, 915, 916, 917, 918, 919, 920, 921, 922, 923, 924, 925, 926, 927] (by decide +kernel) (by decide +kernel)
set_option maxRecDepth 20000 in
theorem gL_law_X4_wholeThen : GoodIn wsL_law (wsV RL 68 RX4 yX4_wholeThen wsX4_wholeThen) := goodIn_app (goodIn_of _ (by decide +kernel)) ggL_law_X4_wholeThen
set_option maxRecDepth 20000 in
theorem ggL_law_X3_brokenThen : GoodIn wsL_law wsX3_brokenThen := goodIn_r _ [456, 15, 16, 320, 322, 152, 153, 14, 154, 44, 73, 74, 75, 2, 76, 26, 405, 406, 407, 99, 100, 101, 102, 36, 103, 104, 105, 106, 37, 38, 39, 40, 41, 42, 43, 45, 435, 160, 161, 162, 163, 164, 165, 166, 167, 168, 169, 170, 171, 172, 173, 174, 175, 176, 177, 178, 179, 180, 181, 182, 183, 184, 185, 186, 187, 188, 189, 190, 191, 192, 193, 194, 195, 196, 197, 198, 142, 143, 144, 145, 199, 200, 201, 202, 901, 902, 903, 904, 905, 906, 907, 908, 909, 910, 911, 928, 929, 930, 931, 932, 933, 934, 935, 936, 937] (by decide +kernel) (by decide +kernel)
set_option maxRecDepth 20000 in
theorem gL_law_X3_brokenThen : GoodIn wsL_law (wsV RL 69 RX3 yX3_brokenThen wsX3_brokenThen) := goodIn_app (goodIn_of _ (by decide +kernel)) ggL_law_X3_brokenThen
set_option maxRecDepth 20000 in
theorem ggL_law_X4_brokenThen : GoodIn wsL_law wsX4_brokenThen := goodIn_r _ [460, 60, 259, 260, 261, 5, 262, 59, 224, 225, 226, 412, 413, 414, 91, 92, 93, 94, 65, 449, 450, 451, 452, 234, 235, 236, 266, 267, 268, 269, 270, 271, 263, 264, 265, 256, 257, 258, 272, 273, 274, 275, 276, 277, 278, 279, 280, 281, 282, 283, 284, 285, 286, 245, 246, 247, 287, 288, 289, 290, 291, 292, 912, 913, 914, 915, 916, 917, 918, 919, 920, 921, 922, 923, 924, 925, 926, 927] (by decide +kernel) (by decide +kernel)
set_option maxRecDepth 20000 in
theorem gL_law_X4_brokenThen : GoodIn wsL_law (wsV RL 72 RX4 yX4_brokenThen wsX4_brokenThen) := goodIn_app (goodIn_of _ (by decide +kernel)) ggL_law_X4_brokenThen
set_option maxRecDepth 20000 in
theorem ggL_law_X3_mendedThen : GoodIn wsL_law wsX3_mendedThen := goodIn_r _ [464, 16, 15, 405, 406, 2, 407, 73, 74, 75, 76, 26, 99, 100, 101, 14, 102, 36, 103, 104, 105, 106, 37, 38, 39, 40, 41, 42, 43, 44, 45, 435, 160, 161, 162, 163, 164, 165, 166, 167, 168, 169, 170, 171, 172, 173, 174, 175, 176, 177, 178, 179, 180, 181, 182, 183, 184, 185, 186, 187, 188, 189, 190, 191, 192, 193, 194, 195, 196, 197, 198, 142, 143, 144, 145, 199, 200, 201, 202, 465, 466, 467, 468, 901, 902, 903, 904, 905, 906, 907, 908, 909, 910, 911, 928, 929, 930, 931, 932, 933, 934, 935, 936, 937] (by decide +kernel) (by decide +kernel)
set_option maxRecDepth 20000 in
theorem gL_law_X3_mendedThen : GoodIn wsL_law (wsV RL 73 RX3 yX3_mendedThen wsX3_mendedThen) := goodIn_app (goodIn_of _ (by decide +kernel)) ggL_law_X3_mendedThen
set_option maxRecDepth 20000 in
theorem ggL_law_X4_mendedThen : GoodIn wsL_law wsX4_mendedThen := goodIn_r _ [472, 60, 59, 412, 413, 5, 414, 91, 92, 93, 94, 65, 449, 450, 451, 452, 234, 235, 236, 266, 267, 268, 269, 270, 271, 263, 264, 265, 256, 257, 258, 272, 273, 274, 275, 276, 277, 278, 279, 280, 281, 282, 283, 284, 285, 286, 245, 246, 247, 287, 288, 289, 290, 291, 292, 473, 474, 475, 912, 913, 914, 915, 916, 917, 918, 919, 920, 921, 922, 923, 924, 925, 926, 927] (by decide +kernel) (by decide +kernel)
set_option maxRecDepth 20000 in
theorem gL_law_X4_mendedThen : GoodIn wsL_law (wsV RL 76 RX4 yX4_mendedThen wsX4_mendedThen) := goodIn_app (goodIn_of _ (by decide +kernel)) ggL_law_X4_mendedThen
set_option maxRecDepth 20000 in
theorem ggL_law_X3_again : GoodIn wsL_law wsX3_again := goodIn_r _ [479, 15, 16, 322, 152, 153, 14, 154, 44, 73, 74, 75, 2, 76, 26, 99, 100, 101, 102, 36, 103, 104, 105, 106, 37, 38, 39, 40, 41, 42, 43, 45, 480, 481, 482, 483, 333, 168, 169, 170, 435, 160, 161, 162, 163, 164, 165, 166, 167, 171, 172, 173, 174, 175, 176, 177, 178, 179, 180, 181, 182, 183, 184, 185, 186, 187, 188, 189, 190, 191, 192, 193, 194, 195, 196, 197, 198, 142, 143, 144, 145, 199, 200, 201, 202, 901, 902, 903, 904, 905, 906, 907, 908, 909, 910, 911, 928, 929, 930, 931, 932, 933, 934, 935, 936, 937] (by decide +kernel) (by decide +kernel)
set_option maxRecDepth 20000 in
theorem gL_law_X3_again : GoodIn wsL_law (wsV RL 77 RX3 yX3_again wsX3_again) := goodIn_app (goodIn_of _ (by decide +kernel)) ggL_law_X3_again
set_option maxRecDepth 20000 in
theorem ggL_law_X4_again : GoodIn wsL_law wsX4_again := goodIn_r _ [487, 259, 260, 261, 5, 262, 59, 224, 225, 226, 91, 92, 93, 94, 65, 488, 489, 490, 491, 60, 234, 235, 236, 492, 493, 494, 495, 357, 358, 359, 263, 264, 265, 256, 257, 258, 269, 270, 271, 272, 273, 274, 275, 276, 277, 278, 279, 280, 281, 282, 283, 284, 285, 286, 245, 246, 247, 287, 288, 289, 290, 291, 292, 912, 913, 914, 915, 916, 917, 918, 919, 920, 921, 922, 923, 924, 925, 926, 927] (by decide +kernel) (by decide +kernel)
set_option maxRecDepth 20000 in
theorem gL_law_X4_again : GoodIn wsL_law (wsV RL 80 RX4 yX4_again wsX4_again) := goodIn_app (goodIn_of _ (by decide +kernel)) ggL_law_X4_again
set_option maxRecDepth 20000 in
theorem ggL_law_X3_mourned : GoodIn wsL_law wsX3_mourned := goodIn_r _ [499, 15, 73, 74, 75, 2, 76, 26, 500, 501, 502, 14, 503, 44, 504, 376, 377, 378, 42, 505, 506, 507, 508, 16, 509, 99, 100, 101, 102, 36, 103, 104, 105, 106, 37, 38, 39, 40, 41, 43, 45, 334, 335, 336, 337, 338, 339, 340, 341, 167, 168, 169, 170, 342, 343, 344, 345, 346, 347, 348, 435, 160, 161, 162, 163, 164, 165, 166, 171, 172, 173, 174, 175, 176, 177, 178, 179, 180, 181, 182, 183, 184, 185, 186, 187, 188, 189, 190, 191, 192, 193, 194, 195, 196, 197, 198, 142, 143, 144, 145, 199, 200, 201, 202, 901, 902, 903, 904, 905, 906, 907, 908, 909, 910, 911, 928, 929, 930, 931, 932, 933, 934, 935, 936, 937] (by decide +kernel) (by decide +kernel)
set_option maxRecDepth 20000 in
theorem gL_law_X3_mourned : GoodIn wsL_law (wsV RL 81 RX3 yX3_mourned wsX3_mourned) := goodIn_app (goodIn_of _ (by decide +kernel)) ggL_law_X3_mourned
set_option maxRecDepth 20000 in
theorem ggL_law_X4_mourned : GoodIn wsL_law wsX4_mourned := goodIn_r _ [513, 59, 224, 225, 5, 226, 91, 92, 93, 94, 65, 488, 489, 490, 491, 60, 234, 235, 236, 492, 493, 494, 495, 357, 358, 359, 263, 264, 265, 256, 257, 258, 269, 270, 271, 272, 273, 274, 275, 276, 277, 278, 279, 280, 281, 282, 283, 284, 285, 286, 245, 246, 247, 287, 288, 289, 290, 291, 292, 912, 913, 914, 915, 916, 917, 918, 919, 920, 921, 922, 923, 924, 925, 926, 927] (by decide +kernel) (by decide +kernel)
set_option maxRecDepth 20000 in
theorem gL_law_X4_mourned : GoodIn wsL_law (wsV RL 84 RX4 yX4_mourned wsX4_mourned) := goodIn_app (goodIn_of _ (by decide +kernel)) ggL_law_X4_mourned
set_option maxRecDepth 20000 in
theorem ggL_law_X3_first : GoodIn wsL_law wsX3_first := goodIn_r _ [517, 16, 15, 73, 74, 75, 2, 76, 26, 99, 100, 101, 14, 102, 36, 103, 104, 105, 106, 37, 38, 39, 40, 41, 42, 43, 44, 45, 435, 160, 161, 162, 163, 164, 165, 166, 167, 168, 169, 170, 171, 172, 173, 174, 175, 176, 177, 178, 179, 180, 181, 182, 183, 184, 185, 186, 187, 188, 189, 190, 191, 192, 193, 194, 195, 196, 197, 198, 142, 143, 144, 145, 199, 200, 201, 202, 518, 519, 520, 521, 509, 333, 901, 902, 903, 904, 905, 906, 907, 908, 909, 910, 911, 928, 929, 930, 931, 932, 933, 934, 935, 936, 937] (by decide +kernel) (by decide +kernel)
set_option maxRecDepth 20000 in
theorem gL_law_X3_first : GoodIn wsL_law (wsV RL 85 RX3 yX3_first wsX3_first) := goodIn_app (goodIn_of _ (by decide +kernel)) ggL_law_X3_first
set_option maxRecDepth 20000 in
theorem ggL_law_X4_first : GoodIn wsL_law wsX4_first := goodIn_r _ [525, 526, 59, 224, 225, 5, 226, 91, 92, 93, 94, 65, 263, 264, 265, 256, 257, 258, 488, 489, 490, 491, 60, 234, 235, 236, 492, 493, 494, 495, 357, 358, 359, 269, 270, 271, 272, 273, 274, 275, 276, 277, 278, 279, 280, 281, 282, 283, 284, 285, 286, 245, 246, 247, 287, 288, 289, 290, 291, 292, 912, 913, 914, 915, 916, 917, 918, 919, 920, 921, 922, 923, 924, 925, 926, 927] (by decide +kernel) (by decide +kernel)
set_option maxRecDepth 20000 in
theorem gL_law_X4_first : GoodIn wsL_law (wsV RL 88 RX4 yX4_first wsX4_first) := goodIn_app (goodIn_of _ (by decide +kernel)) ggL_law_X4_first
set_option maxRecDepth 20000 in
theorem ggL_law_X3_menders : GoodIn wsL_law wsX3_menders := goodIn_r _ [530, 15, 322, 152, 153, 14, 154, 44, 73, 74, 75, 2, 76, 26, 531, 532, 533, 534, 43, 36, 191, 192, 193, 194, 39, 195, 196, 197, 198, 40, 38, 142, 143, 144, 145, 901, 902, 903, 904, 905, 906, 907, 908, 909, 910, 911, 928, 929, 930, 931, 932, 933, 934, 935, 936, 937] (by decide +kernel) (by decide +kernel)
