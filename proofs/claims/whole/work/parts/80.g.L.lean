set_option maxRecDepth 20000 in
theorem gL_law_X3_menders : GoodIn wsL_law (wsV RL 89 RX3 yX3_menders wsX3_menders) := goodIn_app (goodIn_of _ (by decide +kernel)) ggL_law_X3_menders
set_option maxRecDepth 20000 in
theorem ggL_law_X4_menders : GoodIn wsL_law wsX4_menders := goodIn_r _ [538, 259, 260, 261, 5, 262, 59, 224, 225, 226, 387, 388, 389, 390, 284, 285, 286, 245, 246, 247, 287, 288, 289, 256, 257, 258, 275, 276, 277, 91, 92, 93, 94, 65, 912, 913, 914, 915, 916, 917, 918, 919, 920, 921, 922, 923, 924, 925, 926, 927] (by decide +kernel) (by decide +kernel)
set_option maxRecDepth 20000 in
theorem gL_law_X4_menders : GoodIn wsL_law (wsV RL 92 RX4 yX4_menders wsX4_menders) := goodIn_app (goodIn_of _ (by decide +kernel)) ggL_law_X4_menders
set_option maxRecDepth 20000 in
theorem ggL_law_X3_together : GoodIn wsL_law wsX3_together := goodIn_r _ [542, 15, 30, 322, 152, 153, 14, 154, 44, 73, 74, 75, 2, 76, 26, 543, 544, 545, 29, 546, 54, 547, 548, 549, 550, 551, 552, 553, 554, 197, 555, 556, 557, 558, 559, 188, 189, 190, 42, 36, 191, 192, 193, 194, 39, 195, 196, 198, 40, 38, 142, 143, 144, 145, 43, 560, 561, 562, 563, 564, 565, 566, 567, 568, 569, 570, 571, 901, 902, 903, 904, 905, 906, 907, 908, 909, 910, 911, 928, 929, 930, 931, 932, 933, 934, 935, 936, 937, 940] (by decide +kernel) (by decide +kernel)
set_option maxRecDepth 20000 in
theorem gL_law_X3_together : GoodIn wsL_law (wsV RL 93 RX3 yX3_together wsX3_together) := goodIn_app (goodIn_of _ (by decide +kernel)) ggL_law_X3_together
set_option maxRecDepth 20000 in
theorem ggL_law_X4_together : GoodIn wsL_law wsX4_together := goodIn_r _ [575, 576, 68, 259, 260, 261, 5, 262, 59, 224, 225, 226, 91, 92, 93, 94, 65, 577, 578, 579, 580, 67, 581, 582, 583, 281, 282, 283, 256, 257, 258, 284, 285, 286, 245, 246, 247, 287, 288, 289, 275, 276, 277, 912, 913, 914, 915, 916, 917, 918, 919, 920, 921, 922, 923, 924, 925, 926, 927] (by decide +kernel) (by decide +kernel)
set_option maxRecDepth 20000 in
theorem gL_law_X4_together : GoodIn wsL_law (wsV RL 96 RX4 yX4_together wsX4_together) := goodIn_app (goodIn_of _ (by decide +kernel)) ggL_law_X4_together
set_option maxRecDepth 20000 in
theorem ggL_law_X3_lost : GoodIn wsL_law wsX3_lost := goodIn_r _ [587, 15, 509, 333, 168, 169, 14, 170, 42, 379, 380, 381, 382, 43, 187, 188, 189, 190, 36, 191, 192, 193, 194, 39, 195, 196, 197, 198, 40, 38, 142, 143, 144, 145, 901, 902, 903, 904, 905, 906, 907, 908, 909, 910, 911, 928, 929, 930, 931, 932, 933, 934, 935, 936, 937] (by decide +kernel) (by decide +kernel)
set_option maxRecDepth 20000 in
theorem gL_law_X3_lost : GoodIn wsL_law (wsV RL 97 RX3 yX3_lost wsX3_lost) := goodIn_app (goodIn_of _ (by decide +kernel)) ggL_law_X3_lost
set_option maxRecDepth 20000 in
theorem ggL_law_X4_lost : GoodIn wsL_law wsX4_lost := goodIn_r _ [591, 59, 263, 264, 5, 265, 256, 257, 258, 281, 282, 283, 284, 285, 286, 245, 246, 247, 287, 288, 289, 275, 276, 277, 912, 913, 914, 915, 916, 917, 918, 919, 920, 921, 922, 923, 924, 925, 926, 927] (by decide +kernel) (by decide +kernel)
set_option maxRecDepth 20000 in
theorem gL_law_X4_lost : GoodIn wsL_law (wsV RL 100 RX4 yX4_lost wsX4_lost) := goodIn_app (goodIn_of _ (by decide +kernel)) ggL_law_X4_lost
set_option maxRecDepth 20000 in
theorem ggL_law_X3_breaker : GoodIn wsL_law wsX3_breaker := goodIn_r _ [595, 15, 596, 16, 320, 322, 152, 153, 14, 154, 44, 73, 74, 75, 2, 76, 26, 333, 168, 169, 170, 42, 99, 100, 101, 102, 36, 103, 104, 105, 106, 37, 38, 39, 40, 41, 43, 45, 480, 481, 482, 483, 435, 160, 161, 162, 163, 164, 165, 166, 167, 171, 172, 173, 174, 175, 176, 177, 178, 179, 180, 181, 182, 183, 184, 185, 186, 187, 188, 189, 190, 191, 192, 193, 194, 195, 196, 197, 198, 142, 143, 144, 145, 199, 200, 201, 202, 901, 902, 903, 904, 905, 906, 907, 908, 909, 910, 911, 928, 929, 930, 931, 932, 933, 934, 935, 936, 937] (by decide +kernel) (by decide +kernel)
set_option maxRecDepth 20000 in
theorem gL_law_X3_breaker : GoodIn wsL_law (wsV RL 101 RX3 yX3_breaker wsX3_breaker) := goodIn_app (goodIn_of _ (by decide +kernel)) ggL_law_X3_breaker
set_option maxRecDepth 20000 in
theorem ggL_law_X4_breaker : GoodIn wsL_law wsX4_breaker := goodIn_r _ [600, 526, 59, 60, 353, 354, 355, 5, 356, 259, 260, 261, 262, 224, 225, 226, 263, 264, 265, 256, 257, 258, 91, 92, 93, 94, 65, 234, 235, 236, 492, 493, 494, 495, 357, 358, 359, 269, 270, 271, 272, 273, 274, 275, 276, 277, 278, 279, 280, 281, 282, 283, 284, 285, 286, 245, 246, 247, 287, 288, 289, 290, 291, 292, 912, 913, 914, 915, 916, 917, 918, 919, 920, 921, 922, 923, 924, 925, 926, 927] (by decide +kernel) (by decide +kernel)
set_option maxRecDepth 20000 in
theorem gL_law_X4_breaker : GoodIn wsL_law (wsV RL 104 RX4 yX4_breaker wsX4_breaker) := goodIn_app (goodIn_of _ (by decide +kernel)) ggL_law_X4_breaker
set_option maxRecDepth 20000 in
theorem ggL_law_X3_bestSays : GoodIn wsL_law wsX3_bestSays := goodIn_r _ [604, 15, 509, 596, 16, 320, 405, 406, 2, 407, 73, 74, 75, 76, 26, 605, 606, 607, 608, 99, 100, 101, 14, 102, 36, 103, 104, 105, 106, 37, 38, 39, 40, 41, 42, 43, 44, 45, 435, 160, 161, 162, 163, 164, 165, 166, 167, 168, 169, 170, 171, 172, 173, 174, 175, 176, 177, 178, 179, 180, 181, 182, 183, 184, 185, 186, 187, 188, 189, 190, 191, 192, 193, 194, 195, 196, 197, 198, 142, 143, 144, 145, 199, 200, 201, 202, 334, 335, 336, 337, 338, 339, 340, 341, 342, 343, 344, 345, 346, 347, 348, 375, 376, 377, 378, 901, 902, 903, 904, 905, 906, 907, 908, 909, 910, 911, 928, 929, 930, 931, 932, 933, 934, 935, 936, 937] (by decide +kernel) (by decide +kernel)
set_option maxRecDepth 20000 in
theorem gL_law_X3_bestSays : GoodIn wsL_law (wsV RL 105 RX3 yX3_bestSays wsX3_bestSays) := goodIn_app (goodIn_of _ (by decide +kernel)) ggL_law_X3_bestSays
set_option maxRecDepth 20000 in
theorem ggL_law_X4_bestSays : GoodIn wsL_law wsX4_bestSays := goodIn_r _ [612, 59, 60, 412, 413, 5, 414, 91, 92, 93, 94, 65, 234, 235, 236, 613, 614, 615, 616, 266, 267, 268, 269, 270, 271, 263, 264, 265, 256, 257, 258, 272, 273, 274, 275, 276, 277, 278, 279, 280, 281, 282, 283, 284, 285, 286, 245, 246, 247, 287, 288, 289, 290, 291, 292, 357, 358, 359, 360, 361, 362, 912, 913, 914, 915, 916, 917, 918, 919, 920, 921, 922, 923, 924, 925, 926, 927] (by decide +kernel) (by decide +kernel)
set_option maxRecDepth 20000 in
theorem gL_law_X4_bestSays : GoodIn wsL_law (wsV RL 108 RX4 yX4_bestSays wsX4_bestSays) := goodIn_app (goodIn_of _ (by decide +kernel)) ggL_law_X4_bestSays
set_option maxRecDepth 20000 in
theorem ggL_law_X3_confessions : GoodIn wsL_law wsX3_confessions := goodIn_r _ [620, 15, 596, 621, 343, 344, 345, 346, 347, 348, 622, 623, 624, 2, 625, 509, 375, 376, 377, 14, 378, 42, 626, 627, 628, 629, 531, 532, 533, 534, 43, 36, 191, 192, 193, 194, 39, 195, 196, 197, 198, 40, 38, 142, 143, 144, 145, 901, 902, 903, 904, 905, 906, 907, 908, 909, 910, 911, 928, 929, 930, 931, 932, 933, 934, 935, 936, 937] (by decide +kernel) (by decide +kernel)
set_option maxRecDepth 20000 in
theorem gL_law_X3_confessions : GoodIn wsL_law (wsV RL 109 RX3 yX3_confessions wsX3_confessions) := goodIn_app (goodIn_of _ (by decide +kernel)) ggL_law_X3_confessions
set_option maxRecDepth 20000 in
theorem ggL_law_X4_confessions : GoodIn wsL_law wsX4_confessions := goodIn_r _ [633, 59, 360, 361, 5, 362, 256, 257, 258, 634, 635, 636, 637, 581, 582, 583, 387, 388, 389, 390, 284, 285, 286, 245, 246, 247, 287, 288, 289, 275, 276, 277, 912, 913, 914, 915, 916, 917, 918, 919, 920, 921, 922, 923, 924, 925, 926, 927] (by decide +kernel) (by decide +kernel)
set_option maxRecDepth 20000 in
theorem gL_law_X4_confessions : GoodIn wsL_law (wsV RL 112 RX4 yX4_confessions wsX4_confessions) := goodIn_app (goodIn_of _ (by decide +kernel)) ggL_law_X4_confessions
set_option maxRecDepth 20000 in
theorem ggL_law_X3_learns : GoodIn wsL_law wsX3_learns := goodIn_r _ [641, 15, 596, 16, 297, 405, 406, 2, 407, 73, 74, 75, 76, 26, 605, 606, 607, 608, 99, 100, 101, 14, 102, 36, 103, 104, 105, 106, 37, 38, 39, 40, 41, 42, 43, 44, 45, 435, 160, 161, 162, 163, 164, 165, 166, 167, 168, 169, 170, 171, 172, 173, 174, 175, 176, 177, 178, 179, 180, 181, 182, 183, 184, 185, 186, 187, 188, 189, 190, 191, 192, 193, 194, 195, 196, 197, 198, 142, 143, 144, 145, 199, 200, 201, 202, 334, 335, 336, 337, 338, 339, 340, 341, 342, 343, 344, 345, 346, 347, 348, 901, 902, 903, 904, 905, 906, 907, 908, 909, 910, 911, 928, 929, 930, 931, 932, 933, 934, 935, 936, 937] (by decide +kernel) (by decide +kernel)
set_option maxRecDepth 20000 in
theorem gL_law_X3_learns : GoodIn wsL_law (wsV RL 113 RX3 yX3_learns wsX3_learns) := goodIn_app (goodIn_of _ (by decide +kernel)) ggL_law_X3_learns
set_option maxRecDepth 20000 in
theorem ggL_law_X4_learns : GoodIn wsL_law wsX4_learns := goodIn_r _ [645, 59, 60, 412, 413, 5, 414, 91, 92, 93, 94, 65, 234, 235, 236, 613, 614, 615, 616, 266, 267, 268, 269, 270, 271, 263, 264, 265, 256, 257, 258, 272, 273, 274, 275, 276, 277, 278, 279, 280, 281, 282, 283, 284, 285, 286, 245, 246, 247, 287, 288, 289, 290, 291, 292, 357, 358, 359, 360, 361, 362, 912, 913, 914, 915, 916, 917, 918, 919, 920, 921, 922, 923, 924, 925, 926, 927] (by decide +kernel) (by decide +kernel)
set_option maxRecDepth 20000 in
theorem gL_law_X4_learns : GoodIn wsL_law (wsV RL 116 RX4 yX4_learns wsX4_learns) := goodIn_app (goodIn_of _ (by decide +kernel)) ggL_law_X4_learns
set_option maxRecDepth 20000 in
theorem ggL_law_X3_missed : GoodIn wsL_law wsX3_missed := goodIn_r _ [649, 15, 596, 16, 405, 406, 2, 407, 73, 74, 75, 76, 26, 99, 100, 101, 14, 102, 36, 103, 104, 105, 106, 37, 38, 39, 40, 41, 42, 43, 44, 45, 435, 160, 161, 162, 163, 164, 165, 166, 167, 168, 169, 170, 171, 172, 173, 174, 175, 176, 177, 178, 179, 180, 181, 182, 183, 184, 185, 186, 187, 188, 189, 190, 191, 192, 193, 194, 195, 196, 197, 198, 142, 143, 144, 145, 199, 200, 201, 202, 334, 335, 336, 337, 338, 339, 340, 341, 342, 343, 344, 345, 346, 347, 348, 901, 902, 903, 904, 905, 906, 907, 908, 909, 910, 911, 928, 929, 930, 931, 932, 933, 934, 935, 936, 937] (by decide +kernel) (by decide +kernel)
set_option maxRecDepth 20000 in
theorem gL_law_X3_missed : GoodIn wsL_law (wsV RL 117 RX3 yX3_missed wsX3_missed) := goodIn_app (goodIn_of _ (by decide +kernel)) ggL_law_X3_missed
set_option maxRecDepth 20000 in
theorem ggL_law_X4_missed : GoodIn wsL_law wsX4_missed := goodIn_r _ [653, 526, 59, 60, 412, 413, 5, 414, 91, 92, 93, 94, 65, 234, 235, 236, 613, 614, 615, 616, 266, 267, 268, 269, 270, 271, 263, 264, 265, 256, 257, 258, 272, 273, 274, 275, 276, 277, 278, 279, 280, 281, 282, 283, 284, 285, 286, 245, 246, 247, 287, 288, 289, 290, 291, 292, 357, 358, 359, 360, 361, 362, 912, 913, 914, 915, 916, 917, 918, 919, 920, 921, 922, 923, 924, 925, 926, 927] (by decide +kernel) (by decide +kernel)
set_option maxRecDepth 20000 in
theorem gL_law_X4_missed : GoodIn wsL_law (wsV RL 120 RX4 yX4_missed wsX4_missed) := goodIn_app (goodIn_of _ (by decide +kernel)) ggL_law_X4_missed
set_option maxRecDepth 20000 in
theorem ggL_law_X3_due : GoodIn wsL_law wsX3_due := goodIn_r _ [657, 15, 658, 509, 320, 318, 299, 143, 144, 14, 145, 43, 73, 74, 75, 2, 76, 26, 659, 660, 661, 662, 42, 40, 901, 902, 903, 904, 905, 906, 907, 908, 909, 910, 911, 928, 929, 930, 931, 932, 933, 934, 935, 936, 937] (by decide +kernel) (by decide +kernel)
set_option maxRecDepth 20000 in
theorem gL_law_X3_due : GoodIn wsL_law (wsV RL 121 RX3 yX3_due wsX3_due) := goodIn_app (goodIn_of _ (by decide +kernel)) ggL_law_X3_due
set_option maxRecDepth 20000 in
theorem ggL_law_X4_due : GoodIn wsL_law wsX4_due := goodIn_r _ [666, 59, 252, 253, 254, 5, 255, 224, 225, 226, 667, 668, 669, 670, 526, 91, 92, 93, 94, 65, 256, 257, 258, 671, 672, 673, 674, 912, 913, 914, 915, 916, 917, 918, 919, 920, 921, 922, 923, 924, 925, 926, 927] (by decide +kernel) (by decide +kernel)
set_option maxRecDepth 20000 in
theorem gL_law_X4_due : GoodIn wsL_law (wsV RL 124 RX4 yX4_due wsX4_due) := goodIn_app (goodIn_of _ (by decide +kernel)) ggL_law_X4_due
set_option maxRecDepth 20000 in
theorem ggL_law_X3_ring : GoodIn wsL_law wsX3_ring := goodIn_r _ [678, 15, 299, 143, 144, 14, 145, 43, 73, 74, 75, 2, 76, 26, 679, 680, 681, 682, 44, 40, 42, 683, 660, 661, 662, 621, 343, 344, 345, 346, 347, 348, 901, 902, 903, 904, 905, 906, 907, 908, 909, 910, 911, 928, 929, 930, 931, 932, 933, 934, 935, 936, 937] (by decide +kernel) (by decide +kernel)
set_option maxRecDepth 20000 in
theorem gL_law_X3_ring : GoodIn wsL_law (wsV RL 125 RX3 yX3_ring wsX3_ring) := goodIn_app (goodIn_of _ (by decide +kernel)) ggL_law_X3_ring
set_option maxRecDepth 20000 in
theorem ggL_law_X4_ring : GoodIn wsL_law wsX4_ring := goodIn_r _ [687, 252, 253, 254, 5, 255, 59, 224, 225, 226, 91, 92, 93, 94, 65, 581, 582, 583, 688, 689, 690, 691, 256, 257, 258, 360, 361, 362, 912, 913, 914, 915, 916, 917, 918, 919, 920, 921, 922, 923, 924, 925, 926, 927] (by decide +kernel) (by decide +kernel)
set_option maxRecDepth 20000 in
theorem gL_law_X4_ring : GoodIn wsL_law (wsV RL 128 RX4 yX4_ring wsX4_ring) := goodIn_app (goodIn_of _ (by decide +kernel)) ggL_law_X4_ring
set_option maxRecDepth 20000 in
theorem ggL_law_X3_arranged : GoodIn wsL_law wsX3_arranged := goodIn_r _ [695, 696, 697, 698, 2, 699, 15, 596, 700, 701, 702, 14, 703, 44, 42, 40, 704, 705, 706, 707, 304, 305, 306, 307, 708, 709, 710, 711, 712, 713, 714, 715, 39, 167, 168, 169, 170, 73, 74, 75, 76, 26, 901, 902, 903, 904, 905, 906, 907, 908, 909, 910, 911, 928, 929, 930, 931, 932, 933, 934, 935, 936, 937] (by decide +kernel) (by decide +kernel)
set_option maxRecDepth 20000 in
theorem gL_law_X3_arranged : GoodIn wsL_law (wsV RL 129 RX3 yX3_arranged wsX3_arranged) := goodIn_app (goodIn_of _ (by decide +kernel)) ggL_law_X3_arranged
set_option maxRecDepth 20000 in
theorem ggL_law_X4_arranged : GoodIn wsL_law wsX4_arranged := goodIn_r _ [719, 59, 224, 225, 5, 226, 91, 92, 93, 94, 65, 720, 721, 722, 723, 724, 725, 726, 727, 256, 257, 258, 728, 729, 730, 731, 732, 733, 734, 735, 263, 264, 265, 912, 913, 914, 915, 916, 917, 918, 919, 920, 921, 922, 923, 924, 925, 926, 927] (by decide +kernel) (by decide +kernel)
set_option maxRecDepth 20000 in
theorem gL_law_X4_arranged : GoodIn wsL_law (wsV RL 132 RX4 yX4_arranged wsX4_arranged) := goodIn_app (goodIn_of _ (by decide +kernel)) ggL_law_X4_arranged
set_option maxRecDepth 20000 in
theorem ggL_law_X3_two : GoodIn wsL_law wsX3_two := goodIn_r _ [739, 15, 31, 32, 299, 143, 144, 14, 145, 43, 73, 74, 75, 2, 76, 26, 405, 406, 407, 740, 741, 742, 743, 16, 99, 100, 101, 102, 36, 103, 104, 105, 106, 37, 38, 39, 40, 41, 42, 44, 45, 744, 745, 746, 747, 167, 168, 169, 170, 435, 160, 161, 162, 163, 164, 165, 166, 171, 172, 173, 174, 175, 176, 177, 178, 179, 180, 181, 182, 183, 184, 185, 186, 187, 188, 189, 190, 191, 192, 193, 194, 195, 196, 197, 198, 142, 199, 200, 201, 202, 748, 749, 750, 751, 901, 902, 903, 904, 905, 906, 907, 908, 909, 910, 911, 928, 929, 930, 931, 932, 933, 934, 935, 936, 937] (by decide +kernel) (by decide +kernel)
set_option maxRecDepth 20000 in
theorem gL_law_X3_two : GoodIn wsL_law (wsV RL 133 RX3 yX3_two wsX3_two) := goodIn_app (goodIn_of _ (by decide +kernel)) ggL_law_X3_two
set_option maxRecDepth 20000 in
theorem ggL_law_X4_two : GoodIn wsL_law wsX4_two := goodIn_r _ [755, 252, 253, 254, 5, 255, 59, 224, 225, 226, 412, 413, 414, 91, 92, 93, 94, 65, 756, 757, 758, 759, 60, 234, 235, 236, 760, 761, 762, 763, 263, 264, 265, 256, 257, 258, 266, 267, 268, 269, 270, 271, 272, 273, 274, 275, 276, 277, 278, 279, 280, 281, 282, 283, 284, 285, 286, 245, 246, 247, 287, 288, 289, 290, 291, 292, 912, 913, 914, 915, 916, 917, 918, 919, 920, 921, 922, 923, 924, 925, 926, 927] (by decide +kernel) (by decide +kernel)
set_option maxRecDepth 20000 in
theorem gL_law_X4_two : GoodIn wsL_law (wsV RL 136 RX4 yX4_two wsX4_two) := goodIn_app (goodIn_of _ (by decide +kernel)) ggL_law_X4_two
set_option maxRecDepth 20000 in
theorem ggL_law_X3_storm : GoodIn wsL_law wsX3_storm := goodIn_r _ [767, 15, 768, 16, 322, 152, 153, 14, 154, 44, 73, 74, 75, 2, 76, 26, 769, 770, 771, 772, 99, 100, 101, 102, 36, 103, 104, 105, 106, 37, 38, 39, 40, 41, 42, 43, 45, 435, 160, 161, 162, 163, 164, 165, 166, 167, 168, 169, 170, 171, 172, 173, 174, 175, 176, 177, 178, 179, 180, 181, 182, 183, 184, 185, 186, 187, 188, 189, 190, 191, 192, 193, 194, 195, 196, 197, 198, 142, 143, 144, 145, 199, 200, 201, 202, 333, 773, 774, 775, 901, 902, 903, 904, 905, 906, 907, 908, 909, 910, 911, 928, 929, 930, 931, 932, 933, 934, 935, 936, 937] (by decide +kernel) (by decide +kernel)
set_option maxRecDepth 20000 in
theorem gL_law_X3_storm : GoodIn wsL_law (wsV RL 137 RX3 yX3_storm wsX3_storm) := goodIn_app (goodIn_of _ (by decide +kernel)) ggL_law_X3_storm
set_option maxRecDepth 20000 in
theorem ggL_law_X4_storm : GoodIn wsL_law wsX4_storm := goodIn_r _ [779, 59, 60, 259, 260, 261, 5, 262, 224, 225, 226, 780, 781, 782, 783, 784, 91, 92, 93, 94, 65, 234, 235, 236, 581, 582, 583, 269, 270, 271, 263, 264, 265, 256, 257, 258, 272, 273, 274, 275, 276, 277, 278, 279, 280, 281, 282, 283, 284, 285, 286, 245, 246, 247, 287, 288, 289, 290, 291, 292, 785, 786, 787, 788, 789, 790, 912, 913, 914, 915, 916, 917, 918, 919, 920, 921, 922, 923, 924, 925, 926, 927] (by decide +kernel) (by decide +kernel)
set_option maxRecDepth 20000 in
theorem gL_law_X4_storm : GoodIn wsL_law (wsV RL 141 RX4 yX4_storm wsX4_storm) := goodIn_app (goodIn_of _ (by decide +kernel)) ggL_law_X4_storm
set_option maxRecDepth 20000 in
theorem ggL_law_X3_mean : GoodIn wsL_law wsX3_mean := goodIn_r _ [794, 768, 15, 795, 554, 197, 555, 73, 74, 75, 2, 76, 26, 796, 797, 798, 14, 799, 44, 41, 167, 168, 169, 170, 42, 334, 335, 336, 337, 338, 339, 340, 341, 342, 343, 344, 345, 346, 347, 348, 773, 774, 775, 901, 902, 903, 904, 905, 906, 907, 908, 909, 910, 911, 928, 929, 930, 931, 932, 933, 934, 935, 936, 937] (by decide +kernel) (by decide +kernel)
set_option maxRecDepth 20000 in
theorem gL_law_X3_mean : GoodIn wsL_law (wsV RL 142 RX3 yX3_mean wsX3_mean) := goodIn_app (goodIn_of _ (by decide +kernel)) ggL_law_X3_mean
set_option maxRecDepth 20000 in
theorem ggL_law_X4_mean : GoodIn wsL_law wsX4_mean := goodIn_r _ [803, 59, 224, 225, 5, 226, 780, 781, 782, 783, 784, 91, 92, 93, 94, 65, 263, 264, 265, 256, 257, 258, 357, 358, 359, 360, 361, 362, 785, 786, 787, 788, 789, 790, 912, 913, 914, 915, 916, 917, 918, 919, 920, 921, 922, 923, 924, 925, 926, 927] (by decide +kernel) (by decide +kernel)
set_option maxRecDepth 20000 in
theorem gL_law_X4_mean : GoodIn wsL_law (wsV RL 146 RX4 yX4_mean wsX4_mean) := goodIn_app (goodIn_of _ (by decide +kernel)) ggL_law_X4_mean
set_option maxRecDepth 20000 in
theorem ggL_law_X3_whatIs : GoodIn wsL_law wsX3_whatIs := goodIn_r _ [807, 15, 322, 152, 153, 14, 154, 44, 73, 74, 75, 2, 76, 26, 808, 809, 810, 811, 16, 316, 99, 100, 101, 102, 36, 103, 104, 105, 106, 37, 38, 39, 40, 41, 42, 43, 45, 812, 813, 814, 815, 25, 319, 24, 435, 160, 161, 162, 163, 164, 165, 166, 167, 168, 169, 170, 171, 172, 173, 174, 175, 176, 177, 178, 179, 180, 181, 182, 183, 184, 185, 186, 187, 188, 189, 190, 191, 192, 193, 194, 195, 196, 197, 198, 142, 143, 144, 145, 199, 200, 201, 202, 816, 817, 818, 819, 317, 901, 902, 903, 904, 905, 906, 907, 908, 909, 910, 911, 928, 929, 930, 931, 932, 933, 934, 935, 936, 937] (by decide +kernel) (by decide +kernel)
set_option maxRecDepth 20000 in
theorem gL_law_X3_whatIs : GoodIn wsL_law (wsV RL 147 RX3 yX3_whatIs wsX3_whatIs) := goodIn_app (goodIn_of _ (by decide +kernel)) ggL_law_X3_whatIs
set_option maxRecDepth 20000 in
theorem ggL_law_X4_whatIs : GoodIn wsL_law wsX4_whatIs := goodIn_r _ [823, 59, 60, 824, 64, 259, 260, 261, 5, 262, 224, 225, 226, 91, 92, 93, 94, 65, 234, 235, 236, 256, 257, 258, 269, 270, 271, 263, 264, 265, 272, 273, 274, 275, 276, 277, 278, 279, 280, 281, 282, 283, 284, 285, 286, 245, 246, 247, 287, 288, 289, 290, 291, 292, 912, 913, 914, 915, 916, 917, 918, 919, 920, 921, 922, 923, 924, 925, 926, 927] (by decide +kernel) (by decide +kernel)
set_option maxRecDepth 20000 in
theorem gL_law_X4_whatIs : GoodIn wsL_law (wsV RL 150 RX4 yX4_whatIs wsX4_whatIs) := goodIn_app (goodIn_of _ (by decide +kernel)) ggL_law_X4_whatIs
set_option maxRecDepth 20000 in
theorem ggL_law_X3_row : GoodIn wsL_law wsX3_row := goodIn_r _ [828, 25, 24, 405, 406, 2, 407, 73, 74, 75, 76, 26, 901, 902, 903, 904, 905, 906, 907, 908, 909, 910, 911] (by decide +kernel) (by decide +kernel)
set_option maxRecDepth 20000 in
theorem gL_law_X3_row : GoodIn wsL_law (wsV RL 151 RX3 yX3_row wsX3_row) := goodIn_app (goodIn_of _ (by decide +kernel)) ggL_law_X3_row
set_option maxRecDepth 20000 in
theorem ggL_law_X4_row : GoodIn wsL_law wsX4_row := goodIn_r _ [832, 824, 64, 412, 413, 5, 414, 91, 92, 93, 94, 65, 912, 913, 914, 915, 916, 917, 918, 919, 920, 921, 922, 923, 924, 925, 926, 927] (by decide +kernel) (by decide +kernel)
set_option maxRecDepth 20000 in
theorem gL_law_X4_row : GoodIn wsL_law (wsV RL 154 RX4 yX4_row wsX4_row) := goodIn_app (goodIn_of _ (by decide +kernel)) ggL_law_X4_row
set_option maxRecDepth 20000 in
theorem ggL_law_X3_judge : GoodIn wsL_law wsX3_judge := goodIn_r _ [836, 25, 16, 15, 24, 99, 100, 101, 14, 102, 36, 103, 104, 105, 106, 37, 38, 39, 40, 41, 42, 43, 44, 45, 334, 335, 336, 337, 338, 339, 340, 341, 167, 168, 169, 170, 342, 343, 344, 345, 346, 347, 348, 435, 160, 161, 162, 163, 164, 165, 166, 171, 172, 173, 174, 175, 176, 177, 178, 179, 180, 181, 182, 183, 184, 185, 186, 187, 188, 189, 190, 191, 192, 193, 194, 195, 196, 197, 198, 142, 143, 144, 145, 199, 200, 201, 202, 901, 902, 903, 904, 905, 906, 907, 908, 909, 910, 911, 928, 929, 930, 931, 932, 933, 934, 935, 936, 937] (by decide +kernel) (by decide +kernel)
set_option maxRecDepth 20000 in
theorem gL_law_X3_judge : GoodIn wsL_law (wsV RL 155 RX3 yX3_judge wsX3_judge) := goodIn_app (goodIn_of _ (by decide +kernel)) ggL_law_X3_judge
set_option maxRecDepth 20000 in
theorem ggL_law_X4_judge : GoodIn wsL_law wsX4_judge := goodIn_r _ [840, 824, 59, 60, 64, 234, 235, 5, 236, 357, 358, 359, 263, 264, 265, 256, 257, 258, 360, 361, 362, 269, 270, 271, 272, 273, 274, 275, 276, 277, 278, 279, 280, 281, 282, 283, 284, 285, 286, 245, 246, 247, 287, 288, 289, 290, 291, 292, 912, 913, 914, 915, 916, 917, 918, 919, 920, 921, 922, 923, 924, 925, 926, 927] (by decide +kernel) (by decide +kernel)
set_option maxRecDepth 20000 in
theorem gL_law_X4_judge : GoodIn wsL_law (wsV RL 158 RX4 yX4_judge wsX4_judge) := goodIn_app (goodIn_of _ (by decide +kernel)) ggL_law_X4_judge
set_option maxRecDepth 20000 in
theorem ggL_law_X3_clear : GoodIn wsL_law wsX3_clear := goodIn_r _ [844, 25, 901, 902, 903, 904, 905, 906, 907, 908, 909, 910, 911] (by decide +kernel) (by decide +kernel)
set_option maxRecDepth 20000 in
theorem gL_law_X3_clear : GoodIn wsL_law (wsV RL 159 RX3 yX3_clear wsX3_clear) := goodIn_app (goodIn_of _ (by decide +kernel)) ggL_law_X3_clear
set_option maxRecDepth 20000 in
theorem ggL_law_X4_clear : GoodIn wsL_law wsX4_clear := goodIn_r _ [848, 824, 912, 913, 914, 915, 916, 917, 918, 919, 920, 921, 922, 923, 924, 925, 926, 927] (by decide +kernel) (by decide +kernel)
set_option maxRecDepth 20000 in
theorem gL_law_X4_clear : GoodIn wsL_law (wsV RL 162 RX4 yX4_clear wsX4_clear) := goodIn_app (goodIn_of _ (by decide +kernel)) ggL_law_X4_clear
set_option maxRecDepth 20000 in
theorem ggL_law_X3_lots : GoodIn wsL_law wsX3_lots := goodIn_r _ [852, 15, 596, 16, 405, 406, 2, 407, 73, 74, 75, 76, 26, 853, 854, 855, 856, 509, 857, 858, 859, 320, 99, 100, 101, 14, 102, 36, 103, 104, 105, 106, 37, 38, 39, 40, 41, 42, 43, 44, 45, 333, 168, 169, 170, 435, 160, 161, 162, 163, 164, 165, 166, 167, 171, 172, 173, 174, 175, 176, 177, 178, 179, 180, 181, 182, 183, 184, 185, 186, 187, 188, 189, 190, 191, 192, 193, 194, 195, 196, 197, 198, 142, 143, 144, 145, 199, 200, 201, 202, 334, 335, 336, 337, 338, 339, 340, 341, 342, 343, 344, 345, 346, 347, 348, 465, 466, 467, 468, 901, 902, 903, 904, 905, 906, 907, 908, 909, 910, 911, 928, 929, 930, 931, 932, 933, 934, 935, 936, 937] (by decide +kernel) (by decide +kernel)
set_option maxRecDepth 20000 in
theorem gL_law_X3_lots : GoodIn wsL_law (wsV RL 163 RX3 yX3_lots wsX3_lots) := goodIn_app (goodIn_of _ (by decide +kernel)) ggL_law_X3_lots
set_option maxRecDepth 20000 in
theorem ggL_law_X4_lots : GoodIn wsL_law wsX4_lots := goodIn_r _ [863, 59, 864, 60, 91, 92, 93, 5, 94, 65, 224, 225, 226, 234, 235, 236, 263, 264, 265, 256, 257, 258, 865, 866, 867, 868, 869, 870, 871, 613, 614, 615, 616, 266, 267, 268, 269, 270, 271, 272, 273, 274, 275, 276, 277, 278, 279, 280, 281, 282, 283, 284, 285, 286, 245, 246, 247, 287, 288, 289, 290, 291, 292, 357, 358, 359, 360, 361, 362, 473, 474, 475, 912, 913, 914, 915, 916, 917, 918, 919, 920, 921, 922, 923, 924, 925, 926, 927] (by decide +kernel) (by decide +kernel)
set_option maxRecDepth 20000 in
theorem gL_law_X4_lots : GoodIn wsL_law (wsV RL 166 RX4 yX4_lots wsX4_lots) := goodIn_app (goodIn_of _ (by decide +kernel)) ggL_law_X4_lots
set_option maxRecDepth 20000 in
theorem ggL_law_X3_image : GoodIn wsL_law wsX3_image := goodIn_r _ [875, 17, 15, 18, 321, 99, 100, 101, 14, 102, 36, 103, 104, 105, 106, 37, 38, 39, 40, 41, 42, 43, 44, 45, 901, 902, 903, 904, 905, 906, 907, 908, 909, 910, 911, 928, 929, 930, 931, 932, 933, 934, 935, 936, 937] (by decide +kernel) (by decide +kernel)
set_option maxRecDepth 20000 in
theorem gL_law_X3_image : GoodIn wsL_law (wsV RL 167 RX3 yX3_image wsX3_image) := goodIn_app (goodIn_of _ (by decide +kernel)) ggL_law_X3_image
set_option maxRecDepth 20000 in
theorem ggL_law_X4_image : GoodIn wsL_law wsX4_image := goodIn_r _ [879, 59, 61, 880, 234, 235, 5, 236, 912, 913, 914, 915, 916, 917, 918, 919, 920, 921, 922, 923, 924, 925, 926, 927] (by decide +kernel) (by decide +kernel)
set_option maxRecDepth 20000 in
theorem gL_law_X4_image : GoodIn wsL_law (wsV RL 170 RX4 yX4_image wsX4_image) := goodIn_app (goodIn_of _ (by decide +kernel)) ggL_law_X4_image
set_option maxRecDepth 20000 in
theorem ggL_law_X3_on : GoodIn wsL_law wsX3_on := goodIn_r _ [884, 18, 15, 17, 321, 73, 74, 75, 2, 76, 26, 99, 100, 101, 14, 102, 36, 103, 104, 105, 106, 37, 38, 39, 40, 41, 42, 43, 44, 45, 901, 902, 903, 904, 905, 906, 907, 908, 909, 910, 911, 928, 929, 930, 931, 932, 933, 934, 935, 936, 937] (by decide +kernel) (by decide +kernel)
set_option maxRecDepth 20000 in
theorem gL_law_X3_on : GoodIn wsL_law (wsV RL 171 RX3 yX3_on wsX3_on) := goodIn_app (goodIn_of _ (by decide +kernel)) ggL_law_X3_on
set_option maxRecDepth 20000 in
theorem ggL_law_X4_on : GoodIn wsL_law wsX4_on := goodIn_r _ [888, 880, 61, 59, 91, 92, 93, 5, 94, 65, 234, 235, 236, 912, 913, 914, 915, 916, 917, 918, 919, 920, 921, 922, 923, 924, 925, 926, 927] (by decide +kernel) (by decide +kernel)
set_option maxRecDepth 20000 in
theorem gL_law_X4_on : GoodIn wsL_law (wsV RL 174 RX4 yX4_on wsX4_on) := goodIn_app (goodIn_of _ (by decide +kernel)) ggL_law_X4_on
set_option maxRecDepth 20000 in
theorem ggL_law_X3_count : GoodIn wsL_law wsX3_count := goodIn_r _ [892, 15, 596, 509, 321, 25, 22, 26, 444, 339, 340, 14, 341, 44, 167, 168, 169, 170, 42, 893, 894, 895, 896, 41, 465, 466, 467, 468, 43, 37, 901, 902, 903, 904, 905, 906, 907, 908, 909, 910, 911, 928, 929, 930, 931, 932, 933, 934, 935, 936, 937, 938, 939] (by decide +kernel) (by decide +kernel)
set_option maxRecDepth 20000 in
theorem gL_law_X3_count : GoodIn wsL_law (wsV RL 175 RX3 yX3_count wsX3_count) := goodIn_app (goodIn_of _ (by decide +kernel)) ggL_law_X3_count
set_option maxRecDepth 20000 in
theorem ggL_law_X4_count : GoodIn wsL_law wsX4_count := goodIn_r _ [900, 65, 59, 824, 90, 224, 225, 5, 226, 357, 358, 359, 263, 264, 265, 256, 257, 258, 473, 474, 475, 245, 246, 247, 912, 913, 914, 915, 916, 917, 918, 919, 920, 921, 922, 923, 924, 925, 926, 927] (by decide +kernel) (by decide +kernel)
set_option maxRecDepth 20000 in
theorem gL_law_X4_count : GoodIn wsL_law (wsV RL 178 RX4 yX4_count wsX4_count) := goodIn_app (goodIn_of _ (by decide +kernel)) ggL_law_X4_count
