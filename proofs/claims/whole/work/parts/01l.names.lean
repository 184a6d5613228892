set_option maxRecDepth 20000 in
theorem ggL_law_X5_init : GoodIn wsL_law wsX5_init := goodIn_r _ [8, 9, 10, 11, 12, 13, 14, 15, 16, 17, 18, 19, 20, 21, 22, 23, 24, 25, 26, 27, 28, 29, 30, 31, 32, 33, 34, 35, 36, 37, 38, 39, 40, 41, 42, 43, 44, 45, 46, 47, 48, 49, 50, 51, 52, 53, 54, 55, 56, 57, 58, 59, 60, 61, 62, 63, 64, 65, 66, 67, 68, 69, 70, 71, 72, 73, 74, 75, 76, 77, 78, 79, 80, 81, 82, 83, 84, 85, 86, 87, 88, 89, 90, 91, 92, 93, 94, 95, 96, 97, 98, 99, 100, 101, 102, 103, 104, 105, 106, 107, 108, 109, 110, 111, 112, 113, 114, 115, 116, 117, 118, 119, 120, 121, 122, 123, 2, 124, 125, 126, 127, 128, 129, 130, 131, 132, 133, 134, 135, 136, 137, 138, 139, 140, 141, 142, 143, 144, 145, 146, 147, 148, 149, 150, 151, 152, 153, 154, 155, 156, 157, 158, 159, 160, 161, 162, 163, 164, 165, 166, 167, 168, 169, 170, 171, 172, 173, 174, 175, 176, 177, 178, 179, 180, 181, 182, 183, 184, 185, 186, 187, 188, 189, 190, 191, 192, 193, 194, 195, 196, 197, 198, 199, 200, 201, 806, 807, 772, 773, 774, 775, 776, 777, 778, 779, 780, 781, 808, 809, 810, 811, 812, 813, 814, 815, 816, 817, 818, 819, 820, 821, 822, 823, 824, 825, 826, 827, 828, 829, 830, 831] (by decide +kernel) (by decide +kernel)
set_option maxRecDepth 20000 in
theorem gL_law_X5_init : GoodIn wsL_law (wsX5_init) := ggL_law_X5_init
set_option maxRecDepth 20000 in
theorem ggL_law_X6_init : GoodIn wsL_law wsX6_init := goodIn_r _ [204, 205, 10, 11, 36, 206, 207, 208, 209, 210, 211, 212, 213, 214, 215, 216, 217, 218, 219, 220, 221, 222, 5, 223, 224, 225, 226, 227, 228, 229, 230, 231, 232, 233, 234, 235, 236, 237, 238, 239, 240, 241, 242, 243, 244, 245, 246, 782, 783, 784, 785, 786, 787, 788, 789, 790, 791, 792, 793, 794, 795, 796, 797, 798, 799, 800, 801, 802, 803, 804, 805] (by decide +kernel) (by decide +kernel)
set_option maxRecDepth 20000 in
theorem gL_law_X6_init : GoodIn wsL_law (wsX6_init) := ggL_law_X6_init
set_option maxRecDepth 20000 in
theorem ggL_law_X5_write : GoodIn wsL_law wsX5_write := goodIn_r _ [250, 15, 251, 252, 253, 2, 254, 116, 117, 118, 14, 119, 120, 42, 772, 773, 774, 775, 776, 777, 778, 779, 780, 781, 806, 807] (by decide +kernel) (by decide +kernel)
set_option maxRecDepth 20000 in
theorem gL_law_X5_write : GoodIn wsL_law (wsV RL 13 RX5 yX5_write wsX5_write) := goodIn_app (goodIn_of _ (by decide +kernel)) ggL_law_X5_write
set_option maxRecDepth 20000 in
theorem ggL_law_X6_write : GoodIn wsL_law wsX6_write := goodIn_r _ [258, 259, 212, 260, 261, 5, 262, 782, 783, 784, 785, 786, 787, 788, 789, 790, 791, 792, 793, 794, 795, 796, 797, 798, 799, 800, 801, 802, 803, 804, 805] (by decide +kernel) (by decide +kernel)
set_option maxRecDepth 20000 in
theorem gL_law_X6_write : GoodIn wsL_law (wsV RL 17 RX6 yX6_write wsX6_write) := goodIn_app (goodIn_of _ (by decide +kernel)) ggL_law_X6_write
set_option maxRecDepth 20000 in
theorem ggL_law_X5_wipe : GoodIn wsL_law wsX5_wipe := goodIn_r _ [266, 15, 251, 198, 199, 200, 14, 201, 120, 772, 773, 774, 775, 776, 777, 778, 779, 780, 781, 806, 807] (by decide +kernel) (by decide +kernel)
set_option maxRecDepth 20000 in
theorem gL_law_X5_wipe : GoodIn wsL_law (wsV RL 18 RX5 yX5_wipe wsX5_wipe) := goodIn_app (goodIn_of _ (by decide +kernel)) ggL_law_X5_wipe
set_option maxRecDepth 20000 in
theorem ggL_law_X6_wipe : GoodIn wsL_law wsX6_wipe := goodIn_r _ [270, 259, 782, 783, 784, 785, 786, 787, 788, 789, 790, 791, 792, 793, 794, 795, 796, 797, 798, 799, 800, 801, 802, 803, 804, 805] (by decide +kernel) (by decide +kernel)
set_option maxRecDepth 20000 in
theorem gL_law_X6_wipe : GoodIn wsL_law (wsV RL 22 RX6 yX6_wipe wsX6_wipe) := goodIn_app (goodIn_of _ (by decide +kernel)) ggL_law_X6_wipe
set_option maxRecDepth 20000 in
theorem ggL_law_X5_fault : GoodIn wsL_law wsX5_fault := goodIn_r _ [274, 20, 15, 129, 130, 131, 18, 132, 133, 134, 135, 136, 137, 138, 139, 140, 141, 142, 52, 143, 144, 145, 14, 146, 120, 42, 147, 148, 149, 150, 151, 152, 153, 154, 155, 156, 157, 158, 159, 160, 161, 162, 163, 164, 165, 166, 46, 47, 167, 168, 169, 170, 48, 49, 50, 51, 171, 172, 173, 174, 175, 176, 177, 178, 772, 773, 774, 775, 776, 777, 778, 779, 780, 781, 808, 809, 810, 811, 812, 813, 814, 815, 816, 817, 818, 819, 806, 807] (by decide +kernel) (by decide +kernel)
set_option maxRecDepth 20000 in
theorem gL_law_X5_fault : GoodIn wsL_law (wsV RL 23 RX5 yX5_fault wsX5_fault) := goodIn_app (goodIn_of _ (by decide +kernel)) ggL_law_X5_fault
set_option maxRecDepth 20000 in
theorem ggL_law_X6_fault : GoodIn wsL_law wsX6_fault := goodIn_r _ [278, 279, 259, 220, 221, 222, 5, 223, 224, 225, 218, 219, 280, 281, 282, 283, 284, 285, 286, 287, 212, 288, 289, 290, 291, 213, 292, 293, 294, 295, 296, 297, 298, 260, 261, 262, 299, 300, 301, 302, 226, 227, 228, 229, 214, 215, 303, 304, 305, 306, 230, 231, 232, 233, 216, 307, 308, 309, 310, 311, 312, 313, 314, 782, 783, 784, 785, 786, 787, 788, 789, 790, 791, 792, 793, 794, 795, 796, 797, 798, 799, 800, 801, 802, 803, 804, 805] (by decide +kernel) (by decide +kernel)
set_option maxRecDepth 20000 in
theorem gL_law_X6_fault : GoodIn wsL_law (wsV RL 26 RX6 yX6_fault wsX6_fault) := goodIn_app (goodIn_of _ (by decide +kernel)) ggL_law_X6_fault
set_option maxRecDepth 20000 in
theorem ggL_law_X5_lay : GoodIn wsL_law wsX5_lay := goodIn_r _ [124, 20, 15, 125, 19, 24, 126, 127, 29, 33, 128, 129, 130, 131, 18, 132, 133, 134, 135, 136, 137, 138, 139, 140, 141, 142, 52, 143, 144, 145, 14, 146, 120, 42, 147, 148, 149, 150, 151, 152, 153, 154, 155, 156, 157, 158, 159, 160, 161, 162, 163, 164, 165, 166, 46, 47, 167, 168, 169, 170, 48, 49, 50, 51, 171, 172, 173, 174, 175, 176, 177, 178, 179, 180, 181, 23, 182, 183, 184, 185, 186, 187, 188, 189, 190, 28, 191, 192, 193, 194, 195, 32, 196, 197, 772, 773, 774, 775, 776, 777, 778, 779, 780, 781, 808, 809, 810, 811, 812, 813, 814, 815, 816, 817, 818, 819, 806, 807, 820, 821, 822, 823, 824, 825, 826, 827, 828, 829, 830, 831] (by decide +kernel) (by decide +kernel)
set_option maxRecDepth 20000 in
theorem gL_law_X5_lay : GoodIn wsL_law (wsV RL 27 RX5 yX5_lay wsX5_lay) := goodIn_app (goodIn_of _ (by decide +kernel)) ggL_law_X5_lay
set_option maxRecDepth 20000 in
theorem ggL_law_X6_lay : GoodIn wsL_law wsX6_lay := goodIn_r _ [319, 224, 238, 320, 276, 277, 5, 278, 279, 259, 220, 221, 222, 223, 225, 218, 219, 280, 281, 282, 283, 284, 285, 286, 287, 212, 288, 289, 290, 291, 213, 292, 293, 294, 295, 296, 297, 298, 260, 261, 262, 299, 300, 301, 302, 226, 227, 228, 229, 214, 215, 303, 304, 305, 306, 230, 231, 232, 233, 216, 307, 308, 309, 310, 311, 312, 313, 314, 234, 235, 236, 237, 206, 239, 207, 240, 208, 241, 242, 243, 244, 245, 246, 782, 783, 784, 785, 786, 787, 788, 789, 790, 791, 792, 793, 794, 795, 796, 797, 798, 799, 800, 801, 802, 803, 804, 805] (by decide +kernel) (by decide +kernel)
set_option maxRecDepth 20000 in
theorem gL_law_X6_lay : GoodIn wsL_law (wsV RL 30 RX6 yX6_lay wsX6_lay) := goodIn_app (goodIn_of _ (by decide +kernel)) ggL_law_X6_lay
set_option maxRecDepth 20000 in
theorem ggL_law_X5_piece : GoodIn wsL_law wsX5_piece := goodIn_r _ [324, 19, 325, 24, 326, 327, 328, 329, 2, 330, 125, 252, 253, 254, 331, 332, 333, 23, 334, 183, 335, 336, 337, 338, 185, 184, 339, 340, 341, 18, 342, 134, 49, 46, 50, 51, 343, 344, 345, 346, 347, 348, 349, 350, 351, 352, 353, 354, 355, 356, 357, 358, 136, 772, 773, 774, 775, 776, 777, 778, 779, 780, 781, 808, 809, 810, 811, 812, 813, 814, 815, 816, 817, 818, 819, 820, 821, 822, 823, 824] (by decide +kernel) (by decide +kernel)
set_option maxRecDepth 20000 in
theorem gL_law_X5_piece : GoodIn wsL_law (wsV RL 31 RX5 yX5_piece wsX5_piece) := goodIn_app (goodIn_of _ (by decide +kernel)) ggL_law_X5_piece
set_option maxRecDepth 20000 in
theorem ggL_law_X6_piece : GoodIn wsL_law wsX6_piece := goodIn_r _ [362, 206, 208, 363, 364, 365, 5, 366, 238, 260, 261, 262, 367, 368, 369, 370, 217, 244, 245, 246, 371, 372, 373, 374, 239, 375, 376, 377, 378, 379, 380, 381, 382, 207, 383, 384, 385, 386, 387, 388, 389, 390, 391, 392, 393, 394, 395, 396, 397, 398, 240, 399, 400, 401, 782, 783, 784, 785, 786, 787, 788, 789, 790, 791, 792, 793, 794, 795, 796, 797, 798, 799, 800, 801, 802, 803, 804, 805] (by decide +kernel) (by decide +kernel)
set_option maxRecDepth 20000 in
theorem gL_law_X6_piece : GoodIn wsL_law (wsV RL 35 RX6 yX6_piece wsX6_piece) := goodIn_app (goodIn_of _ (by decide +kernel)) ggL_law_X6_piece
set_option maxRecDepth 20000 in
theorem ggL_law_X5_deed : GoodIn wsL_law wsX5_deed := goodIn_r _ [405, 19, 406, 407, 408, 409, 410, 411, 412, 2, 413, 414, 252, 253, 254, 415, 416, 417, 418, 24, 419, 420, 421, 422, 423, 125, 351, 352, 353, 354, 325, 335, 336, 337, 23, 338, 185, 184, 355, 356, 357, 18, 358, 136, 331, 332, 333, 334, 183, 339, 340, 341, 342, 134, 49, 46, 50, 51, 343, 344, 345, 346, 347, 348, 349, 350, 772, 773, 774, 775, 776, 777, 778, 779, 780, 781, 808, 809, 810, 811, 812, 813, 814, 815, 816, 817, 818, 819, 820, 821, 822, 823, 824] (by decide +kernel) (by decide +kernel)
set_option maxRecDepth 20000 in
theorem gL_law_X5_deed : GoodIn wsL_law (wsV RL 36 RX5 yX5_deed wsX5_deed) := goodIn_app (goodIn_of _ (by decide +kernel)) ggL_law_X5_deed
set_option maxRecDepth 20000 in
theorem ggL_law_X6_deed : GoodIn wsL_law wsX6_deed := goodIn_r _ [427, 207, 208, 428, 429, 430, 5, 431, 239, 260, 261, 262, 367, 368, 369, 370, 217, 244, 245, 246, 432, 433, 434, 435, 238, 395, 396, 397, 398, 240, 206, 399, 400, 401, 375, 376, 377, 378, 379, 380, 381, 382, 383, 384, 385, 386, 387, 388, 389, 390, 391, 392, 393, 394, 782, 783, 784, 785, 786, 787, 788, 789, 790, 791, 792, 793, 794, 795, 796, 797, 798, 799, 800, 801, 802, 803, 804, 805] (by decide +kernel) (by decide +kernel)
set_option maxRecDepth 20000 in
theorem gL_law_X6_deed : GoodIn wsL_law (wsV RL 39 RX6 yX6_deed wsX6_deed) := goodIn_app (goodIn_of _ (by decide +kernel)) ggL_law_X6_deed
set_option maxRecDepth 20000 in
theorem ggL_law_X5_speak : GoodIn wsL_law wsX5_speak := goodIn_r _ [439, 24, 29, 19, 327, 328, 329, 2, 330, 125, 252, 253, 254, 351, 352, 353, 354, 325, 335, 336, 337, 23, 338, 185, 184, 355, 356, 357, 18, 358, 136, 440, 441, 442, 443, 187, 186, 183, 444, 445, 446, 28, 447, 59, 448, 192, 449, 450, 451, 452, 331, 332, 333, 334, 339, 340, 341, 342, 134, 49, 46, 50, 51, 343, 344, 345, 346, 347, 348, 349, 350, 453, 454, 455, 456, 457, 458, 459, 460, 461, 462, 463, 772, 773, 774, 775, 776, 777, 778, 779, 780, 781, 808, 809, 810, 811, 812, 813, 814, 815, 816, 817, 818, 819, 820, 821, 822, 823, 824, 825, 826, 827] (by decide +kernel) (by decide +kernel)
set_option maxRecDepth 20000 in
theorem gL_law_X5_speak : GoodIn wsL_law (wsV RL 40 RX5 yX5_speak wsX5_speak) := goodIn_app (goodIn_of _ (by decide +kernel)) ggL_law_X5_speak
set_option maxRecDepth 20000 in
theorem ggL_law_X6_speak : GoodIn wsL_law wsX6_speak := goodIn_r _ [467, 208, 363, 364, 365, 5, 366, 238, 260, 261, 262, 367, 368, 369, 370, 217, 244, 245, 246, 395, 396, 397, 398, 240, 206, 399, 400, 401, 468, 469, 470, 471, 241, 209, 371, 372, 373, 374, 239, 375, 376, 377, 378, 379, 380, 381, 382, 207, 383, 384, 385, 386, 387, 388, 389, 390, 391, 392, 393, 394, 472, 473, 474, 782, 783, 784, 785, 786, 787, 788, 789, 790, 791, 792, 793, 794, 795, 796, 797, 798, 799, 800, 801, 802, 803, 804, 805] (by decide +kernel) (by decide +kernel)
set_option maxRecDepth 20000 in
theorem gL_law_X6_speak : GoodIn wsL_law (wsV RL 43 RX6 yX6_speak wsX6_speak) := goodIn_app (goodIn_of _ (by decide +kernel)) ggL_law_X6_speak
set_option maxRecDepth 20000 in
theorem ggL_law_X5_buy : GoodIn wsL_law wsX5_buy := goodIn_r _ [478, 24, 29, 19, 326, 479, 327, 328, 329, 2, 330, 125, 252, 253, 254, 480, 481, 482, 483, 335, 336, 337, 23, 338, 185, 184, 440, 441, 442, 443, 187, 186, 183, 444, 445, 446, 28, 447, 59, 448, 192, 449, 450, 451, 452, 484, 485, 486, 487, 772, 773, 774, 775, 776, 777, 778, 779, 780, 781, 808, 809, 810, 811, 812, 813, 814, 815, 816, 817, 818, 819, 820, 821, 822, 823, 824, 825, 826, 827] (by decide +kernel) (by decide +kernel)
set_option maxRecDepth 20000 in
theorem gL_law_X5_buy : GoodIn wsL_law (wsV RL 44 RX5 yX5_buy wsX5_buy) := goodIn_app (goodIn_of _ (by decide +kernel)) ggL_law_X5_buy
set_option maxRecDepth 20000 in
theorem ggL_law_X6_buy : GoodIn wsL_law wsX6_buy := goodIn_r _ [491, 208, 206, 363, 364, 365, 5, 366, 238, 260, 261, 262, 468, 469, 470, 471, 241, 209, 244, 245, 246, 782, 783, 784, 785, 786, 787, 788, 789, 790, 791, 792, 793, 794, 795, 796, 797, 798, 799, 800, 801, 802, 803, 804, 805] (by decide +kernel) (by decide +kernel)
set_option maxRecDepth 20000 in
theorem gL_law_X6_buy : GoodIn wsL_law (wsV RL 47 RX6 yX6_buy wsX6_buy) := goodIn_app (goodIn_of _ (by decide +kernel)) ggL_law_X6_buy
set_option maxRecDepth 20000 in
theorem ggL_law_X5_carry : GoodIn wsL_law wsX5_carry := goodIn_r _ [495, 24, 29, 327, 328, 329, 2, 330, 19, 125, 252, 253, 254, 331, 332, 333, 23, 334, 183, 335, 336, 337, 338, 185, 184, 440, 441, 442, 443, 187, 186, 444, 445, 446, 28, 447, 59, 448, 192, 449, 450, 451, 452, 496, 497, 498, 499, 772, 773, 774, 775, 776, 777, 778, 779, 780, 781, 808, 809, 810, 811, 812, 813, 814, 815, 816, 817, 818, 819, 820, 821, 822, 823, 824, 825, 826, 827] (by decide +kernel) (by decide +kernel)
set_option maxRecDepth 20000 in
theorem gL_law_X5_carry : GoodIn wsL_law (wsV RL 48 RX5 yX5_carry wsX5_carry) := goodIn_app (goodIn_of _ (by decide +kernel)) ggL_law_X5_carry
set_option maxRecDepth 20000 in
theorem ggL_law_X6_carry : GoodIn wsL_law wsX6_carry := goodIn_r _ [503, 208, 363, 364, 365, 5, 366, 238, 260, 261, 262, 468, 469, 470, 471, 241, 209, 244, 245, 246, 782, 783, 784, 785, 786, 787, 788, 789, 790, 791, 792, 793, 794, 795, 796, 797, 798, 799, 800, 801, 802, 803, 804, 805] (by decide +kernel) (by decide +kernel)
set_option maxRecDepth 20000 in
theorem gL_law_X6_carry : GoodIn wsL_law (wsV RL 51 RX6 yX6_carry wsX6_carry) := goodIn_app (goodIn_of _ (by decide +kernel)) ggL_law_X6_carry
set_option maxRecDepth 20000 in
theorem ggL_law_X5_undo : GoodIn wsL_law wsX5_undo := goodIn_r _ [507, 29, 508, 24, 509, 510, 511, 28, 512, 448, 192, 513, 514, 451, 515, 59, 516, 517, 518, 23, 519, 520, 183, 521, 184, 185, 186, 187, 772, 773, 774, 775, 776, 777, 778, 779, 780, 781, 825, 826, 827, 820, 821, 822, 823, 824] (by decide +kernel) (by decide +kernel)
set_option maxRecDepth 20000 in
theorem gL_law_X5_undo : GoodIn wsL_law (wsV RL 52 RX5 yX5_undo wsX5_undo) := goodIn_app (goodIn_of _ (by decide +kernel)) ggL_law_X5_undo
set_option maxRecDepth 20000 in
theorem ggL_law_X6_undo : GoodIn wsL_law wsX6_undo := goodIn_r _ [525, 241, 208, 209, 244, 245, 5, 246, 782, 783, 784, 785, 786, 787, 788, 789, 790, 791, 792, 793, 794, 795, 796, 797, 798, 799, 800, 801, 802, 803, 804, 805] (by decide +kernel) (by decide +kernel)
set_option maxRecDepth 20000 in
theorem gL_law_X6_undo : GoodIn wsL_law (wsV RL 55 RX6 yX6_undo wsX6_undo) := goodIn_app (goodIn_of _ (by decide +kernel)) ggL_law_X6_undo
set_option maxRecDepth 20000 in
theorem ggL_law_X5_hush : GoodIn wsL_law wsX5_hush := goodIn_r _ [529, 410, 411, 412, 2, 413, 19, 414, 252, 253, 254, 415, 416, 417, 418, 24, 419, 530, 531, 532, 533, 420, 421, 422, 423, 125, 351, 352, 353, 354, 325, 335, 336, 337, 23, 338, 185, 184, 355, 356, 357, 18, 358, 136, 331, 332, 333, 334, 183, 339, 340, 341, 342, 134, 49, 46, 50, 51, 343, 344, 345, 346, 347, 348, 349, 350, 534, 535, 536, 537, 133, 47, 772, 773, 774, 775, 776, 777, 778, 779, 780, 781, 808, 809, 810, 811, 812, 813, 814, 815, 816, 817, 818, 819, 820, 821, 822, 823, 824] (by decide +kernel) (by decide +kernel)
set_option maxRecDepth 20000 in
theorem gL_law_X5_hush : GoodIn wsL_law (wsV RL 56 RX5 yX5_hush wsX5_hush) := goodIn_app (goodIn_of _ (by decide +kernel)) ggL_law_X5_hush
set_option maxRecDepth 20000 in
theorem ggL_law_X6_hush : GoodIn wsL_law wsX6_hush := goodIn_r _ [541, 208, 428, 429, 430, 5, 431, 239, 260, 261, 262, 367, 368, 369, 370, 217, 244, 245, 246, 399, 400, 401, 542, 543, 544, 545, 238, 546, 547, 548, 549, 395, 396, 397, 398, 240, 206, 550, 551, 552, 553, 371, 372, 373, 374, 375, 376, 377, 378, 379, 380, 381, 382, 207, 383, 384, 385, 386, 387, 388, 389, 390, 391, 392, 393, 394, 554, 555, 556, 557, 782, 783, 784, 785, 786, 787, 788, 789, 790, 791, 792, 793, 794, 795, 796, 797, 798, 799, 800, 801, 802, 803, 804, 805] (by decide +kernel) (by decide +kernel)
set_option maxRecDepth 20000 in
theorem gL_law_X6_hush : GoodIn wsL_law (wsV RL 59 RX6 yX6_hush wsX6_hush) := goodIn_app (goodIn_of _ (by decide +kernel)) ggL_law_X6_hush
set_option maxRecDepth 20000 in
theorem ggL_law_X5_hushAll : GoodIn wsL_law wsX5_hushAll := goodIn_r _ [561, 19, 24, 419, 252, 253, 2, 254, 562, 563, 564, 18, 565, 134, 51, 530, 531, 532, 533, 420, 421, 422, 423, 125, 351, 352, 353, 354, 325, 335, 336, 337, 23, 338, 185, 184, 355, 356, 357, 358, 136, 331, 332, 333, 334, 183, 339, 340, 341, 342, 49, 46, 50, 343, 344, 345, 346, 347, 348, 349, 350, 534, 535, 536, 537, 133, 47, 772, 773, 774, 775, 776, 777, 778, 779, 780, 781, 820, 821, 822, 823, 824, 808, 809, 810, 811, 812, 813, 814, 815, 816, 817, 818, 819] (by decide +kernel) (by decide +kernel)
set_option maxRecDepth 20000 in
theorem gL_law_X5_hushAll : GoodIn wsL_law (wsV RL 60 RX5 yX5_hushAll wsX5_hushAll) := goodIn_app (goodIn_of _ (by decide +kernel)) ggL_law_X5_hushAll
set_option maxRecDepth 20000 in
theorem ggL_law_X6_hushAll : GoodIn wsL_law wsX6_hushAll := goodIn_r _ [569, 239, 208, 260, 261, 5, 262, 367, 368, 369, 370, 217, 244, 245, 246, 391, 392, 393, 394, 207, 399, 400, 401, 542, 543, 544, 545, 238, 546, 547, 548, 549, 395, 396, 397, 398, 240, 206, 550, 551, 552, 553, 371, 372, 373, 374, 375, 376, 377, 378, 379, 380, 381, 382, 383, 384, 385, 386, 387, 388, 389, 390, 554, 555, 556, 557, 782, 783, 784, 785, 786, 787, 788, 789, 790, 791, 792, 793, 794, 795, 796, 797, 798, 799, 800, 801, 802, 803, 804, 805] (by decide +kernel) (by decide +kernel)
set_option maxRecDepth 20000 in
theorem gL_law_X6_hushAll : GoodIn wsL_law (wsV RL 63 RX6 yX6_hushAll wsX6_hushAll) := goodIn_app (goodIn_of _ (by decide +kernel)) ggL_law_X6_hushAll
set_option maxRecDepth 20000 in
theorem ggL_law_X5_hushOne : GoodIn wsL_law wsX5_hushOne := goodIn_r _ [573, 19, 24, 419, 574, 575, 2, 576, 252, 253, 254, 577, 578, 579, 18, 580, 134, 48, 530, 531, 532, 533, 420, 421, 422, 423, 125, 351, 352, 353, 354, 325, 335, 336, 337, 23, 338, 185, 184, 355, 356, 357, 358, 136, 331, 332, 333, 334, 183, 339, 340, 341, 342, 49, 46, 50, 51, 343, 344, 345, 346, 347, 348, 349, 350, 534, 535, 536, 537, 133, 47, 772, 773, 774, 775, 776, 777, 778, 779, 780, 781, 820, 821, 822, 823, 824, 808, 809, 810, 811, 812, 813, 814, 815, 816, 817, 818, 819] (by decide +kernel) (by decide +kernel)
set_option maxRecDepth 20000 in
theorem gL_law_X5_hushOne : GoodIn wsL_law (wsV RL 64 RX5 yX5_hushOne wsX5_hushOne) := goodIn_app (goodIn_of _ (by decide +kernel)) ggL_law_X5_hushOne
set_option maxRecDepth 20000 in
theorem ggL_law_X6_hushOne : GoodIn wsL_law wsX6_hushOne := goodIn_r _ [584, 239, 207, 208, 260, 261, 5, 262, 367, 368, 369, 370, 217, 244, 245, 246, 399, 400, 401, 542, 543, 544, 545, 238, 546, 547, 548, 549, 395, 396, 397, 398, 240, 206, 550, 551, 552, 553, 371, 372, 373, 374, 375, 376, 377, 378, 379, 380, 381, 382, 383, 384, 385, 386, 387, 388, 389, 390, 391, 392, 393, 394, 554, 555, 556, 557, 782, 783, 784, 785, 786, 787, 788, 789, 790, 791, 792, 793, 794, 795, 796, 797, 798, 799, 800, 801, 802, 803, 804, 805] (by decide +kernel) (by decide +kernel)
set_option maxRecDepth 20000 in
theorem gL_law_X6_hushOne : GoodIn wsL_law (wsV RL 67 RX6 yX6_hushOne wsX6_hushOne) := goodIn_app (goodIn_of _ (by decide +kernel)) ggL_law_X6_hushOne
set_option maxRecDepth 20000 in
theorem ggL_law_X5_save : GoodIn wsL_law wsX5_save := goodIn_r _ [588, 19, 125, 24, 479, 252, 253, 2, 254, 589, 590, 591, 592, 37, 331, 332, 333, 23, 334, 183, 339, 340, 341, 18, 342, 134, 49, 46, 50, 51, 343, 344, 345, 346, 347, 348, 349, 350, 593, 594, 595, 596, 351, 352, 353, 354, 325, 335, 336, 337, 338, 185, 184, 355, 356, 357, 358, 136, 597, 598, 599, 600, 419, 601, 602, 603, 604, 605, 606, 607, 608, 534, 535, 536, 537, 133, 47, 772, 773, 774, 775, 776, 777, 778, 779, 780, 781, 808, 809, 810, 811, 812, 813, 814, 815, 816, 817, 818, 819, 820, 821, 822, 823, 824] (by decide +kernel) (by decide +kernel)
set_option maxRecDepth 20000 in
theorem gL_law_X5_save : GoodIn wsL_law (wsV RL 68 RX5 yX5_save wsX5_save) := goodIn_app (goodIn_of _ (by decide +kernel)) ggL_law_X5_save
set_option maxRecDepth 20000 in
theorem ggL_law_X6_save : GoodIn wsL_law wsX6_save := goodIn_r _ [612, 238, 208, 260, 261, 5, 262, 367, 368, 369, 370, 217, 244, 245, 246, 546, 547, 548, 549, 395, 396, 397, 398, 240, 206, 399, 400, 401, 554, 555, 556, 557, 550, 551, 552, 553, 371, 372, 373, 374, 239, 375, 376, 377, 378, 379, 380, 381, 382, 207, 383, 384, 385, 386, 387, 388, 389, 390, 391, 392, 393, 394, 613, 614, 615, 616, 782, 783, 784, 785, 786, 787, 788, 789, 790, 791, 792, 793, 794, 795, 796, 797, 798, 799, 800, 801, 802, 803, 804, 805] (by decide +kernel) (by decide +kernel)
set_option maxRecDepth 20000 in
theorem gL_law_X6_save : GoodIn wsL_law (wsV RL 71 RX6 yX6_save wsX6_save) := goodIn_app (goodIn_of _ (by decide +kernel)) ggL_law_X6_save
set_option maxRecDepth 20000 in
theorem ggL_law_X5_together : GoodIn wsL_law wsX5_together := goodIn_r _ [620, 19, 24, 327, 328, 329, 2, 330, 125, 252, 253, 254, 331, 332, 333, 23, 334, 183, 339, 340, 341, 18, 342, 134, 49, 46, 50, 51, 343, 344, 345, 346, 347, 348, 349, 350, 772, 773, 774, 775, 776, 777, 778, 779, 780, 781, 808, 809, 810, 811, 812, 813, 814, 815, 816, 817, 818, 819, 820, 821, 822, 823, 824] (by decide +kernel) (by decide +kernel)
set_option maxRecDepth 20000 in
theorem gL_law_X5_together : GoodIn wsL_law (wsV RL 72 RX5 yX5_together wsX5_together) := goodIn_app (goodIn_of _ (by decide +kernel)) ggL_law_X5_together
set_option maxRecDepth 20000 in
theorem ggL_law_X6_together : GoodIn wsL_law wsX6_together := goodIn_r _ [624, 363, 364, 365, 5, 366, 238, 260, 261, 262, 367, 368, 369, 370, 217, 208, 244, 245, 246, 371, 372, 373, 374, 239, 375, 376, 377, 378, 206, 379, 380, 381, 382, 207, 383, 384, 385, 386, 387, 388, 389, 390, 391, 392, 393, 394, 782, 783, 784, 785, 786, 787, 788, 789, 790, 791, 792, 793, 794, 795, 796, 797, 798, 799, 800, 801, 802, 803, 804, 805] (by decide +kernel) (by decide +kernel)
set_option maxRecDepth 20000 in
theorem gL_law_X6_together : GoodIn wsL_law (wsV RL 75 RX6 yX6_together wsX6_together) := goodIn_app (goodIn_of _ (by decide +kernel)) ggL_law_X6_together
set_option maxRecDepth 20000 in
theorem ggL_law_X5_cover : GoodIn wsL_law wsX5_cover := goodIn_r _ [628, 19, 125, 252, 253, 2, 254, 589, 590, 591, 592, 37, 24, 331, 332, 333, 23, 334, 183, 339, 340, 341, 18, 342, 134, 49, 46, 50, 51, 343, 344, 345, 346, 347, 348, 349, 350, 593, 594, 595, 596, 351, 352, 353, 354, 325, 335, 336, 337, 338, 185, 184, 355, 356, 357, 358, 136, 601, 602, 603, 604, 629, 458, 459, 460, 461, 462, 463, 772, 773, 774, 775, 776, 777, 778, 779, 780, 781, 808, 809, 810, 811, 812, 813, 814, 815, 816, 817, 818, 819, 820, 821, 822, 823, 824] (by decide +kernel) (by decide +kernel)
set_option maxRecDepth 20000 in
theorem gL_law_X5_cover : GoodIn wsL_law (wsV RL 76 RX5 yX5_cover wsX5_cover) := goodIn_app (goodIn_of _ (by decide +kernel)) ggL_law_X5_cover
set_option maxRecDepth 20000 in
theorem ggL_law_X6_cover : GoodIn wsL_law wsX6_cover := goodIn_r _ [633, 238, 260, 261, 5, 262, 367, 368, 369, 370, 217, 208, 244, 245, 246, 546, 547, 548, 549, 395, 396, 397, 398, 240, 206, 399, 400, 401, 550, 551, 552, 553, 371, 372, 373, 374, 239, 375, 376, 377, 378, 379, 380, 381, 382, 207, 383, 384, 385, 386, 387, 388, 389, 390, 391, 392, 393, 394, 472, 473, 474, 782, 783, 784, 785, 786, 787, 788, 789, 790, 791, 792, 793, 794, 795, 796, 797, 798, 799, 800, 801, 802, 803, 804, 805] (by decide +kernel) (by decide +kernel)
set_option maxRecDepth 20000 in
theorem gL_law_X6_cover : GoodIn wsL_law (wsV RL 79 RX6 yX6_cover wsX6_cover) := goodIn_app (goodIn_of _ (by decide +kernel)) ggL_law_X6_cover
set_option maxRecDepth 20000 in
theorem ggL_law_X5_safe : GoodIn wsL_law wsX5_safe := goodIn_r _ [637, 19, 125, 24, 325, 414, 252, 253, 2, 254, 331, 332, 333, 23, 334, 183, 351, 352, 353, 354, 335, 336, 337, 338, 185, 184, 355, 356, 357, 18, 358, 136, 638, 344, 345, 346, 347, 348, 349, 350, 134, 50, 49, 772, 773, 774, 775, 776, 777, 778, 779, 780, 781, 808, 809, 810, 811, 812, 813, 814, 815, 816, 817, 818, 819, 820, 821, 822, 823, 824] (by decide +kernel) (by decide +kernel)
set_option maxRecDepth 20000 in
theorem gL_law_X5_safe : GoodIn wsL_law (wsV RL 80 RX5 yX5_safe wsX5_safe) := goodIn_app (goodIn_of _ (by decide +kernel)) ggL_law_X5_safe
set_option maxRecDepth 20000 in
theorem ggL_law_X6_safe : GoodIn wsL_law wsX6_safe := goodIn_r _ [642, 207, 239, 238, 260, 261, 5, 262, 367, 368, 369, 370, 217, 208, 244, 245, 246, 395, 396, 397, 398, 240, 206, 399, 400, 401, 375, 376, 377, 378, 379, 380, 381, 382, 383, 384, 385, 386, 387, 388, 389, 390, 391, 392, 393, 394, 782, 783, 784, 785, 786, 787, 788, 789, 790, 791, 792, 793, 794, 795, 796, 797, 798, 799, 800, 801, 802, 803, 804, 805] (by decide +kernel) (by decide +kernel)
set_option maxRecDepth 20000 in
theorem gL_law_X6_safe : GoodIn wsL_law (wsV RL 83 RX6 yX6_safe wsX6_safe) := goodIn_app (goodIn_of _ (by decide +kernel)) ggL_law_X6_safe
set_option maxRecDepth 20000 in
theorem ggL_law_X5_dealer : GoodIn wsL_law wsX5_dealer := goodIn_r _ [646, 24, 419, 19, 125, 37, 589, 590, 591, 2, 592, 331, 332, 333, 23, 334, 183, 339, 340, 341, 18, 342, 134, 49, 46, 50, 51, 343, 344, 345, 346, 347, 348, 349, 350, 593, 594, 595, 596, 351, 352, 353, 354, 325, 335, 336, 337, 338, 185, 184, 355, 356, 357, 358, 136, 647, 648, 649, 650, 605, 606, 607, 608, 772, 773, 774, 775, 776, 777, 778, 779, 780, 781, 820, 821, 822, 823, 824, 808, 809, 810, 811, 812, 813, 814, 815, 816, 817, 818, 819] (by decide +kernel) (by decide +kernel)
set_option maxRecDepth 20000 in
theorem gL_law_X5_dealer : GoodIn wsL_law (wsV RL 84 RX5 yX5_dealer wsX5_dealer) := goodIn_app (goodIn_of _ (by decide +kernel)) ggL_law_X5_dealer
set_option maxRecDepth 20000 in
theorem ggL_law_X6_dealer : GoodIn wsL_law wsX6_dealer := goodIn_r _ [654, 238, 217, 367, 368, 369, 5, 370, 208, 244, 245, 246, 395, 396, 397, 398, 240, 206, 399, 400, 401, 371, 372, 373, 374, 239, 375, 376, 377, 378, 379, 380, 381, 382, 207, 383, 384, 385, 386, 387, 388, 389, 390, 391, 392, 393, 394, 613, 614, 615, 616, 782, 783, 784, 785, 786, 787, 788, 789, 790, 791, 792, 793, 794, 795, 796, 797, 798, 799, 800, 801, 802, 803, 804, 805] (by decide +kernel) (by decide +kernel)
set_option maxRecDepth 20000 in
theorem gL_law_X6_dealer : GoodIn wsL_law (wsV RL 87 RX6 yX6_dealer wsX6_dealer) := goodIn_app (goodIn_of _ (by decide +kernel)) ggL_law_X6_dealer
set_option maxRecDepth 20000 in
theorem ggL_law_X5_ruin : GoodIn wsL_law wsX5_ruin := goodIn_r _ [658, 19, 24, 419, 574, 575, 2, 576, 252, 253, 254, 577, 578, 579, 18, 580, 134, 48, 605, 606, 607, 608, 51, 772, 773, 774, 775, 776, 777, 778, 779, 780, 781, 820, 821, 822, 823, 824, 808, 809, 810, 811, 812, 813, 814, 815, 816, 817, 818, 819] (by decide +kernel) (by decide +kernel)
set_option maxRecDepth 20000 in
theorem gL_law_X5_ruin : GoodIn wsL_law (wsV RL 88 RX5 yX5_ruin wsX5_ruin) := goodIn_app (goodIn_of _ (by decide +kernel)) ggL_law_X5_ruin
set_option maxRecDepth 20000 in
theorem ggL_law_X6_ruin : GoodIn wsL_law wsX6_ruin := goodIn_r _ [662, 239, 207, 208, 260, 261, 5, 262, 399, 400, 401, 391, 392, 393, 394, 782, 783, 784, 785, 786, 787, 788, 789, 790, 791, 792, 793, 794, 795, 796, 797, 798, 799, 800, 801, 802, 803, 804, 805] (by decide +kernel) (by decide +kernel)
set_option maxRecDepth 20000 in
theorem gL_law_X6_ruin : GoodIn wsL_law (wsV RL 91 RX6 yX6_ruin wsX6_ruin) := goodIn_app (goodIn_of _ (by decide +kernel)) ggL_law_X6_ruin
set_option maxRecDepth 20000 in
theorem ggL_law_X5_seen : GoodIn wsL_law wsX5_seen := goodIn_r _ [666, 33, 667, 327, 328, 329, 2, 330, 19, 125, 252, 253, 254, 410, 411, 412, 413, 414, 668, 669, 670, 32, 671, 197, 63, 64, 66, 772, 773, 774, 775, 776, 777, 778, 779, 780, 781, 828, 829, 830, 831, 808, 809, 810, 811, 812, 813, 814, 815, 816, 817, 818, 819] (by decide +kernel) (by decide +kernel)
set_option maxRecDepth 20000 in
theorem gL_law_X5_seen : GoodIn wsL_law (wsV RL 92 RX5 yX5_seen wsX5_seen) := goodIn_app (goodIn_of _ (by decide +kernel)) ggL_law_X5_seen
set_option maxRecDepth 20000 in
theorem ggL_law_X6_seen : GoodIn wsL_law wsX6_seen := goodIn_r _ [675, 243, 211, 363, 364, 365, 5, 366, 238, 260, 261, 262, 428, 429, 430, 431, 239, 782, 783, 784, 785, 786, 787, 788, 789, 790, 791, 792, 793, 794, 795, 796, 797, 798, 799, 800, 801, 802, 803, 804, 805] (by decide +kernel) (by decide +kernel)
set_option maxRecDepth 20000 in
theorem gL_law_X6_seen : GoodIn wsL_law (wsV RL 96 RX6 yX6_seen wsX6_seen) := goodIn_app (goodIn_of _ (by decide +kernel)) ggL_law_X6_seen
set_option maxRecDepth 20000 in
theorem ggL_law_X5_forget : GoodIn wsL_law wsX5_forget := goodIn_r _ [679, 33, 667, 193, 194, 195, 32, 196, 197, 772, 773, 774, 775, 776, 777, 778, 779, 780, 781, 828, 829, 830, 831] (by decide +kernel) (by decide +kernel)
set_option maxRecDepth 20000 in
theorem gL_law_X5_forget : GoodIn wsL_law (wsV RL 97 RX5 yX5_forget wsX5_forget) := goodIn_app (goodIn_of _ (by decide +kernel)) ggL_law_X5_forget
set_option maxRecDepth 20000 in
theorem ggL_law_X6_forget : GoodIn wsL_law wsX6_forget := goodIn_r _ [683, 243, 782, 783, 784, 785, 786, 787, 788, 789, 790, 791, 792, 793, 794, 795, 796, 797, 798, 799, 800, 801, 802, 803, 804, 805] (by decide +kernel) (by decide +kernel)
set_option maxRecDepth 20000 in
theorem gL_law_X6_forget : GoodIn wsL_law (wsV RL 100 RX6 yX6_forget wsX6_forget) := goodIn_app (goodIn_of _ (by decide +kernel)) ggL_law_X6_forget
set_option maxRecDepth 20000 in
theorem ggL_law_X5_may : GoodIn wsL_law wsX5_may := goodIn_r _ [687, 410, 411, 412, 2, 413, 19, 414, 252, 253, 254, 688, 689, 690, 691, 408, 692, 693, 694, 695, 33, 667, 696, 697, 24, 325, 409, 698, 327, 328, 329, 330, 125, 331, 332, 333, 23, 334, 183, 638, 344, 345, 18, 346, 347, 348, 349, 350, 134, 50, 49, 699, 700, 701, 702, 407, 772, 773, 774, 775, 776, 777, 778, 779, 780, 781, 808, 809, 810, 811, 812, 813, 814, 815, 816, 817, 818, 819, 828, 829, 830, 831, 820, 821, 822, 823, 824] (by decide +kernel) (by decide +kernel)
set_option maxRecDepth 20000 in
theorem gL_law_X5_may : GoodIn wsL_law (wsV RL 101 RX5 yX5_may wsX5_may) := goodIn_app (goodIn_of _ (by decide +kernel)) ggL_law_X5_may
set_option maxRecDepth 20000 in
theorem ggL_law_X6_may : GoodIn wsL_law wsX6_may := goodIn_r _ [706, 207, 428, 429, 430, 5, 431, 239, 260, 261, 262, 367, 368, 369, 370, 217, 208, 244, 245, 246, 707, 708, 709, 710, 243, 211, 375, 376, 377, 378, 206, 379, 380, 381, 382, 383, 384, 385, 386, 387, 388, 389, 390, 391, 392, 393, 394, 782, 783, 784, 785, 786, 787, 788, 789, 790, 791, 792, 793, 794, 795, 796, 797, 798, 799, 800, 801, 802, 803, 804, 805] (by decide +kernel) (by decide +kernel)
set_option maxRecDepth 20000 in
theorem gL_law_X6_may : GoodIn wsL_law (wsV RL 104 RX6 yX6_may wsX6_may) := goodIn_app (goodIn_of _ (by decide +kernel)) ggL_law_X6_may
set_option maxRecDepth 20000 in
theorem ggL_law_X5_likely : GoodIn wsL_law wsX5_likely := goodIn_r _ [714, 410, 411, 412, 2, 413, 19, 414, 252, 253, 254, 415, 416, 417, 418, 24, 419, 420, 421, 422, 423, 125, 351, 352, 353, 354, 325, 335, 336, 337, 23, 338, 185, 184, 355, 356, 357, 18, 358, 136, 331, 332, 333, 334, 183, 339, 340, 341, 342, 134, 49, 46, 50, 51, 343, 344, 345, 346, 347, 348, 349, 350, 629, 458, 459, 460, 461, 462, 463, 772, 773, 774, 775, 776, 777, 778, 779, 780, 781, 808, 809, 810, 811, 812, 813, 814, 815, 816, 817, 818, 819, 820, 821, 822, 823, 824] (by decide +kernel) (by decide +kernel)
set_option maxRecDepth 20000 in
theorem gL_law_X5_likely : GoodIn wsL_law (wsV RL 105 RX5 yX5_likely wsX5_likely) := goodIn_app (goodIn_of _ (by decide +kernel)) ggL_law_X5_likely
set_option maxRecDepth 20000 in
theorem ggL_law_X6_likely : GoodIn wsL_law wsX6_likely := goodIn_r _ [718, 208, 428, 429, 430, 5, 431, 239, 260, 261, 262, 367, 368, 369, 370, 217, 244, 245, 246, 399, 400, 401, 432, 433, 434, 435, 238, 395, 396, 397, 398, 240, 206, 375, 376, 377, 378, 379, 380, 381, 382, 207, 383, 384, 385, 386, 387, 388, 389, 390, 391, 392, 393, 394, 472, 473, 474, 782, 783, 784, 785, 786, 787, 788, 789, 790, 791, 792, 793, 794, 795, 796, 797, 798, 799, 800, 801, 802, 803, 804, 805] (by decide +kernel) (by decide +kernel)
set_option maxRecDepth 20000 in
theorem gL_law_X6_likely : GoodIn wsL_law (wsV RL 108 RX6 yX6_likely wsX6_likely) := goodIn_app (goodIn_of _ (by decide +kernel)) ggL_law_X6_likely
set_option maxRecDepth 20000 in
theorem ggL_law_X5_sale : GoodIn wsL_law wsX5_sale := goodIn_r _ [722, 25, 24, 419, 479, 252, 253, 2, 254, 440, 441, 442, 23, 443, 187, 186, 185, 184, 183, 516, 517, 518, 519, 520, 521, 723, 724, 725, 726, 727, 728, 729, 730, 731, 732, 733, 19, 125, 326, 351, 352, 353, 354, 325, 335, 336, 337, 338, 355, 356, 357, 18, 358, 136, 331, 332, 333, 334, 339, 340, 341, 342, 134, 49, 46, 50, 51, 343, 344, 345, 346, 347, 348, 349, 350, 453, 454, 455, 456, 457, 458, 459, 460, 461, 462, 463, 480, 481, 482, 483, 484, 485, 486, 487, 496, 497, 498, 499, 772, 773, 774, 775, 776, 777, 778, 779, 780, 781, 820, 821, 822, 823, 824, 808, 809, 810, 811, 812, 813, 814, 815, 816, 817, 818, 819] (by decide +kernel) (by decide +kernel)
set_option maxRecDepth 20000 in
theorem gL_law_X5_sale : GoodIn wsL_law (wsV RL 109 RX5 yX5_sale wsX5_sale) := goodIn_app (goodIn_of _ (by decide +kernel)) ggL_law_X5_sale
set_option maxRecDepth 20000 in
theorem ggL_law_X6_sale : GoodIn wsL_law wsX6_sale := goodIn_r _ [737, 738, 739, 740, 741, 238, 217, 206, 260, 261, 5, 262, 367, 368, 369, 370, 208, 244, 245, 246, 395, 396, 397, 398, 240, 399, 400, 401, 371, 372, 373, 374, 239, 375, 376, 377, 378, 379, 380, 381, 382, 207, 383, 384, 385, 386, 387, 388, 389, 390, 391, 392, 393, 394, 782, 783, 784, 785, 786, 787, 788, 789, 790, 791, 792, 793, 794, 795, 796, 797, 798, 799, 800, 801, 802, 803, 804, 805] (by decide +kernel) (by decide +kernel)
set_option maxRecDepth 20000 in
theorem gL_law_X6_sale : GoodIn wsL_law (wsV RL 112 RX6 yX6_sale wsX6_sale) := goodIn_app (goodIn_of _ (by decide +kernel)) ggL_law_X6_sale
set_option maxRecDepth 20000 in
theorem ggL_law_X5_keep : GoodIn wsL_law wsX5_keep := goodIn_r _ [745, 128, 35, 24, 440, 441, 442, 23, 443, 187, 186, 185, 184, 183, 772, 773, 774, 775, 776, 777, 778, 779, 780, 781, 820, 821, 822, 823, 824] (by decide +kernel) (by decide +kernel)
set_option maxRecDepth 20000 in
theorem gL_law_X5_keep : GoodIn wsL_law (wsV RL 113 RX5 yX5_keep wsX5_keep) := goodIn_app (goodIn_of _ (by decide +kernel)) ggL_law_X5_keep
set_option maxRecDepth 20000 in
theorem ggL_law_X6_keep : GoodIn wsL_law wsX6_keep := goodIn_r _ [749, 242, 210, 208, 244, 245, 5, 246, 782, 783, 784, 785, 786, 787, 788, 789, 790, 791, 792, 793, 794, 795, 796, 797, 798, 799, 800, 801, 802, 803, 804, 805] (by decide +kernel) (by decide +kernel)
set_option maxRecDepth 20000 in
theorem gL_law_X6_keep : GoodIn wsL_law (wsV RL 116 RX6 yX6_keep wsX6_keep) := goodIn_app (goodIn_of _ (by decide +kernel)) ggL_law_X6_keep
set_option maxRecDepth 20000 in
theorem ggL_law_X5_back : GoodIn wsL_law wsX5_back := goodIn_r _ [753, 128, 24, 35, 29, 516, 517, 518, 23, 519, 520, 183, 521, 184, 185, 186, 187, 188, 189, 190, 28, 191, 192, 772, 773, 774, 775, 776, 777, 778, 779, 780, 781, 820, 821, 822, 823, 824, 825, 826, 827] (by decide +kernel) (by decide +kernel)
set_option maxRecDepth 20000 in
theorem gL_law_X5_back : GoodIn wsL_law (wsV RL 117 RX5 yX5_back wsX5_back) := goodIn_app (goodIn_of _ (by decide +kernel)) ggL_law_X5_back
set_option maxRecDepth 20000 in
theorem ggL_law_X6_back : GoodIn wsL_law wsX6_back := goodIn_r _ [757, 242, 208, 210, 241, 244, 245, 5, 246, 782, 783, 784, 785, 786, 787, 788, 789, 790, 791, 792, 793, 794, 795, 796, 797, 798, 799, 800, 801, 802, 803, 804, 805] (by decide +kernel) (by decide +kernel)
set_option maxRecDepth 20000 in
theorem gL_law_X6_back : GoodIn wsL_law (wsV RL 120 RX6 yX6_back wsX6_back) := goodIn_app (goodIn_of _ (by decide +kernel)) ggL_law_X6_back
set_option maxRecDepth 20000 in
theorem ggL_law_X5_count : GoodIn wsL_law wsX5_count := goodIn_r _ [761, 19, 125, 414, 24, 479, 762, 763, 419, 33, 667, 29, 508, 128, 15, 251, 593, 594, 595, 2, 596, 351, 352, 353, 354, 325, 335, 336, 337, 23, 338, 185, 184, 355, 356, 357, 18, 358, 136, 629, 458, 459, 460, 461, 462, 463, 772, 773, 774, 775, 776, 777, 778, 779, 780, 781, 808, 809, 810, 811, 812, 813, 814, 815, 816, 817, 818, 819, 820, 821, 822, 823, 824, 828, 829, 830, 831, 825, 826, 827, 806, 807] (by decide +kernel) (by decide +kernel)
set_option maxRecDepth 20000 in
theorem gL_law_X5_count : GoodIn wsL_law (wsV RL 121 RX5 yX5_count wsX5_count) := goodIn_app (goodIn_of _ (by decide +kernel)) ggL_law_X5_count
set_option maxRecDepth 20000 in
theorem ggL_law_X6_count : GoodIn wsL_law wsX6_count := goodIn_r _ [767, 238, 239, 208, 243, 241, 242, 259, 367, 368, 369, 5, 370, 217, 244, 245, 246, 546, 547, 548, 549, 395, 396, 397, 398, 240, 206, 399, 400, 401, 472, 473, 474, 768, 769, 770, 771, 782, 783, 784, 785, 786, 787, 788, 789, 790, 791, 792, 793, 794, 795, 796, 797, 798, 799, 800, 801, 802, 803, 804, 805] (by decide +kernel) (by decide +kernel)
set_option maxRecDepth 20000 in
theorem gL_law_X6_count : GoodIn wsL_law (wsV RL 124 RX6 yX6_count wsX6_count) := goodIn_app (goodIn_of _ (by decide +kernel)) ggL_law_X6_count
theorem dL_law_0 : decode cL_law 0 = .ok (.new 7, 3) := by decide +kernel
theorem dL_law_3 : decode cL_law 3 = .ok (.dup, 1) := by decide +kernel
theorem dL_law_4 : decode cL_law 4 = .ok (.invokespecial 9, 3) := by decide +kernel
theorem dL_law_7 : decode cL_law 7 = .ok (.astore_n 1, 1) := by decide +kernel
theorem dL_law_8 : decode cL_law 8 = .ok (.new 10, 3) := by decide +kernel
theorem dL_law_11 : decode cL_law 11 = .ok (.dup, 1) := by decide +kernel
theorem dL_law_12 : decode cL_law 12 = .ok (.invokespecial 12, 3) := by decide +kernel
theorem dL_law_15 : decode cL_law 15 = .ok (.astore_n 2, 1) := by decide +kernel
theorem dL_law_16 : decode cL_law 16 = .ok (.iconst 0, 1) := by decide +kernel
theorem dL_law_17 : decode cL_law 17 = .ok (.istore_n 3, 1) := by decide +kernel
theorem dL_law_18 : decode cL_law 18 = .ok (.iload_n 3, 1) := by decide +kernel
theorem dL_law_19 : decode cL_law 19 = .ok (.aload_n 0, 1) := by decide +kernel
theorem dL_law_20 : decode cL_law 20 = .ok (.arraylength, 1) := by decide +kernel
theorem dL_law_21 : decode cL_law 21 = .ok (.iconst 4, 1) := by decide +kernel
theorem dL_law_22 : decode cL_law 22 = .ok (.isub, 1) := by decide +kernel
theorem dL_law_23 : decode cL_law 23 = .ok (.if_icmp .gt 840, 3) := by decide +kernel
theorem dL_law_26 : decode cL_law 26 = .ok (.aload_n 0, 1) := by decide +kernel
theorem dL_law_27 : decode cL_law 27 = .ok (.iload_n 3, 1) := by decide +kernel
theorem dL_law_28 : decode cL_law 28 = .ok (.iaload, 1) := by decide +kernel
theorem dL_law_29 : decode cL_law 29 = .ok (.bipush 31, 2) := by decide +kernel
theorem dL_law_31 : decode cL_law 31 = .ok (.iand, 1) := by decide +kernel
theorem dL_law_32 : decode cL_law 32 = .ok (.tableswitch 825 0 26 #[124, 147, 160, 173, 186, 219, 252, 275, 298, 331, 344, 377, 410, 443, 466, 499, 522, 555, 578, 601, 644, 657, 690, 733, 776, 789, 802], 124) := by decide +kernel
theorem dL_law_156 : decode cL_law 156 = .ok (.aload_n 1, 1) := by decide +kernel
theorem dL_law_157 : decode cL_law 157 = .ok (.aload_n 0, 1) := by decide +kernel
theorem dL_law_158 : decode cL_law 158 = .ok (.iload_n 3, 1) := by decide +kernel
theorem dL_law_159 : decode cL_law 159 = .ok (.iconst 1, 1) := by decide +kernel
theorem dL_law_160 : decode cL_law 160 = .ok (.iadd, 1) := by decide +kernel
theorem dL_law_161 : decode cL_law 161 = .ok (.iaload, 1) := by decide +kernel
theorem dL_law_162 : decode cL_law 162 = .ok (.invokevirtual 13, 3) := by decide +kernel
theorem dL_law_165 : decode cL_law 165 = .ok (.aload_n 2, 1) := by decide +kernel
theorem dL_law_166 : decode cL_law 166 = .ok (.aload_n 0, 1) := by decide +kernel
theorem dL_law_167 : decode cL_law 167 = .ok (.iload_n 3, 1) := by decide +kernel
theorem dL_law_168 : decode cL_law 168 = .ok (.iconst 1, 1) := by decide +kernel
theorem dL_law_169 : decode cL_law 169 = .ok (.iadd, 1) := by decide +kernel
theorem dL_law_170 : decode cL_law 170 = .ok (.iaload, 1) := by decide +kernel
theorem dL_law_171 : decode cL_law 171 = .ok (.invokevirtual 17, 3) := by decide +kernel
theorem dL_law_174 : decode cL_law 174 = .ok (.if_icmp .eq 683, 3) := by decide +kernel
theorem dL_law_177 : decode cL_law 177 = .ok (.iconst 0, 1) := by decide +kernel
theorem dL_law_178 : decode cL_law 178 = .ok (.ireturn, 1) := by decide +kernel
theorem dL_law_179 : decode cL_law 179 = .ok (.aload_n 1, 1) := by decide +kernel
theorem dL_law_180 : decode cL_law 180 = .ok (.invokevirtual 18, 3) := by decide +kernel
theorem dL_law_183 : decode cL_law 183 = .ok (.aload_n 2, 1) := by decide +kernel
theorem dL_law_184 : decode cL_law 184 = .ok (.invokevirtual 22, 3) := by decide +kernel
theorem dL_law_187 : decode cL_law 187 = .ok (.if_icmp .eq 670, 3) := by decide +kernel
theorem dL_law_190 : decode cL_law 190 = .ok (.iconst 0, 1) := by decide +kernel
theorem dL_law_191 : decode cL_law 191 = .ok (.ireturn, 1) := by decide +kernel
theorem dL_law_192 : decode cL_law 192 = .ok (.aload_n 1, 1) := by decide +kernel
theorem dL_law_193 : decode cL_law 193 = .ok (.invokevirtual 23, 3) := by decide +kernel
theorem dL_law_196 : decode cL_law 196 = .ok (.aload_n 2, 1) := by decide +kernel
theorem dL_law_197 : decode cL_law 197 = .ok (.invokevirtual 26, 3) := by decide +kernel
theorem dL_law_200 : decode cL_law 200 = .ok (.if_icmp .eq 657, 3) := by decide +kernel
theorem dL_law_203 : decode cL_law 203 = .ok (.iconst 0, 1) := by decide +kernel
theorem dL_law_204 : decode cL_law 204 = .ok (.ireturn, 1) := by decide +kernel
theorem dL_law_205 : decode cL_law 205 = .ok (.aload_n 1, 1) := by decide +kernel
theorem dL_law_206 : decode cL_law 206 = .ok (.invokevirtual 27, 3) := by decide +kernel
theorem dL_law_209 : decode cL_law 209 = .ok (.aload_n 2, 1) := by decide +kernel
theorem dL_law_210 : decode cL_law 210 = .ok (.invokevirtual 30, 3) := by decide +kernel
theorem dL_law_213 : decode cL_law 213 = .ok (.if_icmp .eq 644, 3) := by decide +kernel
