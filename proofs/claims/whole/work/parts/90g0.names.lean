set_option maxRecDepth 20000 in
theorem ggL_law_X7_init : GoodIn wsL_law wsX7_init := goodIn_r _ [9, 10, 11, 12, 13, 14, 15, 16, 17, 18, 19, 20, 21, 22, 23, 24, 25, 26, 27, 28, 29, 30, 31, 32, 33, 34, 35, 36, 37, 38, 39, 40, 41, 42, 43, 44, 45, 46, 47, 48, 49, 50, 51, 52, 53, 54, 55, 56, 57, 58, 59, 60, 61, 62, 63, 64, 65, 66, 67, 68, 69, 70, 71, 72, 792, 793, 794, 795, 755, 756, 757, 758, 759, 760, 761, 796, 797, 798, 799, 800, 801, 802, 803, 804, 805, 806, 807, 808, 809, 810, 811, 812, 813, 814, 815, 816, 817] rfl (by decide +kernel)
set_option maxRecDepth 20000 in
theorem gL_law_X7_init : GoodIn wsL_law (wsX7_init) := ggL_law_X7_init
set_option maxRecDepth 20000 in
theorem ggL_law_X8_init : GoodIn wsL_law wsX8_init := goodIn_r _ [75, 76, 11, 12, 38, 77, 78, 46, 79, 80, 81, 82, 83, 84, 85, 86, 87, 88, 89, 90, 91, 92, 93, 94, 95, 41, 96, 97, 98, 99, 762, 763, 764, 765, 766, 767, 768, 769, 770, 771, 772, 773, 774, 775, 776, 777, 778, 779, 780, 781, 782, 783, 784, 785, 786, 787, 788, 789, 790, 791] rfl (by decide +kernel)
set_option maxRecDepth 20000 in
theorem gL_law_X8_init : GoodIn wsL_law (wsX8_init) := ggL_law_X8_init
set_option maxRecDepth 20000 in
theorem ggL_law_X7_size : GoodIn wsL_law wsX7_size := goodIn_r _ [103, 16, 104, 105, 106, 15, 107, 108, 39, 40, 42, 109, 110, 111, 112, 113, 114, 115, 116, 117, 118, 119, 120, 121, 122, 123, 124, 755, 756, 757, 758, 759, 760, 761, 792, 793, 794, 795] rfl (by decide +kernel)
set_option maxRecDepth 20000 in
theorem gL_law_X7_size : GoodIn wsL_law (wsV RL 15 RX7 yX7_size wsX7_size) := goodIn_app (goodIn_of _ (by decide +kernel)) ggL_law_X7_size
set_option maxRecDepth 20000 in
theorem ggL_law_X8_size : GoodIn wsL_law wsX8_size := goodIn_r _ [128, 129, 130, 131, 132, 5, 133, 134, 77, 135, 136, 137, 762, 763, 764, 765, 766, 767, 768, 769, 770, 771, 772, 773, 774, 775, 776, 777, 778, 779, 780, 781, 782, 783, 784, 785, 786, 787, 788, 789, 790, 791] rfl (by decide +kernel)
set_option maxRecDepth 20000 in
theorem gL_law_X8_size : GoodIn wsL_law (wsV RL 19 RX8 yX8_size wsX8_size) := goodIn_app (goodIn_of _ (by decide +kernel)) ggL_law_X8_size
set_option maxRecDepth 20000 in
theorem ggL_law_X7_starHeight : GoodIn wsL_law wsX7_starHeight := goodIn_r _ [141, 16, 104, 105, 106, 15, 107, 108, 39, 40, 42, 109, 110, 111, 112, 113, 114, 115, 116, 117, 118, 119, 120, 142, 143, 144, 145, 146, 147, 148, 149, 150, 151, 152, 153, 755, 756, 757, 758, 759, 760, 761, 792, 793, 794, 795] rfl (by decide +kernel)
set_option maxRecDepth 20000 in
theorem gL_law_X7_starHeight : GoodIn wsL_law (wsV RL 20 RX7 yX7_starHeight wsX7_starHeight) := goodIn_app (goodIn_of _ (by decide +kernel)) ggL_law_X7_starHeight
set_option maxRecDepth 20000 in
theorem ggL_law_X8_starHeight : GoodIn wsL_law wsX8_starHeight := goodIn_r _ [157, 129, 77, 78, 130, 131, 132, 5, 133, 134, 135, 136, 137, 762, 763, 764, 765, 766, 767, 768, 769, 770, 771, 772, 773, 774, 775, 776, 777, 778, 779, 780, 781, 782, 783, 784, 785, 786, 787, 788, 789, 790, 791] rfl (by decide +kernel)
set_option maxRecDepth 20000 in
theorem gL_law_X8_starHeight : GoodIn wsL_law (wsV RL 23 RX8 yX8_starHeight wsX8_starHeight) := goodIn_app (goodIn_of _ (by decide +kernel)) ggL_law_X8_starHeight
set_option maxRecDepth 20000 in
theorem ggL_law_X7_matchesEmptyWord : GoodIn wsL_law wsX7_matchesEmptyWord := goodIn_r _ [161, 16, 20, 104, 105, 106, 15, 107, 108, 39, 40, 42, 109, 110, 111, 112, 113, 114, 115, 116, 117, 118, 119, 120, 162, 163, 164, 19, 165, 50, 51, 166, 48, 47, 49, 167, 168, 169, 170, 171, 172, 122, 123, 124, 173, 174, 175, 176, 177, 178, 179, 180, 181, 182, 183, 184, 185, 186, 187, 188, 189, 190, 191, 192, 193, 194, 195, 196, 197, 198, 199, 200, 201, 202, 203, 204, 205, 206, 207, 208, 209, 210, 211, 212, 755, 756, 757, 758, 759, 760, 761, 792, 793, 794, 795, 796, 797, 798, 799, 800, 801, 802] rfl (by decide +kernel)
set_option maxRecDepth 20000 in
theorem gL_law_X7_matchesEmptyWord : GoodIn wsL_law (wsV RL 24 RX7 yX7_matchesEmptyWord wsX7_matchesEmptyWord) := goodIn_app (goodIn_of _ (by decide +kernel)) ggL_law_X7_matchesEmptyWord
set_option maxRecDepth 20000 in
theorem ggL_law_X8_matchesEmptyWord : GoodIn wsL_law wsX8_matchesEmptyWord := goodIn_r _ [216, 79, 130, 131, 132, 5, 133, 129, 134, 77, 135, 136, 137, 217, 218, 219, 220, 221, 83, 82, 86, 85, 84, 80, 81, 222, 223, 224, 225, 226, 227, 228, 229, 230, 231, 232, 233, 762, 763, 764, 765, 766, 767, 768, 769, 770, 771, 772, 773, 774, 775, 776, 777, 778, 779, 780, 781, 782, 783, 784, 785, 786, 787, 788, 789, 790, 791] rfl (by decide +kernel)
set_option maxRecDepth 20000 in
theorem gL_law_X8_matchesEmptyWord : GoodIn wsL_law (wsV RL 27 RX8 yX8_matchesEmptyWord wsX8_matchesEmptyWord) := goodIn_app (goodIn_of _ (by decide +kernel)) ggL_law_X8_matchesEmptyWord
set_option maxRecDepth 20000 in
theorem ggL_law_X7_countWords : GoodIn wsL_law wsX7_countWords := goodIn_r _ [237, 16, 20, 104, 105, 106, 15, 107, 108, 39, 40, 42, 109, 110, 111, 112, 113, 114, 115, 116, 117, 118, 119, 120, 162, 163, 164, 19, 165, 50, 51, 166, 48, 47, 49, 167, 168, 169, 170, 171, 172, 122, 123, 124, 173, 174, 175, 176, 177, 178, 179, 180, 181, 182, 183, 184, 185, 186, 187, 188, 189, 190, 191, 192, 193, 194, 195, 196, 197, 198, 199, 200, 201, 202, 203, 204, 205, 206, 207, 208, 238, 239, 240, 241, 242, 243, 244, 245, 210, 211, 212, 246, 247, 248, 249, 250, 251, 252, 253, 755, 756, 757, 758, 759, 760, 761, 792, 793, 794, 795, 796, 797, 798, 799, 800, 801, 802] rfl (by decide +kernel)
set_option maxRecDepth 20000 in
theorem gL_law_X7_countWords : GoodIn wsL_law (wsV RL 28 RX7 yX7_countWords wsX7_countWords) := goodIn_app (goodIn_of _ (by decide +kernel)) ggL_law_X7_countWords
set_option maxRecDepth 20000 in
theorem ggL_law_X8_countWords : GoodIn wsL_law wsX8_countWords := goodIn_r _ [257, 130, 131, 132, 5, 133, 129, 134, 77, 135, 136, 137, 217, 218, 219, 220, 221, 83, 82, 86, 85, 84, 79, 80, 81, 222, 223, 224, 225, 226, 227, 228, 229, 230, 231, 232, 233, 258, 259, 260, 261, 262, 263, 264, 265, 762, 763, 764, 765, 766, 767, 768, 769, 770, 771, 772, 773, 774, 775, 776, 777, 778, 779, 780, 781, 782, 783, 784, 785, 786, 787, 788, 789, 790, 791] rfl (by decide +kernel)
set_option maxRecDepth 20000 in
theorem gL_law_X8_countWords : GoodIn wsL_law (wsV RL 32 RX8 yX8_countWords wsX8_countWords) := goodIn_app (goodIn_of _ (by decide +kernel)) ggL_law_X8_countWords
set_option maxRecDepth 20000 in
theorem ggL_law_X7_differenceLength : GoodIn wsL_law wsX7_differenceLength := goodIn_r _ [269, 25, 270, 271, 272, 2, 273, 16, 20, 21, 104, 105, 106, 15, 107, 108, 39, 40, 42, 109, 110, 111, 112, 113, 114, 115, 116, 117, 118, 119, 120, 162, 163, 164, 19, 165, 50, 51, 166, 48, 47, 49, 167, 168, 169, 170, 171, 172, 122, 123, 124, 173, 174, 175, 176, 177, 178, 179, 180, 181, 182, 183, 184, 185, 186, 187, 188, 189, 190, 191, 192, 193, 194, 195, 196, 197, 198, 199, 200, 201, 202, 203, 204, 205, 206, 207, 208, 274, 275, 276, 24, 277, 55, 278, 279, 280, 281, 282, 283, 284, 56, 57, 58, 59, 285, 286, 287, 288, 289, 290, 291, 292, 293, 210, 211, 212, 294, 295, 296, 297, 298, 247, 248, 249, 299, 251, 252, 253, 300, 301, 302, 303, 304, 305, 306, 307, 755, 756, 757, 758, 759, 760, 761, 792, 793, 794, 795, 796, 797, 798, 799, 800, 801, 802, 803, 804, 805, 806, 807, 808, 809] rfl (by decide +kernel)
set_option maxRecDepth 20000 in
theorem gL_law_X7_differenceLength : GoodIn wsL_law (wsV RL 33 RX7 yX7_differenceLength wsX7_differenceLength) := goodIn_app (goodIn_of _ (by decide +kernel)) ggL_law_X7_differenceLength
set_option maxRecDepth 20000 in
theorem ggL_law_X8_differenceLength : GoodIn wsL_law wsX8_differenceLength := goodIn_r _ [311, 312, 130, 131, 132, 5, 133, 129, 134, 77, 135, 136, 137, 313, 314, 315, 316, 317, 318, 90, 217, 218, 219, 220, 221, 83, 82, 86, 85, 84, 79, 80, 81, 222, 223, 224, 225, 226, 227, 228, 229, 230, 231, 232, 233, 319, 320, 321, 322, 262, 263, 264, 265, 323, 324, 325, 326, 91, 92, 258, 259, 260, 261, 327, 328, 329, 330, 88, 762, 763, 764, 765, 766, 767, 768, 769, 770, 771, 772, 773, 774, 775, 776, 777, 778, 779, 780, 781, 782, 783, 784, 785, 786, 787, 788, 789, 790, 791] rfl (by decide +kernel)
set_option maxRecDepth 20000 in
theorem gL_law_X8_differenceLength : GoodIn wsL_law (wsV RL 37 RX8 yX8_differenceLength wsX8_differenceLength) := goodIn_app (goodIn_of _ (by decide +kernel)) ggL_law_X8_differenceLength
set_option maxRecDepth 20000 in
theorem ggL_law_X7_differenceSymbol : GoodIn wsL_law wsX7_differenceSymbol := goodIn_r _ [334, 25, 270, 271, 272, 2, 273, 16, 20, 21, 104, 105, 106, 15, 107, 108, 39, 40, 42, 109, 110, 111, 112, 113, 114, 115, 116, 117, 118, 119, 120, 162, 163, 164, 19, 165, 50, 51, 166, 48, 47, 49, 167, 168, 169, 170, 171, 172, 122, 123, 124, 173, 174, 175, 176, 177, 178, 179, 180, 181, 182, 183, 184, 185, 186, 187, 188, 189, 190, 191, 192, 193, 194, 195, 196, 197, 198, 199, 200, 201, 202, 203, 204, 205, 206, 207, 208, 274, 275, 276, 24, 277, 55, 278, 279, 280, 281, 282, 283, 284, 56, 57, 58, 59, 285, 286, 287, 288, 289, 290, 291, 292, 293, 210, 211, 212, 294, 295, 296, 297, 298, 247, 248, 249, 299, 251, 252, 253, 300, 301, 302, 303, 304, 305, 306, 307, 335, 336, 337, 338, 339, 755, 756, 757, 758, 759, 760, 761, 792, 793, 794, 795, 796, 797, 798, 799, 800, 801, 802, 803, 804, 805, 806, 807, 808, 809] rfl (by decide +kernel)
set_option maxRecDepth 20000 in
theorem gL_law_X7_differenceSymbol : GoodIn wsL_law (wsV RL 38 RX7 yX7_differenceSymbol wsX7_differenceSymbol) := goodIn_app (goodIn_of _ (by decide +kernel)) ggL_law_X7_differenceSymbol
set_option maxRecDepth 20000 in
theorem ggL_law_X8_differenceSymbol : GoodIn wsL_law wsX8_differenceSymbol := goodIn_r _ [343, 312, 92, 130, 131, 132, 5, 133, 129, 134, 77, 135, 136, 137, 313, 314, 315, 316, 317, 318, 90, 217, 218, 219, 220, 221, 83, 82, 86, 85, 84, 79, 80, 81, 222, 223, 224, 225, 226, 227, 228, 229, 230, 231, 232, 233, 319, 320, 321, 322, 262, 263, 264, 265, 323, 324, 325, 326, 91, 258, 259, 260, 261, 327, 328, 329, 330, 88, 762, 763, 764, 765, 766, 767, 768, 769, 770, 771, 772, 773, 774, 775, 776, 777, 778, 779, 780, 781, 782, 783, 784, 785, 786, 787, 788, 789, 790, 791] rfl (by decide +kernel)
set_option maxRecDepth 20000 in
theorem gL_law_X8_differenceSymbol : GoodIn wsL_law (wsV RL 42 RX8 yX8_differenceSymbol wsX8_differenceSymbol) := goodIn_app (goodIn_of _ (by decide +kernel)) ggL_law_X8_differenceSymbol
set_option maxRecDepth 20000 in
theorem ggL_law_X7_isApplicable : GoodIn wsL_law wsX7_isApplicable := goodIn_r _ [347, 16, 104, 105, 106, 15, 107, 108, 39, 40, 42, 109, 110, 111, 112, 113, 114, 115, 116, 117, 118, 119, 120, 348, 349, 2, 350, 351, 352, 353, 354, 355, 356, 357, 358, 359, 360, 361, 362, 363, 186, 187, 188, 364, 178, 179, 180, 365, 182, 183, 184, 366, 367, 368, 369, 370, 371, 372, 373, 374, 375, 376, 377, 378, 379, 380, 381, 382, 383, 384, 385, 386, 387, 388, 389, 390, 391, 392, 393, 394, 395, 396, 397, 398, 399, 400, 401, 402, 403, 404, 405, 406, 407, 408, 409, 410, 411, 412, 413, 414, 415, 416, 417, 418, 419, 420, 421, 422, 423, 424, 425, 426, 427, 428, 429, 430, 431, 432, 433, 434, 435, 436, 437, 438, 755, 756, 757, 758, 759, 760, 761, 792, 793, 794, 795] rfl (by decide +kernel)
set_option maxRecDepth 20000 in
theorem gL_law_X7_isApplicable : GoodIn wsL_law (wsV RL 43 RX7 yX7_isApplicable wsX7_isApplicable) := goodIn_app (goodIn_of _ (by decide +kernel)) ggL_law_X7_isApplicable
