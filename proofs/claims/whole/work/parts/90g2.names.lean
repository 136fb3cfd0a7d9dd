set_option maxRecDepth 20000 in
theorem ggL_law_X7_undo : GoodIn wsL_law wsX7_undo := goodIn_r _ [628, 33, 34, 629, 630, 631, 32, 632, 580, 633, 634, 635, 636, 70, 755, 756, 757, 758, 759, 760, 761, 814, 815, 816, 817] rfl (by decide +kernel)
set_option maxRecDepth 20000 in
theorem gL_law_X7_undo : GoodIn wsL_law (wsV RL 80 RX7 yX7_undo wsX7_undo) := goodIn_app (goodIn_of _ (by decide +kernel)) ggL_law_X7_undo
set_option maxRecDepth 20000 in
theorem ggL_law_X8_undo : GoodIn wsL_law wsX8_undo := goodIn_r _ [640, 585, 96, 99, 135, 136, 5, 137, 762, 763, 764, 765, 766, 767, 768, 769, 770, 771, 772, 773, 774, 775, 776, 777, 778, 779, 780, 781, 782, 783, 784, 785, 786, 787, 788, 789, 790, 791] rfl (by decide +kernel)
set_option maxRecDepth 20000 in
theorem gL_law_X8_undo : GoodIn wsL_law (wsV RL 84 RX8 yX8_undo wsX8_undo) := goodIn_app (goodIn_of _ (by decide +kernel)) ggL_law_X8_undo
set_option maxRecDepth 20000 in
theorem ggL_law_X7_stepCount : GoodIn wsL_law wsX7_stepCount := goodIn_r _ [644, 33, 629, 630, 631, 32, 632, 580, 755, 756, 757, 758, 759, 760, 761, 814, 815, 816, 817] rfl (by decide +kernel)
set_option maxRecDepth 20000 in
theorem gL_law_X7_stepCount : GoodIn wsL_law (wsV RL 85 RX7 yX7_stepCount wsX7_stepCount) := goodIn_app (goodIn_of _ (by decide +kernel)) ggL_law_X7_stepCount
set_option maxRecDepth 20000 in
theorem ggL_law_X8_stepCount : GoodIn wsL_law wsX8_stepCount := goodIn_r _ [648, 585, 762, 763, 764, 765, 766, 767, 768, 769, 770, 771, 772, 773, 774, 775, 776, 777, 778, 779, 780, 781, 782, 783, 784, 785, 786, 787, 788, 789, 790, 791] rfl (by decide +kernel)
set_option maxRecDepth 20000 in
theorem gL_law_X8_stepCount : GoodIn wsL_law (wsV RL 88 RX8 yX8_stepCount wsX8_stepCount) := goodIn_app (goodIn_of _ (by decide +kernel)) ggL_law_X8_stepCount
set_option maxRecDepth 20000 in
theorem ggL_law_X7_stepRule : GoodIn wsL_law wsX7_stepRule := goodIn_r _ [652, 33, 653, 654, 655, 32, 656, 580, 71, 755, 756, 757, 758, 759, 760, 761, 814, 815, 816, 817] rfl (by decide +kernel)
set_option maxRecDepth 20000 in
theorem gL_law_X7_stepRule : GoodIn wsL_law (wsV RL 89 RX7 yX7_stepRule wsX7_stepRule) := goodIn_app (goodIn_of _ (by decide +kernel)) ggL_law_X7_stepRule
set_option maxRecDepth 20000 in
theorem ggL_law_X8_stepRule : GoodIn wsL_law wsX8_stepRule := goodIn_r _ [660, 585, 94, 135, 136, 5, 137, 762, 763, 764, 765, 766, 767, 768, 769, 770, 771, 772, 773, 774, 775, 776, 777, 778, 779, 780, 781, 782, 783, 784, 785, 786, 787, 788, 789, 790, 791] rfl (by decide +kernel)
set_option maxRecDepth 20000 in
theorem gL_law_X8_stepRule : GoodIn wsL_law (wsV RL 92 RX8 yX8_stepRule wsX8_stepRule) := goodIn_app (goodIn_of _ (by decide +kernel)) ggL_law_X8_stepRule
set_option maxRecDepth 20000 in
theorem ggL_law_X7_stepPosition : GoodIn wsL_law wsX7_stepPosition := goodIn_r _ [664, 33, 665, 666, 667, 32, 668, 580, 72, 755, 756, 757, 758, 759, 760, 761, 814, 815, 816, 817] rfl (by decide +kernel)
set_option maxRecDepth 20000 in
theorem gL_law_X7_stepPosition : GoodIn wsL_law (wsV RL 93 RX7 yX7_stepPosition wsX7_stepPosition) := goodIn_app (goodIn_of _ (by decide +kernel)) ggL_law_X7_stepPosition
set_option maxRecDepth 20000 in
theorem ggL_law_X8_stepPosition : GoodIn wsL_law wsX8_stepPosition := goodIn_r _ [672, 585, 95, 135, 136, 5, 137, 762, 763, 764, 765, 766, 767, 768, 769, 770, 771, 772, 773, 774, 775, 776, 777, 778, 779, 780, 781, 782, 783, 784, 785, 786, 787, 788, 789, 790, 791] rfl (by decide +kernel)
set_option maxRecDepth 20000 in
theorem gL_law_X8_stepPosition : GoodIn wsL_law (wsV RL 96 RX8 yX8_stepPosition wsX8_stepPosition) := goodIn_app (goodIn_of _ (by decide +kernel)) ggL_law_X8_stepPosition
set_option maxRecDepth 20000 in
theorem ggL_law_X7_applicableCount : GoodIn wsL_law wsX7_applicableCount := goodIn_r _ [676, 16, 34, 104, 105, 106, 15, 107, 108, 39, 40, 42, 109, 110, 111, 112, 113, 114, 115, 116, 117, 118, 119, 120, 121, 122, 123, 124, 355, 356, 357, 358, 359, 360, 361, 362, 363, 186, 187, 188, 364, 178, 179, 180, 365, 182, 183, 184, 366, 367, 368, 369, 370, 371, 372, 373, 374, 375, 376, 377, 378, 379, 380, 381, 382, 383, 384, 385, 386, 387, 388, 389, 390, 391, 392, 393, 394, 395, 396, 397, 398, 399, 400, 401, 402, 403, 404, 405, 406, 407, 408, 409, 410, 411, 412, 413, 414, 415, 416, 417, 418, 419, 420, 421, 422, 423, 424, 425, 426, 427, 428, 429, 430, 431, 432, 433, 434, 435, 436, 437, 438, 755, 756, 757, 758, 759, 760, 761, 792, 793, 794, 795] rfl (by decide +kernel)
set_option maxRecDepth 20000 in
theorem gL_law_X7_applicableCount : GoodIn wsL_law (wsV RL 97 RX7 yX7_applicableCount wsX7_applicableCount) := goodIn_app (goodIn_of _ (by decide +kernel)) ggL_law_X7_applicableCount
set_option maxRecDepth 20000 in
theorem ggL_law_X8_applicableCount : GoodIn wsL_law wsX8_applicableCount := goodIn_r _ [680, 99, 129, 130, 131, 132, 5, 133, 134, 77, 135, 136, 137, 446, 447, 448, 449, 450, 451, 452, 453, 454, 455, 456, 457, 458, 459, 460, 461, 462, 93, 463, 464, 465, 466, 467, 468, 469, 470, 471, 472, 473, 474, 475, 476, 477, 478, 479, 480, 481, 482, 483, 484, 485, 486, 487, 488, 489, 490, 491, 492, 493, 494, 495, 496, 497, 498, 499, 500, 501, 502, 503, 504, 505, 506, 507, 508, 509, 510, 511, 512, 513, 514, 515, 516, 517, 518, 762, 763, 764, 765, 766, 767, 768, 769, 770, 771, 772, 773, 774, 775, 776, 777, 778, 779, 780, 781, 782, 783, 784, 785, 786, 787, 788, 789, 790, 791] rfl (by decide +kernel)
set_option maxRecDepth 20000 in
theorem gL_law_X8_applicableCount : GoodIn wsL_law (wsV RL 100 RX8 yX8_applicableCount wsX8_applicableCount) := goodIn_app (goodIn_of _ (by decide +kernel)) ggL_law_X8_applicableCount
set_option maxRecDepth 20000 in
theorem ggL_law_X7_smallest : GoodIn wsL_law wsX7_smallest := goodIn_r _ [684, 29, 34, 685, 686, 687, 688, 28, 689, 65, 66, 690, 691, 692, 693, 694, 64, 695, 105, 106, 15, 107, 108, 39, 40, 42, 109, 110, 111, 112, 113, 114, 115, 116, 117, 118, 119, 120, 696, 122, 123, 124, 697, 360, 357, 361, 362, 363, 186, 187, 188, 364, 178, 179, 180, 365, 182, 183, 184, 366, 367, 368, 369, 370, 371, 372, 373, 374, 375, 376, 377, 378, 379, 380, 381, 382, 383, 384, 385, 386, 387, 388, 389, 390, 391, 392, 393, 394, 395, 396, 397, 398, 399, 400, 401, 402, 403, 404, 405, 406, 407, 408, 409, 410, 411, 412, 413, 414, 415, 416, 417, 418, 419, 420, 421, 422, 423, 424, 425, 426, 427, 428, 429, 430, 431, 432, 433, 434, 435, 436, 437, 438, 698, 530, 531, 532, 533, 699, 700, 701, 702, 703, 704, 705, 706, 707, 708, 709, 710, 711, 755, 756, 757, 758, 759, 760, 761, 810, 811, 812, 813, 792, 793, 794, 795] rfl (by decide +kernel)
set_option maxRecDepth 20000 in
theorem gL_law_X7_smallest : GoodIn wsL_law (wsV RL 101 RX7 yX7_smallest wsX7_smallest) := goodIn_app (goodIn_of _ (by decide +kernel)) ggL_law_X7_smallest
set_option maxRecDepth 20000 in
theorem ggL_law_X8_smallest : GoodIn wsL_law wsX8_smallest := goodIn_r _ [715, 97, 716, 717, 718, 719, 720, 5, 721, 722, 99, 129, 723, 724, 725, 726, 98, 616, 126, 127, 128, 130, 131, 132, 133, 134, 77, 135, 136, 137, 727, 728, 729, 730, 446, 447, 448, 449, 450, 451, 452, 453, 454, 455, 456, 457, 458, 459, 460, 461, 462, 93, 463, 464, 465, 466, 467, 468, 469, 470, 471, 472, 473, 474, 475, 476, 477, 478, 479, 480, 481, 482, 483, 484, 485, 486, 487, 488, 489, 490, 491, 492, 493, 494, 495, 496, 497, 498, 499, 500, 501, 502, 503, 504, 505, 506, 507, 508, 509, 510, 511, 512, 513, 514, 515, 516, 517, 518, 540, 541, 542, 543, 762, 763, 764, 765, 766, 767, 768, 769, 770, 771, 772, 773, 774, 775, 776, 777, 778, 779, 780, 781, 782, 783, 784, 785, 786, 787, 788, 789, 790, 791] rfl (by decide +kernel)
set_option maxRecDepth 20000 in
theorem gL_law_X8_smallest : GoodIn wsL_law (wsV RL 104 RX8 yX8_smallest wsX8_smallest) := goodIn_app (goodIn_of _ (by decide +kernel)) ggL_law_X8_smallest
set_option maxRecDepth 20000 in
theorem ggL_law_X7_smallestDistance : GoodIn wsL_law wsX7_smallestDistance := goodIn_r _ [734, 29, 34, 686, 687, 688, 28, 689, 65, 66, 690, 691, 692, 693, 694, 64, 695, 105, 106, 15, 107, 108, 39, 40, 42, 109, 110, 111, 112, 113, 114, 115, 116, 117, 118, 119, 120, 696, 122, 123, 124, 697, 360, 357, 361, 362, 363, 186, 187, 188, 364, 178, 179, 180, 365, 182, 183, 184, 366, 367, 368, 369, 370, 371, 372, 373, 374, 375, 376, 377, 378, 379, 380, 381, 382, 383, 384, 385, 386, 387, 388, 389, 390, 391, 392, 393, 394, 395, 396, 397, 398, 399, 400, 401, 402, 403, 404, 405, 406, 407, 408, 409, 410, 411, 412, 413, 414, 415, 416, 417, 418, 419, 420, 421, 422, 423, 424, 425, 426, 427, 428, 429, 430, 431, 432, 433, 434, 435, 436, 437, 438, 698, 530, 531, 532, 533, 699, 700, 701, 702, 735, 736, 737, 738, 707, 708, 709, 710, 711, 755, 756, 757, 758, 759, 760, 761, 810, 811, 812, 813, 792, 793, 794, 795] rfl (by decide +kernel)
set_option maxRecDepth 20000 in
theorem gL_law_X7_smallestDistance : GoodIn wsL_law (wsV RL 105 RX7 yX7_smallestDistance wsX7_smallestDistance) := goodIn_app (goodIn_of _ (by decide +kernel)) ggL_law_X7_smallestDistance
set_option maxRecDepth 20000 in
theorem ggL_law_X8_smallestDistance : GoodIn wsL_law wsX8_smallestDistance := goodIn_r _ [742, 98, 716, 718, 719, 720, 5, 721, 722, 99, 129, 723, 724, 725, 726, 97, 616, 126, 127, 128, 130, 131, 132, 133, 134, 77, 135, 136, 137, 727, 728, 729, 730, 446, 447, 448, 449, 450, 451, 452, 453, 454, 455, 456, 457, 458, 459, 460, 461, 462, 93, 463, 464, 465, 466, 467, 468, 469, 470, 471, 472, 473, 474, 475, 476, 477, 478, 479, 480, 481, 482, 483, 484, 485, 486, 487, 488, 489, 490, 491, 492, 493, 494, 495, 496, 497, 498, 499, 500, 501, 502, 503, 504, 505, 506, 507, 508, 509, 510, 511, 512, 513, 514, 515, 516, 517, 518, 540, 541, 542, 543, 762, 763, 764, 765, 766, 767, 768, 769, 770, 771, 772, 773, 774, 775, 776, 777, 778, 779, 780, 781, 782, 783, 784, 785, 786, 787, 788, 789, 790, 791] rfl (by decide +kernel)
set_option maxRecDepth 20000 in
theorem gL_law_X8_smallestDistance : GoodIn wsL_law (wsV RL 108 RX8 yX8_smallestDistance wsX8_smallestDistance) := goodIn_app (goodIn_of _ (by decide +kernel)) ggL_law_X8_smallestDistance
set_option maxRecDepth 20000 in
theorem ggL_law_X7_reachableCount : GoodIn wsL_law wsX7_reachableCount := goodIn_r _ [746, 29, 34, 686, 687, 688, 28, 689, 65, 66, 690, 691, 692, 693, 694, 64, 695, 105, 106, 15, 107, 108, 39, 40, 42, 109, 110, 111, 112, 113, 114, 115, 116, 117, 118, 119, 120, 696, 122, 123, 124, 697, 360, 357, 361, 362, 363, 186, 187, 188, 364, 178, 179, 180, 365, 182, 183, 184, 366, 367, 368, 369, 370, 371, 372, 373, 374, 375, 376, 377, 378, 379, 380, 381, 382, 383, 384, 385, 386, 387, 388, 389, 390, 391, 392, 393, 394, 395, 396, 397, 398, 399, 400, 401, 402, 403, 404, 405, 406, 407, 408, 409, 410, 411, 412, 413, 414, 415, 416, 417, 418, 419, 420, 421, 422, 423, 424, 425, 426, 427, 428, 429, 430, 431, 432, 433, 434, 435, 436, 437, 438, 698, 530, 531, 532, 533, 699, 700, 701, 702, 747, 748, 749, 750, 755, 756, 757, 758, 759, 760, 761, 810, 811, 812, 813, 792, 793, 794, 795] rfl (by decide +kernel)
set_option maxRecDepth 20000 in
theorem gL_law_X7_reachableCount : GoodIn wsL_law (wsV RL 109 RX7 yX7_reachableCount wsX7_reachableCount) := goodIn_app (goodIn_of _ (by decide +kernel)) ggL_law_X7_reachableCount
