theorem dJ9_min_7cf53_0 : decode cJ9_min_7cf53 0 = .ok (.iload_n 0, 1) := by decide +kernel
theorem dJ9_min_7cf53_1 : decode cJ9_min_7cf53 1 = .ok (.iload_n 1, 1) := by decide +kernel
theorem dJ9_min_7cf53_2 : decode cJ9_min_7cf53 2 = .ok (.if_icmp .gt 7, 3) := by decide +kernel
theorem dJ9_min_7cf53_5 : decode cJ9_min_7cf53 5 = .ok (.iload_n 0, 1) := by decide +kernel
theorem dJ9_min_7cf53_6 : decode cJ9_min_7cf53 6 = .ok (.goto 4, 3) := by decide +kernel
theorem dJ9_min_7cf53_9 : decode cJ9_min_7cf53 9 = .ok (.iload_n 1, 1) := by decide +kernel
theorem dJ9_min_7cf53_10 : decode cJ9_min_7cf53 10 = .ok (.ireturn, 1) := by decide +kernel
theorem dL_below_0 : decode cL_below 0 = .ok (.iload_n 0, 1) := by decide +kernel
theorem dL_below_1 : decode cL_below 1 = .ok (.ldc 7, 2) := by decide +kernel
theorem dL_below_3 : decode cL_below 3 = .ok (.iand, 1) := by decide +kernel
theorem dL_below_4 : decode cL_below 4 = .ok (.iload_n 1, 1) := by decide +kernel
theorem dL_below_5 : decode cL_below 5 = .ok (.irem, 1) := by decide +kernel
theorem dL_below_6 : decode cL_below 6 = .ok (.ireturn, 1) := by decide +kernel
theorem dL_cell_0 : decode cL_cell 0 = .ok (.iload_n 1, 1) := by decide +kernel
theorem dL_cell_1 : decode cL_cell 1 = .ok (.aload_n 0, 1) := by decide +kernel
theorem dL_cell_2 : decode cL_cell 2 = .ok (.arraylength, 1) := by decide +kernel
theorem dL_cell_3 : decode cL_cell 3 = .ok (.if_icmp .ge 9, 3) := by decide +kernel
theorem dL_cell_6 : decode cL_cell 6 = .ok (.aload_n 0, 1) := by decide +kernel
theorem dL_cell_7 : decode cL_cell 7 = .ok (.iload_n 1, 1) := by decide +kernel
theorem dL_cell_8 : decode cL_cell 8 = .ok (.iaload, 1) := by decide +kernel
theorem dL_cell_9 : decode cL_cell 9 = .ok (.goto 9, 3) := by decide +kernel
theorem dL_cell_12 : decode cL_cell 12 = .ok (.ldc 8, 2) := by decide +kernel
theorem dL_cell_14 : decode cL_cell 14 = .ok (.iload_n 1, 1) := by decide +kernel
theorem dL_cell_15 : decode cL_cell 15 = .ok (.iconst 3, 1) := by decide +kernel
theorem dL_cell_16 : decode cL_cell 16 = .ok (.iadd, 1) := by decide +kernel
theorem dL_cell_17 : decode cL_cell 17 = .ok (.imul, 1) := by decide +kernel
theorem dL_cell_18 : decode cL_cell 18 = .ok (.ireturn, 1) := by decide +kernel
set_option maxRecDepth 20000 in
theorem ggL_law_X8_init : GoodIn wsL_law wsX8_init := goodIn_r _ [5, 6, 7, 8, 9, 10, 11, 12, 13, 14, 15, 16, 17, 18, 19, 20, 21, 22, 23, 24, 25, 26, 27, 28, 29, 30, 31, 32, 33, 34, 35, 36, 37, 38, 39, 40, 41, 42, 43, 44, 45, 46, 47, 48, 49, 50, 51, 52, 53, 54, 55, 56, 57, 58, 59, 60, 61, 62, 63, 64, 65, 66, 67, 68, 69, 70, 71, 72, 73, 74, 75, 76, 77, 78, 79, 80, 81, 82, 83, 84, 85, 86, 87, 88, 89, 90, 91, 92, 93, 94, 95, 96, 97, 98, 99, 759, 760, 761, 762, 751, 752, 753, 754, 755, 756, 757, 758, 763, 764, 765, 766, 767, 768, 769, 770, 771, 772, 773, 774, 775, 776, 777, 778, 779, 780, 781, 782, 783, 784, 785, 786, 787, 788] (by decide +kernel) (by decide +kernel)
set_option maxRecDepth 20000 in
theorem gL_law_X8_init : GoodIn wsL_law (wsX8_init) := ggL_law_X8_init
set_option maxRecDepth 20000 in
theorem ggL_law_L_cell : GoodIn wsL_law wsL_cell := goodIn_r _ [103, 104] (by decide +kernel) (by decide +kernel)
set_option maxRecDepth 20000 in
theorem gL_law_L_cell : GoodIn wsL_law (va_wsS RL 12 yL_cell wsL_cell) := goodIn_app (goodIn_of _ (by decide +kernel)) ggL_law_L_cell
set_option maxRecDepth 20000 in
theorem ggL_law_L_below : GoodIn wsL_law wsL_below := goodIn_r _ [107, 108] (by decide +kernel) (by decide +kernel)
set_option maxRecDepth 20000 in
theorem gL_law_L_below : GoodIn wsL_law (va_wsS RL 18 yL_below wsL_below) := goodIn_app (goodIn_of _ (by decide +kernel)) ggL_law_L_below
set_option maxRecDepth 20000 in
theorem ggL_law_X8_point : GoodIn wsL_law wsX8_point := goodIn_ca (goodIn_ca (goodIn_r _ [112, 12, 113, 114, 2, 115, 116, 117, 118, 119, 120, 121, 122, 123, 124, 125, 126, 127, 128, 11, 129, 130, 131, 132, 133, 134, 135, 136, 137, 138, 139, 48, 140, 141, 142, 143, 144, 145, 146, 46, 751, 752, 753, 754, 755, 756, 757, 758, 759, 760, 761, 762] (by decide +kernel) (by decide +kernel)) (goodIn_sub (fun _ h => List.mem_append_left _ (List.mem_append_left _ (List.mem_append_right _ h))) (by decide +kernel))) (goodIn_sub (fun _ h => List.mem_append_left _ (List.mem_append_right _ h)) (by decide +kernel))
set_option maxRecDepth 20000 in
theorem gL_law_X8_point : GoodIn wsL_law (wsV RL 22 RX8 yX8_point wsX8_point) := goodIn_app (goodIn_of _ (by decide +kernel)) ggL_law_X8_point
set_option maxRecDepth 20000 in
theorem ggL_law_L_act : GoodIn wsL_law wsL_act := goodIn_ca (goodIn_ca (goodIn_ca (goodIn_r _ [149, 150, 151, 152, 153, 154, 155, 156, 157, 158, 159, 2, 160, 12, 161, 162, 163, 11, 164, 140, 165, 166, 167, 168, 16, 169, 170, 171, 15, 172, 173, 174, 175, 176, 177, 54, 55, 178, 179, 180, 38, 181, 182, 183, 184, 185, 186, 60, 187, 188, 189, 190, 191, 192, 193, 194, 56, 195, 196, 197, 198, 199, 200, 201, 202, 203, 105, 106, 102, 107, 108, 204, 205, 206, 207, 208, 209, 210, 211, 212, 213, 214, 215, 216, 217, 218, 219, 220, 221, 222, 223, 224, 225, 226, 227, 228, 39, 229, 230, 231, 232, 233, 234, 235, 236, 237, 238, 239, 240, 48, 141, 142, 241, 242, 243, 244, 245, 246, 247, 248, 249, 250, 251, 252, 253, 254, 255, 256, 257, 258, 259, 260, 261, 262, 263, 264, 265, 266, 267, 268, 131, 132, 133, 134, 135, 269, 270, 271, 272, 273, 274, 275, 276, 277, 278, 279, 280, 281, 282, 283, 284, 285, 286, 287, 288, 289, 290, 291, 292, 293, 294, 295, 296, 297, 298, 299, 300, 301, 302, 303, 121, 122, 123, 124, 125, 113, 114, 115, 116, 117, 118, 119, 120, 126, 127, 128, 129, 130, 304, 305, 306, 307, 136, 137, 138, 139, 143, 144, 145, 146, 46, 308, 309, 310, 311, 312, 313, 314, 315, 316, 317, 318, 319, 320, 321, 322, 323, 324, 325, 326, 327, 328, 329, 330, 331, 332, 333, 334, 335, 336, 337, 338, 339, 340, 341, 342, 343, 344, 345, 346, 347, 348, 349, 350, 351, 352, 40, 353, 354, 355, 356, 357, 358, 359, 360, 361, 362, 363, 364, 365, 366, 367, 368, 369, 370, 371, 372, 373, 374, 375, 376, 377, 378, 379, 380, 27, 381, 382, 383, 26, 384, 81, 80, 385, 386, 387, 19, 388, 389, 390, 391, 392, 393, 394, 79, 395, 396, 397, 398, 399, 400, 401, 402, 403, 404, 405, 406, 407, 408, 64, 409, 410, 411, 412, 413, 414, 415, 416, 417, 418, 419, 420, 421, 422, 423, 424, 425, 426, 427, 428, 429, 430, 431, 432, 433, 434, 435, 436, 437, 438, 439, 440, 441, 442, 443, 444, 445, 446, 447, 448, 449, 450, 451, 452, 453, 454, 455, 456, 457, 458, 459, 460, 461, 462, 23, 463, 464, 465, 22, 466, 73, 72, 467, 468, 469, 470, 471, 472, 473, 474, 475, 476, 477, 478, 479, 480, 481, 482, 483, 484, 485, 486, 487, 488, 489, 490, 491, 492, 493, 494, 495, 35, 496, 497, 498, 34, 499, 97, 98, 500, 501, 502, 503, 504, 99, 505, 506, 507, 508, 509, 510, 511, 512, 513, 514, 515, 516, 517, 518, 519, 520, 521, 522, 523, 524, 525, 526, 527, 528, 529, 530, 531, 532, 533, 534, 535, 536, 537, 538, 539, 540, 541, 542, 543, 31, 544, 545, 546, 30, 547, 90, 91, 548, 549, 550, 551, 552, 553, 554, 555, 556, 557, 558, 559, 87, 560, 561, 562, 563, 564, 86, 565, 566, 567, 568, 569, 570, 571, 572, 573, 574, 575, 576, 577, 578, 579, 580, 581, 582, 583, 584, 585, 586, 89, 587, 588, 589, 590, 591, 592, 593, 594, 595, 596, 597, 598, 599, 600, 601, 602, 603, 604, 605, 606, 607, 608, 609, 610, 611, 612, 613, 614, 615, 109, 110, 111, 112, 751, 752, 753, 754, 755, 756, 757, 758, 759, 760, 761, 762, 763, 764, 765, 766, 767, 787, 788, 776, 777, 778, 768, 769, 770, 771, 772, 773, 774, 775, 784, 785, 786, 779, 780, 781, 782, 783] (by decide +kernel) (by decide +kernel)) (goodIn_sub (fun _ h => List.mem_append_right _ h) (by decide +kernel))) (goodIn_sub (fun _ h => List.mem_append_left _ (List.mem_append_right _ h)) (by decide +kernel))) (goodIn_sub (fun _ h => List.mem_append_left _ (List.mem_append_left _ (List.mem_append_right _ h))) (by decide +kernel))
set_option maxRecDepth 20000 in
theorem gL_law_L_act : GoodIn wsL_law (va_wsS RL 26 yL_act wsL_act) := goodIn_app (goodIn_of _ (by decide +kernel)) ggL_law_L_act
set_option maxRecDepth 20000 in
theorem ggL_law_X8_digest : GoodIn wsL_law wsX8_digest := goodIn_r _ [619, 620, 12, 16, 23, 161, 162, 163, 11, 164, 140, 621, 622, 2, 623, 624, 169, 170, 171, 15, 172, 173, 174, 175, 176, 177, 54, 55, 178, 179, 180, 38, 181, 182, 183, 184, 185, 186, 60, 187, 188, 189, 190, 191, 192, 193, 194, 56, 199, 200, 201, 202, 203, 463, 464, 465, 22, 466, 73, 72, 467, 386, 387, 19, 388, 389, 468, 469, 470, 471, 472, 473, 474, 475, 476, 477, 478, 479, 480, 481, 482, 483, 406, 407, 408, 64, 141, 142, 484, 485, 486, 487, 488, 489, 490, 491, 437, 262, 263, 264, 625, 626, 627, 628, 629, 630, 631, 632, 69, 633, 215, 216, 217, 634, 635, 636, 637, 273, 274, 638, 639, 640, 641, 642, 70, 643, 644, 645, 646, 647, 648, 649, 650, 651, 600, 218, 652, 653, 654, 655, 581, 582, 656, 657, 658, 659, 329, 330, 331, 332, 46, 446, 447, 448, 449, 130, 237, 238, 239, 240, 48, 660, 661, 662, 663, 348, 664, 665, 666, 667, 668, 511, 512, 513, 514, 318, 319, 320, 669, 670, 671, 672, 673, 674, 675, 676, 677, 678, 679, 680, 681, 682, 683, 684, 685, 434, 435, 436, 686, 214, 687, 688, 689, 690, 219, 224, 691, 692, 693, 694, 695, 696, 697, 698, 699, 700, 701, 702, 27, 381, 382, 383, 26, 384, 81, 80, 385, 390, 391, 392, 393, 394, 79, 395, 396, 397, 246, 247, 248, 398, 399, 400, 250, 251, 252, 401, 402, 403, 404, 405, 409, 425, 426, 427, 428, 299, 429, 430, 431, 432, 433, 317, 363, 364, 365, 366, 367, 368, 369, 370, 353, 534, 751, 752, 753, 754, 755, 756, 757, 758, 759, 760, 761, 762, 763, 764, 765, 766, 767, 787, 788, 770, 771, 772, 773, 774, 775, 768, 769, 776, 777, 778] (by decide +kernel) (by decide +kernel)
set_option maxRecDepth 20000 in
theorem gL_law_X8_digest : GoodIn wsL_law (wsV RL 30 RX8 yX8_digest wsX8_digest) := goodIn_app (goodIn_of _ (by decide +kernel)) ggL_law_X8_digest
set_option maxRecDepth 20000 in
theorem ggL_law_L_areRingsRight : GoodIn wsL_law wsL_areRingsRight := goodIn_ca (goodIn_ca (goodIn_r _ [705, 706, 47, 707, 708, 102, 709, 150, 204, 205, 206, 2, 207, 16, 208, 209, 210, 211, 212, 213, 214, 215, 216, 15, 217, 174, 175, 176, 177, 54, 55, 178, 179, 180, 38, 181, 182, 218, 219, 220, 221, 222, 223, 224, 184, 185, 186, 60, 295, 296, 297, 298, 229, 230, 231, 232, 233, 234, 235, 236, 12, 237, 238, 239, 11, 240, 48, 141, 142, 299, 192, 193, 194, 56, 341, 342, 343, 344, 345, 346, 347, 121, 122, 123, 124, 125, 348, 330, 331, 332, 46, 710, 711, 712, 713, 23, 714, 715, 716, 22, 717, 71, 642, 70, 72, 718, 719, 720, 721, 643, 644, 645, 646, 722, 723, 724, 725, 726, 318, 319, 320, 191, 195, 196, 197, 198, 199, 200, 201, 202, 203, 165, 166, 167, 168, 169, 170, 171, 172, 173, 183, 187, 188, 189, 190, 727, 728, 729, 730, 625, 626, 627, 628, 629, 630, 631, 632, 69, 468, 469, 470, 471, 633, 634, 635, 636, 637, 273, 274, 638, 639, 640, 641, 472, 473, 474, 647, 459, 460, 461, 462, 463, 464, 465, 466, 73, 467, 386, 387, 19, 388, 389, 475, 476, 477, 478, 479, 480, 481, 482, 483, 406, 407, 408, 64, 484, 485, 486, 487, 488, 489, 490, 491, 437, 262, 263, 264, 751, 752, 753, 754, 755, 756, 757, 758, 763, 764, 765, 766, 767, 787, 788, 759, 760, 761, 762, 770, 771, 772, 773, 774, 775, 768, 769] (by decide +kernel) (by decide +kernel)) (goodIn_sub (fun _ h => List.mem_append_right _ h) (by decide +kernel))) (goodIn_sub (fun _ h => List.mem_append_left _ (List.mem_append_left _ (List.mem_append_right _ h))) (by decide +kernel))
set_option maxRecDepth 20000 in
theorem gL_law_L_areRingsRight : GoodIn wsL_law (va_wsS RL 34 yL_areRingsRight wsL_areRingsRight) := goodIn_app (goodIn_of _ (by decide +kernel)) ggL_law_L_areRingsRight
set_option maxRecDepth 20000 in
theorem ggL_law_L_isMayRight : GoodIn wsL_law wsL_isMayRight := goodIn_ca (goodIn_ca (goodIn_r _ [733, 165, 166, 167, 2, 168, 16, 169, 170, 171, 15, 172, 173, 174, 175, 176, 177, 54, 55, 178, 179, 180, 38, 181, 182, 183, 184, 185, 186, 60, 187, 188, 189, 190, 191, 192, 193, 194, 56, 734, 735, 736, 737, 121, 122, 123, 124, 125, 695, 696, 697, 698, 600, 469, 470, 471, 218, 219, 224, 699, 700, 701, 702, 27, 381, 382, 383, 26, 384, 81, 80, 385, 386, 387, 19, 388, 389, 390, 391, 392, 393, 394, 79, 395, 396, 262, 263, 264, 397, 246, 247, 248, 398, 399, 400, 250, 251, 252, 401, 402, 403, 404, 405, 406, 407, 408, 64, 141, 142, 409, 200, 201, 202, 203, 425, 426, 427, 428, 299, 429, 430, 431, 432, 433, 434, 435, 436, 437, 317, 318, 319, 320, 363, 364, 365, 366, 367, 368, 369, 370, 353, 534, 480, 481, 482, 105, 106, 102, 107, 108, 707, 708, 709, 150, 204, 205, 206, 207, 208, 209, 210, 211, 212, 213, 214, 215, 216, 217, 606, 607, 608, 609, 23, 610, 280, 281, 282, 283, 284, 285, 286, 463, 464, 465, 22, 466, 73, 72, 467, 468, 472, 473, 474, 475, 476, 477, 478, 479, 483, 484, 485, 486, 487, 488, 489, 490, 491, 611, 292, 293, 294, 220, 221, 222, 223, 522, 523, 524, 525, 229, 230, 231, 232, 233, 234, 235, 236, 12, 237, 238, 239, 11, 240, 48, 526, 527, 528, 529, 738, 739, 740, 741, 742, 743, 744, 745, 746, 747, 748, 749, 750, 329, 330, 331, 332, 46, 751, 752, 753, 754, 755, 756, 757, 758, 763, 764, 765, 766, 767, 787, 788, 776, 777, 778, 768, 769, 770, 771, 772, 773, 774, 775, 759, 760, 761, 762] (by decide +kernel) (by decide +kernel)) (goodIn_sub (fun _ h => List.mem_append_left _ (List.mem_append_left _ (List.mem_append_right _ h))) (by decide +kernel))) (goodIn_sub (fun _ h => List.mem_append_right _ h) (by decide +kernel))
set_option maxRecDepth 20000 in
theorem gL_law_L_isMayRight : GoodIn wsL_law (va_wsS RL 38 yL_isMayRight wsL_isMayRight) := goodIn_app (goodIn_of _ (by decide +kernel)) ggL_law_L_isMayRight
theorem dL_law_0 : decode cL_law 0 = .ok (.new 9, 3) := by decide +kernel
theorem dL_law_3 : decode cL_law 3 = .ok (.dup, 1) := by decide +kernel
theorem dL_law_4 : decode cL_law 4 = .ok (.invokespecial 11, 3) := by decide +kernel
theorem dL_law_7 : decode cL_law 7 = .ok (.astore_n 1, 1) := by decide +kernel
theorem dL_law_8 : decode cL_law 8 = .ok (.iconst 0, 1) := by decide +kernel
theorem dL_law_9 : decode cL_law 9 = .ok (.istore_n 2, 1) := by decide +kernel
theorem dL_law_10 : decode cL_law 10 = .ok (.iload_n 2, 1) := by decide +kernel
theorem dL_law_11 : decode cL_law 11 = .ok (.bipush 9, 2) := by decide +kernel
theorem dL_law_13 : decode cL_law 13 = .ok (.if_icmp .ge 38, 3) := by decide +kernel
theorem dL_law_16 : decode cL_law 16 = .ok (.aload_n 1, 1) := by decide +kernel
theorem dL_law_17 : decode cL_law 17 = .ok (.bipush 20, 2) := by decide +kernel
theorem dL_law_19 : decode cL_law 19 = .ok (.iload_n 2, 1) := by decide +kernel
theorem dL_law_20 : decode cL_law 20 = .ok (.iconst 3, 1) := by decide +kernel
theorem dL_law_21 : decode cL_law 21 = .ok (.irem, 1) := by decide +kernel
theorem dL_law_22 : decode cL_law 22 = .ok (.imul, 1) := by decide +kernel
theorem dL_law_23 : decode cL_law 23 = .ok (.bipush 20, 2) := by decide +kernel
theorem dL_law_25 : decode cL_law 25 = .ok (.iload_n 2, 1) := by decide +kernel
theorem dL_law_26 : decode cL_law 26 = .ok (.iconst 3, 1) := by decide +kernel
theorem dL_law_27 : decode cL_law 27 = .ok (.idiv, 1) := by decide +kernel
theorem dL_law_28 : decode cL_law 28 = .ok (.imul, 1) := by decide +kernel
theorem dL_law_29 : decode cL_law 29 = .ok (.aload_n 0, 1) := by decide +kernel
theorem dL_law_30 : decode cL_law 30 = .ok (.iconst 0, 1) := by decide +kernel
theorem dL_law_31 : decode cL_law 31 = .ok (.invokestatic 12, 3) := by decide +kernel
theorem dL_law_34 : decode cL_law 34 = .ok (.iload_n 2, 1) := by decide +kernel
theorem dL_law_35 : decode cL_law 35 = .ok (.ishr, 1) := by decide +kernel
theorem dL_law_36 : decode cL_law 36 = .ok (.bipush 9, 2) := by decide +kernel
theorem dL_law_38 : decode cL_law 38 = .ok (.invokestatic 18, 3) := by decide +kernel
theorem dL_law_41 : decode cL_law 41 = .ok (.invokevirtual 22, 3) := by decide +kernel
theorem dL_law_44 : decode cL_law 44 = .ok (.pop, 1) := by decide +kernel
theorem dL_law_45 : decode cL_law 45 = .ok (.iinc 2 1, 3) := by decide +kernel
theorem dL_law_48 : decode cL_law 48 = .ok (.goto (-38), 3) := by decide +kernel
theorem dL_law_51 : decode cL_law 51 = .ok (.iconst 0, 1) := by decide +kernel
theorem dL_law_52 : decode cL_law 52 = .ok (.istore_n 2, 1) := by decide +kernel
theorem dL_law_53 : decode cL_law 53 = .ok (.iload_n 2, 1) := by decide +kernel
theorem dL_law_54 : decode cL_law 54 = .ok (.bipush 40, 2) := by decide +kernel
theorem dL_law_56 : decode cL_law 56 = .ok (.if_icmp .ge 86, 3) := by decide +kernel
theorem dL_law_59 : decode cL_law 59 = .ok (.aload_n 1, 1) := by decide +kernel
theorem dL_law_60 : decode cL_law 60 = .ok (.aload_n 0, 1) := by decide +kernel
theorem dL_law_61 : decode cL_law 61 = .ok (.iconst 1, 1) := by decide +kernel
theorem dL_law_62 : decode cL_law 62 = .ok (.iload_n 2, 1) := by decide +kernel
theorem dL_law_63 : decode cL_law 63 = .ok (.bipush 28, 2) := by decide +kernel
theorem dL_law_65 : decode cL_law 65 = .ok (.irem, 1) := by decide +kernel
theorem dL_law_66 : decode cL_law 66 = .ok (.iadd, 1) := by decide +kernel
theorem dL_law_67 : decode cL_law 67 = .ok (.invokestatic 12, 3) := by decide +kernel
theorem dL_law_70 : decode cL_law 70 = .ok (.iload_n 2, 1) := by decide +kernel
theorem dL_law_71 : decode cL_law 71 = .ok (.bipush 28, 2) := by decide +kernel
theorem dL_law_73 : decode cL_law 73 = .ok (.idiv, 1) := by decide +kernel
theorem dL_law_74 : decode cL_law 74 = .ok (.bipush 9, 2) := by decide +kernel
theorem dL_law_76 : decode cL_law 76 = .ok (.imul, 1) := by decide +kernel
theorem dL_law_77 : decode cL_law 77 = .ok (.ishr, 1) := by decide +kernel
theorem dL_law_78 : decode cL_law 78 = .ok (.invokestatic 26, 3) := by decide +kernel
theorem dL_law_81 : decode cL_law 81 = .ok (.ifCond .ne 5, 3) := by decide +kernel
theorem dL_law_84 : decode cL_law 84 = .ok (.iconst 0, 1) := by decide +kernel
theorem dL_law_85 : decode cL_law 85 = .ok (.ireturn, 1) := by decide +kernel
theorem dL_law_86 : decode cL_law 86 = .ok (.iload_n 2, 1) := by decide +kernel
theorem dL_law_87 : decode cL_law 87 = .ok (.bipush 13, 2) := by decide +kernel
theorem dL_law_89 : decode cL_law 89 = .ok (.irem, 1) := by decide +kernel
theorem dL_law_90 : decode cL_law 90 = .ok (.bipush 12, 2) := by decide +kernel
theorem dL_law_92 : decode cL_law 92 = .ok (.if_icmp .eq 6, 3) := by decide +kernel
theorem dL_law_95 : decode cL_law 95 = .ok (.goto 41, 3) := by decide +kernel
theorem dL_law_98 : decode cL_law 98 = .ok (.aload_n 1, 1) := by decide +kernel
theorem dL_law_99 : decode cL_law 99 = .ok (.invokevirtual 30, 3) := by decide +kernel
theorem dL_law_102 : decode cL_law 102 = .ok (.lstore_n 3, 1) := by decide +kernel
theorem dL_law_103 : decode cL_law 103 = .ok (.aload_n 1, 1) := by decide +kernel
theorem dL_law_104 : decode cL_law 104 = .ok (.invokestatic 34, 3) := by decide +kernel
theorem dL_law_107 : decode cL_law 107 = .ok (.ifCond .eq 27, 3) := by decide +kernel
theorem dL_law_110 : decode cL_law 110 = .ok (.aload_n 1, 1) := by decide +kernel
theorem dL_law_111 : decode cL_law 111 = .ok (.aload_n 0, 1) := by decide +kernel
theorem dL_law_112 : decode cL_law 112 = .ok (.iload_n 2, 1) := by decide +kernel
theorem dL_law_113 : decode cL_law 113 = .ok (.bipush 28, 2) := by decide +kernel
theorem dL_law_115 : decode cL_law 115 = .ok (.irem, 1) := by decide +kernel
theorem dL_law_116 : decode cL_law 116 = .ok (.invokestatic 12, 3) := by decide +kernel
theorem dL_law_119 : decode cL_law 119 = .ok (.invokestatic 38, 3) := by decide +kernel
theorem dL_law_122 : decode cL_law 122 = .ok (.ifCond .eq 12, 3) := by decide +kernel
theorem dL_law_125 : decode cL_law 125 = .ok (.aload_n 1, 1) := by decide +kernel
theorem dL_law_126 : decode cL_law 126 = .ok (.invokevirtual 30, 3) := by decide +kernel
theorem dL_law_129 : decode cL_law 129 = .ok (.lload_n 3, 1) := by decide +kernel
theorem dL_law_130 : decode cL_law 130 = .ok (.lcmp, 1) := by decide +kernel
theorem dL_law_131 : decode cL_law 131 = .ok (.ifCond .eq 5, 3) := by decide +kernel
theorem dL_law_134 : decode cL_law 134 = .ok (.iconst 0, 1) := by decide +kernel
theorem dL_law_135 : decode cL_law 135 = .ok (.ireturn, 1) := by decide +kernel
theorem dL_law_136 : decode cL_law 136 = .ok (.iinc 2 1, 3) := by decide +kernel
theorem dL_law_139 : decode cL_law 139 = .ok (.goto (-86), 3) := by decide +kernel
theorem dL_law_142 : decode cL_law 142 = .ok (.iconst 1, 1) := by decide +kernel
theorem dL_law_143 : decode cL_law 143 = .ok (.ireturn, 1) := by decide +kernel
set_option maxRecDepth 20000 in
theorem ggL_act_X8_points : GoodIn wsL_act wsX8_points := goodIn_r _ [12, 13, 14, 15, 16, 17, 18, 19, 547, 548, 549, 550, 551, 552, 553, 554, 555, 556, 557, 558] (by decide +kernel) (by decide +kernel)
set_option maxRecDepth 20000 in
theorem gL_act_X8_points : GoodIn wsL_act (wsV RL 41 RX8 yX8_points wsX8_points) := goodIn_app (goodIn_of _ (by decide +kernel)) ggL_act_X8_points
set_option maxRecDepth 20000 in
theorem ggL_act_X8_edges : GoodIn wsL_act wsX8_edges := goodIn_r _ [23, 24, 25, 26, 27, 28, 29, 30, 31, 32, 33, 34, 35, 36, 37, 38, 39, 40, 41, 42, 43, 44, 45, 46, 47, 48, 49, 50, 51, 52, 53, 54, 55, 56, 547, 548, 549, 550, 551, 552, 553, 554, 559, 560, 561, 562, 563, 564, 565] (by decide +kernel) (by decide +kernel)
set_option maxRecDepth 20000 in
theorem gL_act_X8_edges : GoodIn wsL_act (wsV RL 45 RX8 yX8_edges wsX8_edges) := goodIn_app (goodIn_of _ (by decide +kernel)) ggL_act_X8_edges
set_option maxRecDepth 20000 in
theorem ggL_act_X8_faces : GoodIn wsL_act wsX8_faces := goodIn_r _ [60, 24, 61, 62, 63, 28, 64, 65, 547, 548, 549, 550, 551, 552, 553, 554, 559, 560, 561, 562, 563] (by decide +kernel) (by decide +kernel)
set_option maxRecDepth 20000 in
theorem gL_act_X8_faces : GoodIn wsL_act (wsV RL 48 RX8 yX8_faces wsX8_faces) := goodIn_app (goodIn_of _ (by decide +kernel)) ggL_act_X8_faces
set_option maxRecDepth 20000 in
theorem ggL_act_L_below : GoodIn wsL_act wsL_below := goodIn_r _ [69, 70] (by decide +kernel) (by decide +kernel)
set_option maxRecDepth 20000 in
theorem gL_act_L_below : GoodIn wsL_act (va_wsS RL 18 yL_below wsL_below) := goodIn_app (goodIn_of _ (by decide +kernel)) ggL_act_L_below
set_option maxRecDepth 20000 in
theorem ggL_act_X8_size : GoodIn wsL_act wsX8_size := goodIn_ca (goodIn_r _ [74, 24, 75, 76, 77, 11, 78, 79, 80, 81, 82, 83, 28, 84, 31, 32, 33, 34, 35, 36, 37, 38, 39, 40, 41, 42, 85, 86, 547, 548, 549, 550, 551, 552, 553, 554, 559, 560, 561, 562, 563, 564, 565] (by decide +kernel) (by decide +kernel)) (goodIn_sub (fun _ h => List.mem_cons_of_mem _ (List.mem_append_left _ (List.mem_append_left _ (List.mem_append_right _ h)))) (by decide +kernel))
set_option maxRecDepth 20000 in
theorem gL_act_X8_size : GoodIn wsL_act (wsV RL 51 RX8 yX8_size wsX8_size) := goodIn_app (goodIn_of _ (by decide +kernel)) ggL_act_X8_size
set_option maxRecDepth 20000 in
theorem ggL_act_X8_corner : GoodIn wsL_act wsX8_corner := goodIn_ca (goodIn_r _ [90, 79, 80, 24, 75, 76, 77, 11, 78, 81, 82, 83, 28, 84, 31, 32, 33, 34, 35, 36, 37, 38, 39, 40, 41, 42, 85, 86, 91, 44, 45, 46, 47, 547, 548, 549, 550, 551, 552, 553, 554, 559, 560, 561, 562, 563, 564, 565] (by decide +kernel) (by decide +kernel)) (goodIn_sub (fun _ h => List.mem_cons_of_mem _ (List.mem_append_left _ (List.mem_append_left _ (List.mem_append_right _ h)))) (by decide +kernel))
set_option maxRecDepth 20000 in
theorem gL_act_X8_corner : GoodIn wsL_act (wsV RL 55 RX8 yX8_corner wsX8_corner) := goodIn_app (goodIn_of _ (by decide +kernel)) ggL_act_X8_corner
set_option maxRecDepth 20000 in
theorem ggL_act_X8_face : GoodIn wsL_act wsX8_face := goodIn_ca (goodIn_ca (goodIn_r _ [95, 96, 24, 97, 98, 99, 11, 100, 101, 102, 103, 104, 79, 80, 13, 105, 106, 107, 17, 108, 109, 110, 111, 112, 113, 114, 40, 115, 116, 117, 118, 119, 42, 120, 121, 122, 123, 47, 124, 125, 126, 28, 127, 30, 128, 129, 130, 131, 132, 133, 134, 135, 136, 137, 138, 139, 37, 38, 39, 41, 43, 44, 45, 46, 52, 53, 54, 55, 56, 140, 141, 142, 143, 144, 145, 146, 147, 148, 65, 149, 150, 151, 152, 153, 154, 155, 156, 157, 158, 31, 32, 33, 34, 35, 36, 159, 160, 161, 162, 163, 164, 165, 166, 167, 168, 169, 170, 547, 548, 549, 550, 551, 552, 553, 554, 555, 556, 557, 558, 564, 565, 559, 560, 561, 562, 563] (by decide +kernel) (by decide +kernel)) (goodIn_sub (fun _ h => List.mem_cons_of_mem _ (List.mem_append_left _ (List.mem_append_left _ (List.mem_append_right _ h)))) (by decide +kernel))) (goodIn_sub (fun _ h => List.mem_cons_of_mem _ (List.mem_append_left _ (List.mem_append_right _ h))) (by decide +kernel))
set_option maxRecDepth 20000 in
theorem gL_act_X8_face : GoodIn wsL_act (wsV RL 60 RX8 yX8_face wsX8_face) := goodIn_app (goodIn_of _ (by decide +kernel)) ggL_act_X8_face
set_option maxRecDepth 20000 in
theorem ggL_act_X8_faceOf : GoodIn wsL_act wsX8_faceOf := goodIn_ca (goodIn_r _ [174, 24, 97, 98, 99, 11, 100, 101, 102, 103, 104, 79, 80, 13, 105, 106, 107, 17, 108, 109, 110, 111, 175, 53, 54, 28, 55, 56, 547, 548, 549, 550, 551, 552, 553, 554, 555, 556, 557, 558, 559, 560, 561, 562, 563] (by decide +kernel) (by decide +kernel)) (goodIn_sub (fun _ h => List.mem_cons_of_mem _ (List.mem_append_left _ (List.mem_append_left _ (List.mem_append_right _ h)))) (by decide +kernel))
set_option maxRecDepth 20000 in
theorem gL_act_X8_faceOf : GoodIn wsL_act (wsV RL 64 RX8 yX8_faceOf wsX8_faceOf) := goodIn_app (goodIn_of _ (by decide +kernel)) ggL_act_X8_faceOf
set_option maxRecDepth 20000 in
theorem ggL_act_X8_box : GoodIn wsL_act wsX8_box := goodIn_ca (goodIn_ca (goodIn_r _ [179, 13, 24, 180, 181, 11, 182, 183, 184, 185, 186, 187, 188, 189, 190, 191, 192, 193, 194, 195, 17, 196, 197, 124, 125, 126, 28, 127, 30, 140, 141, 142, 143, 144, 198, 199, 200, 201, 202, 203, 204, 205, 109, 19, 110, 111, 206, 207, 208, 209, 210, 211, 212, 213, 214, 215, 96, 112, 113, 114, 40, 115, 116, 117, 118, 119, 42, 120, 121, 122, 123, 47, 145, 146, 147, 148, 65, 149, 150, 151, 152, 153, 154, 155, 156, 157, 158, 31, 32, 33, 34, 35, 36, 37, 38, 39, 41, 43, 44, 45, 46, 52, 53, 54, 55, 56, 159, 160, 161, 162, 163, 164, 165, 166, 167, 168, 169, 170, 547, 548, 549, 550, 551, 552, 553, 554, 555, 556, 557, 558, 559, 560, 561, 562, 563, 564, 565] (by decide +kernel) (by decide +kernel)) (goodIn_sub (fun _ h => List.mem_cons_of_mem _ (List.mem_append_right _ h)) (by decide +kernel))) (goodIn_sub (fun _ h => List.mem_cons_of_mem _ (List.mem_append_left _ (List.mem_append_right _ h))) (by decide +kernel))
set_option maxRecDepth 20000 in
theorem gL_act_X8_box : GoodIn wsL_act (wsV RL 67 RX8 yX8_box wsX8_box) := goodIn_app (goodIn_of _ (by decide +kernel)) ggL_act_X8_box
set_option maxRecDepth 20000 in
theorem ggL_act_X8_split : GoodIn wsL_act wsX8_split := goodIn_ca (goodIn_ca (goodIn_ca (goodIn_r _ [219, 24, 13, 97, 98, 99, 11, 100, 101, 102, 103, 104, 79, 80, 105, 106, 107, 17, 108, 109, 110, 111, 220, 221, 222, 28, 223, 52, 53, 54, 55, 56, 180, 181, 182, 183, 184, 175, 193, 194, 195, 196, 197, 224, 225, 226, 227, 85, 32, 33, 34, 35, 36, 86, 38, 39, 40, 41, 42, 140, 141, 142, 143, 144, 228, 229, 230, 231, 232, 233, 234, 235, 210, 236, 203, 204, 205, 19, 206, 207, 208, 209, 237, 238, 239, 240, 96, 81, 82, 83, 84, 31, 37, 241, 117, 118, 119, 91, 44, 45, 46, 47, 242, 121, 122, 123, 243, 152, 153, 154, 155, 156, 157, 158, 43, 159, 160, 161, 162, 163, 164, 165, 166, 167, 168, 169, 170, 547, 548, 549, 550, 551, 552, 553, 554, 555, 556, 557, 558, 559, 560, 561, 562, 563, 564, 565] (by decide +kernel) (by decide +kernel)) (goodIn_sub (fun _ h => List.mem_cons_of_mem _ (List.mem_append_left _ (List.mem_append_left _ (List.mem_append_right _ h)))) (by decide +kernel))) (goodIn_sub (fun _ h => List.mem_cons_of_mem _ (List.mem_append_right _ h)) (by decide +kernel))) (goodIn_sub (fun _ h => List.mem_cons_of_mem _ (List.mem_append_left _ (List.mem_append_right _ h))) (by decide +kernel))
set_option maxRecDepth 20000 in
theorem gL_act_X8_split : GoodIn wsL_act (wsV RL 70 RX8 yX8_split wsX8_split) := goodIn_app (goodIn_of _ (by decide +kernel)) ggL_act_X8_split
set_option maxRecDepth 20000 in
theorem ggL_act_X8_at : GoodIn wsL_act wsX8_at := goodIn_ca (goodIn_ca (goodIn_r _ [247, 13, 101, 102, 103, 11, 104, 79, 80, 105, 106, 107, 17, 108, 109, 110, 111, 248, 249, 250, 180, 181, 182, 183, 184, 251, 233, 234, 235, 210, 547, 548, 549, 550, 551, 552, 553, 554, 555, 556, 557, 558] (by decide +kernel) (by decide +kernel)) (goodIn_sub (fun _ h => List.mem_cons_of_mem _ (List.mem_append_left _ (List.mem_append_left _ (List.mem_append_right _ h)))) (by decide +kernel))) (goodIn_sub (fun _ h => List.mem_cons_of_mem _ (List.mem_append_right _ h)) (by decide +kernel))
set_option maxRecDepth 20000 in
theorem gL_act_X8_at : GoodIn wsL_act (wsV RL 73 RX8 yX8_at wsX8_at) := goodIn_app (goodIn_of _ (by decide +kernel)) ggL_act_X8_at
set_option maxRecDepth 20000 in
theorem ggL_act_X8_cut : GoodIn wsL_act wsX8_cut := goodIn_ca (goodIn_ca (goodIn_ca (goodIn_r _ [255, 24, 96, 256, 75, 76, 77, 11, 78, 79, 80, 81, 82, 83, 28, 84, 31, 32, 33, 34, 35, 36, 37, 38, 39, 40, 41, 42, 85, 257, 133, 134, 135, 47, 180, 181, 182, 183, 184, 86, 124, 125, 126, 127, 30, 220, 221, 222, 223, 52, 53, 54, 55, 56, 140, 141, 142, 143, 144, 241, 117, 118, 119, 258, 259, 260, 261, 262, 44, 45, 46, 120, 121, 122, 123, 243, 152, 153, 154, 155, 156, 157, 158, 43, 159, 160, 161, 162, 163, 164, 165, 166, 167, 168, 169, 170, 145, 146, 147, 148, 65, 149, 150, 151, 547, 548, 549, 550, 551, 552, 553, 554, 559, 560, 561, 562, 563, 564, 565] (by decide +kernel) (by decide +kernel)) (goodIn_sub (fun _ h => List.mem_cons_of_mem _ (List.mem_append_left _ (List.mem_append_left _ (List.mem_append_right _ h)))) (by decide +kernel))) (goodIn_sub (fun _ h => List.mem_cons_of_mem _ (List.mem_append_right _ h)) (by decide +kernel))) (goodIn_sub (fun _ h => List.mem_cons_of_mem _ (List.mem_append_left _ (List.mem_append_right _ h))) (by decide +kernel))
set_option maxRecDepth 20000 in
theorem gL_act_X8_cut : GoodIn wsL_act (wsV RL 81 RX8 yX8_cut wsX8_cut) := goodIn_app (goodIn_of _ (by decide +kernel)) ggL_act_X8_cut
set_option maxRecDepth 20000 in
theorem ggL_act_X8_join : GoodIn wsL_act wsX8_join := goodIn_ca (goodIn_ca (goodIn_ca (goodIn_r _ [266, 24, 96, 97, 98, 99, 11, 100, 101, 102, 103, 104, 79, 80, 13, 105, 106, 107, 17, 108, 109, 110, 111, 267, 268, 269, 28, 270, 52, 53, 54, 55, 56, 180, 181, 182, 183, 184, 271, 272, 273, 274, 175, 85, 32, 33, 34, 35, 36, 86, 38, 39, 40, 41, 42, 91, 44, 45, 46, 47, 257, 133, 134, 135, 140, 141, 142, 143, 144, 241, 117, 118, 119, 258, 259, 260, 261, 262, 120, 121, 122, 123, 275, 276, 277, 278, 65, 279, 82, 83, 84, 31, 37, 155, 156, 157, 158, 43, 159, 160, 161, 162, 280, 243, 152, 153, 154, 163, 164, 165, 166, 167, 168, 169, 170, 547, 548, 549, 550, 551, 552, 553, 554, 555, 556, 557, 558, 559, 560, 561, 562, 563, 564, 565] (by decide +kernel) (by decide +kernel)) (goodIn_sub (fun _ h => List.mem_cons_of_mem _ (List.mem_append_left _ (List.mem_append_left _ (List.mem_append_right _ h)))) (by decide +kernel))) (goodIn_sub (fun _ h => List.mem_cons_of_mem _ (List.mem_append_right _ h)) (by decide +kernel))) (goodIn_sub (fun _ h => List.mem_cons_of_mem _ (List.mem_append_left _ (List.mem_append_right _ h))) (by decide +kernel))
set_option maxRecDepth 20000 in
theorem gL_act_X8_join : GoodIn wsL_act (wsV RL 84 RX8 yX8_join wsX8_join) := goodIn_app (goodIn_of _ (by decide +kernel)) ggL_act_X8_join
set_option maxRecDepth 20000 in
theorem ggL_act_X8_collapse : GoodIn wsL_act wsX8_collapse := goodIn_ca (goodIn_ca (goodIn_ca (goodIn_r _ [284, 24, 285, 13, 97, 98, 99, 11, 100, 101, 102, 103, 104, 79, 80, 105, 106, 107, 17, 108, 109, 110, 111, 220, 221, 222, 28, 223, 52, 53, 54, 55, 56, 180, 181, 182, 183, 184, 286, 287, 288, 289, 290, 291, 292, 293, 294, 295, 296, 297, 298, 299, 300, 301, 302, 303, 304, 305, 32, 33, 34, 35, 36, 306, 133, 134, 40, 135, 42, 47, 307, 117, 118, 119, 308, 38, 39, 41, 309, 44, 45, 46, 310, 121, 122, 123, 311, 312, 313, 314, 315, 316, 317, 318, 319, 320, 62, 63, 64, 65, 140, 141, 142, 143, 144, 321, 322, 323, 324, 325, 276, 277, 278, 279, 82, 83, 84, 31, 37, 155, 156, 157, 158, 43, 159, 160, 161, 162, 280, 326, 152, 153, 154, 163, 164, 165, 166, 167, 168, 169, 170, 327, 328, 329, 330, 19, 331, 547, 548, 549, 550, 551, 552, 553, 554, 555, 556, 557, 558, 559, 560, 561, 562, 563, 566, 567, 568, 569, 570, 564, 565] (by decide +kernel) (by decide +kernel)) (goodIn_sub (fun _ h => List.mem_cons_of_mem _ (List.mem_append_left _ (List.mem_append_left _ (List.mem_append_right _ h)))) (by decide +kernel))) (goodIn_sub (fun _ h => List.mem_cons_of_mem _ (List.mem_append_right _ h)) (by decide +kernel))) (goodIn_sub (fun _ h => List.mem_cons_of_mem _ (List.mem_append_left _ (List.mem_append_right _ h))) (by decide +kernel))
set_option maxRecDepth 20000 in
theorem gL_act_X8_collapse : GoodIn wsL_act (wsV RL 87 RX8 yX8_collapse wsX8_collapse) := goodIn_app (goodIn_of _ (by decide +kernel)) ggL_act_X8_collapse
set_option maxRecDepth 20000 in
theorem ggL_act_X8_flip : GoodIn wsL_act wsX8_flip := goodIn_ca (goodIn_ca (goodIn_ca (goodIn_r _ [335, 24, 96, 256, 97, 98, 99, 11, 100, 101, 102, 103, 104, 79, 80, 13, 105, 106, 107, 17, 108, 109, 110, 111, 336, 337, 338, 339, 175, 53, 54, 28, 55, 56, 85, 32, 33, 34, 35, 36, 86, 38, 39, 40, 41, 42, 180, 181, 182, 183, 184, 340, 341, 342, 343, 344, 345, 346, 347, 31, 348, 133, 134, 135, 47, 43, 44, 45, 46, 220, 221, 222, 223, 52, 140, 141, 142, 143, 144, 112, 113, 114, 115, 116, 117, 118, 119, 120, 121, 122, 123, 243, 152, 153, 154, 155, 156, 157, 158, 37, 159, 160, 161, 162, 163, 164, 165, 166, 167, 168, 169, 170, 547, 548, 549, 550, 551, 552, 553, 554, 555, 556, 557, 558, 559, 560, 561, 562, 563, 564, 565] (by decide +kernel) (by decide +kernel)) (goodIn_sub (fun _ h => List.mem_cons_of_mem _ (List.mem_append_left _ (List.mem_append_left _ (List.mem_append_right _ h)))) (by decide +kernel))) (goodIn_sub (fun _ h => List.mem_cons_of_mem _ (List.mem_append_right _ h)) (by decide +kernel))) (goodIn_sub (fun _ h => List.mem_cons_of_mem _ (List.mem_append_left _ (List.mem_append_right _ h))) (by decide +kernel))
set_option maxRecDepth 20000 in
theorem gL_act_X8_flip : GoodIn wsL_act (wsV RL 90 RX8 yX8_flip wsX8_flip) := goodIn_app (goodIn_of _ (by decide +kernel)) ggL_act_X8_flip
set_option maxRecDepth 20000 in
theorem ggL_act_X8_draw : GoodIn wsL_act wsX8_draw := goodIn_ca (goodIn_ca (goodIn_ca (goodIn_r _ [352, 24, 13, 256, 96, 75, 76, 77, 11, 78, 79, 80, 81, 82, 83, 28, 84, 31, 32, 33, 34, 35, 36, 37, 38, 39, 40, 41, 42, 85, 353, 354, 355, 356, 86, 91, 44, 45, 46, 47, 251, 233, 234, 17, 235, 210, 110, 111, 188, 189, 190, 191, 192, 180, 181, 182, 183, 184, 193, 194, 195, 196, 197, 124, 125, 126, 127, 30, 140, 141, 142, 143, 144, 357, 358, 359, 360, 361, 164, 165, 166, 241, 117, 118, 119, 362, 363, 364, 365, 232, 236, 203, 204, 205, 109, 19, 206, 207, 208, 209, 242, 121, 122, 123, 243, 152, 153, 154, 155, 156, 157, 158, 43, 52, 53, 54, 55, 56, 159, 160, 161, 162, 163, 167, 168, 169, 170, 366, 367, 368, 369, 112, 113, 114, 115, 116, 120, 145, 146, 147, 148, 65, 149, 150, 151, 547, 548, 549, 550, 551, 552, 553, 554, 559, 560, 561, 562, 563, 564, 565, 555, 556, 557, 558] (by decide +kernel) (by decide +kernel)) (goodIn_sub (fun _ h => List.mem_cons_of_mem _ (List.mem_append_left _ (List.mem_append_left _ (List.mem_append_right _ h)))) (by decide +kernel))) (goodIn_sub (fun _ h => List.mem_cons_of_mem _ (List.mem_append_right _ h)) (by decide +kernel))) (goodIn_sub (fun _ h => List.mem_cons_of_mem _ (List.mem_append_left _ (List.mem_append_right _ h))) (by decide +kernel))
set_option maxRecDepth 20000 in
theorem gL_act_X8_draw : GoodIn wsL_act (wsV RL 93 RX8 yX8_draw wsX8_draw) := goodIn_app (goodIn_of _ (by decide +kernel)) ggL_act_X8_draw
set_option maxRecDepth 20000 in
theorem ggL_act_X8_holes : GoodIn wsL_act wsX8_holes := goodIn_r _ [373, 374, 375, 376, 377, 378, 379, 380, 381, 382, 294, 295, 296, 297, 298, 383, 384, 385, 28, 386, 30, 387, 32, 33, 34, 35, 36, 388, 38, 39, 40, 41, 42, 389, 44, 45, 46, 47, 390, 391, 392, 393, 394, 395, 396, 397, 52, 53, 54, 55, 56, 398, 316, 317, 318, 319, 110, 11, 111, 399, 400, 401, 402, 403, 404, 405, 406, 31, 348, 133, 134, 135, 43, 547, 548, 549, 550, 551, 552, 553, 554, 571, 572, 573, 574, 575, 576, 569, 570, 559, 560, 561, 562, 563, 564, 565] (by decide +kernel) (by decide +kernel)
set_option maxRecDepth 20000 in
theorem gL_act_X8_holes : GoodIn wsL_act (wsV RL 96 RX8 yX8_holes wsX8_holes) := goodIn_app (goodIn_of _ (by decide +kernel)) ggL_act_X8_holes
set_option maxRecDepth 20000 in
theorem ggL_act_X8_smooth : GoodIn wsL_act wsX8_smooth := goodIn_r _ [410, 411, 412, 413, 414, 415, 416, 417, 418, 419, 233, 234, 17, 235, 210, 110, 11, 111, 420, 421, 422, 423, 424, 425, 395, 396, 28, 397, 52, 53, 54, 55, 56, 426, 427, 428, 429, 430, 431, 432, 433, 434, 221, 222, 223, 435, 436, 437, 438, 439, 440, 106, 107, 108, 109, 441, 207, 208, 209, 547, 548, 549, 550, 551, 552, 553, 554, 577, 578, 579, 555, 556, 557, 558, 559, 560, 561, 562, 563] (by decide +kernel) (by decide +kernel)
set_option maxRecDepth 20000 in
theorem gL_act_X8_smooth : GoodIn wsL_act (wsV RL 99 RX8 yX8_smooth wsX8_smooth) := goodIn_app (goodIn_of _ (by decide +kernel)) ggL_act_X8_smooth
set_option maxRecDepth 20000 in
theorem ggL_act_X8_hole : GoodIn wsL_act wsX8_hole := goodIn_ca (goodIn_r _ [445, 374, 97, 98, 99, 11, 100, 101, 102, 103, 104, 79, 80, 13, 105, 106, 107, 17, 108, 109, 110, 111, 446, 447, 448, 378, 449, 380, 382, 294, 295, 296, 297, 298, 390, 391, 392, 393, 381, 394, 395, 396, 28, 397, 52, 53, 54, 55, 56, 398, 316, 317, 318, 319, 399, 400, 401, 402, 403, 404, 405, 406, 31, 32, 33, 34, 35, 36, 348, 133, 134, 40, 135, 42, 47, 43, 44, 45, 46, 547, 548, 549, 550, 551, 552, 553, 554, 555, 556, 557, 558, 571, 572, 573, 574, 575, 576, 569, 570, 559, 560, 561, 562, 563, 564, 565] (by decide +kernel) (by decide +kernel)) (goodIn_sub (fun _ h => List.mem_cons_of_mem _ (List.mem_append_left _ (List.mem_append_left _ (List.mem_append_right _ h)))) (by decide +kernel))
set_option maxRecDepth 20000 in
theorem gL_act_X8_hole : GoodIn wsL_act (wsV RL 102 RX8 yX8_hole wsX8_hole) := goodIn_app (goodIn_of _ (by decide +kernel)) ggL_act_X8_hole
set_option maxRecDepth 20000 in
theorem ggL_act_X8_fill : GoodIn wsL_act wsX8_fill := goodIn_ca (goodIn_ca (goodIn_ca (goodIn_r _ [453, 24, 374, 96, 97, 98, 99, 11, 100, 101, 102, 103, 104, 79, 80, 13, 105, 106, 107, 17, 108, 109, 110, 111, 454, 395, 396, 28, 397, 52, 53, 54, 55, 56, 180, 181, 182, 183, 184, 446, 447, 448, 378, 449, 380, 382, 294, 295, 296, 297, 298, 390, 391, 392, 393, 381, 394, 398, 316, 317, 318, 319, 399, 400, 401, 402, 403, 404, 405, 406, 31, 32, 33, 34, 35, 36, 348, 133, 134, 40, 135, 42, 47, 43, 44, 45, 46, 124, 125, 126, 127, 30, 140, 141, 142, 143, 144, 455, 456, 457, 458, 241, 117, 118, 119, 242, 121, 122, 123, 459, 128, 129, 130, 131, 132, 145, 146, 147, 148, 65, 149, 150, 151, 152, 153, 154, 155, 156, 157, 158, 37, 38, 39, 41, 159, 160, 161, 162, 163, 164, 165, 166, 167, 168, 169, 170, 547, 548, 549, 550, 551, 552, 553, 554, 555, 556, 557, 558, 559, 560, 561, 562, 563, 571, 572, 573, 574, 575, 576, 569, 570, 564, 565] (by decide +kernel) (by decide +kernel)) (goodIn_sub (fun _ h => List.mem_cons_of_mem _ (List.mem_append_left _ (List.mem_append_left _ (List.mem_append_right _ h)))) (by decide +kernel))) (goodIn_sub (fun _ h => List.mem_cons_of_mem _ (List.mem_append_right _ h)) (by decide +kernel))) (goodIn_sub (fun _ h => List.mem_cons_of_mem _ (List.mem_append_left _ (List.mem_append_right _ h))) (by decide +kernel))
set_option maxRecDepth 20000 in
theorem gL_act_X8_fill : GoodIn wsL_act (wsV RL 105 RX8 yX8_fill wsX8_fill) := goodIn_app (goodIn_of _ (by decide +kernel)) ggL_act_X8_fill
set_option maxRecDepth 20000 in
theorem ggL_act_X8_quarters : GoodIn wsL_act wsX8_quarters := goodIn_ca (goodIn_r _ [463, 464, 24, 465, 466, 467, 468, 469, 470, 471, 472, 26, 27, 28, 29, 30, 31, 32, 33, 34, 35, 36, 37, 38, 39, 40, 41, 42, 43, 44, 45, 46, 47, 48, 49, 50, 51, 52, 53, 54, 55, 56, 473, 62, 63, 64, 65, 474, 194, 195, 17, 196, 197, 475, 476, 477, 478, 479, 125, 126, 127, 140, 141, 11, 142, 143, 144, 480, 481, 482, 483, 484, 485, 384, 385, 386, 486, 487, 488, 489, 490, 491, 221, 222, 223, 492, 229, 230, 231, 232, 233, 234, 235, 210, 110, 111, 236, 203, 204, 205, 109, 19, 206, 207, 208, 209, 493, 494, 495, 496, 497, 82, 83, 84, 498, 499, 500, 501, 502, 503, 504, 505, 506, 507, 508, 509, 510, 511, 512, 513, 514, 515, 516, 517, 518, 519, 520, 113, 114, 115, 116, 117, 118, 119, 120, 121, 122, 123, 521, 146, 147, 148, 149, 150, 151, 152, 153, 154, 155, 156, 157, 158, 159, 160, 161, 162, 163, 164, 165, 166, 167, 168, 169, 170, 522, 276, 277, 278, 279, 280, 61, 547, 548, 549, 550, 551, 552, 553, 554, 580, 581, 582, 583, 584, 559, 560, 561, 562, 563, 564, 565, 555, 556, 557, 558] (by decide +kernel) (by decide +kernel)) (goodIn_sub (fun _ h => List.mem_cons_of_mem _ (List.mem_append_left _ (List.mem_append_right _ h))) (by decide +kernel))
set_option maxRecDepth 20000 in
theorem gL_act_X8_quarters : GoodIn wsL_act (wsV RL 108 RX8 yX8_quarters wsX8_quarters) := goodIn_app (goodIn_of _ (by decide +kernel)) ggL_act_X8_quarters
set_option maxRecDepth 20000 in
theorem ggL_act_X8_turn : GoodIn wsL_act wsX8_turn := goodIn_r _ [526, 24, 96, 527, 384, 385, 28, 386, 30, 81, 82, 83, 84, 31, 32, 33, 34, 35, 36, 37, 38, 39, 40, 41, 42, 85, 528, 529, 530, 531, 116, 117, 118, 119, 532, 262, 44, 45, 46, 47, 120, 121, 122, 123, 243, 152, 153, 154, 155, 156, 157, 158, 43, 52, 53, 54, 55, 56, 159, 160, 161, 162, 163, 164, 165, 166, 167, 168, 169, 170, 61, 62, 63, 64, 65, 547, 548, 549, 550, 551, 552, 553, 554, 559, 560, 561, 562, 563, 564, 565] (by decide +kernel) (by decide +kernel)
set_option maxRecDepth 20000 in
theorem gL_act_X8_turn : GoodIn wsL_act (wsV RL 111 RX8 yX8_turn wsX8_turn) := goodIn_app (goodIn_of _ (by decide +kernel)) ggL_act_X8_turn
set_option maxRecDepth 20000 in
theorem ggL_act_X8_holesWithout : GoodIn wsL_act wsX8_holesWithout := goodIn_ca (goodIn_r _ [536, 24, 374, 75, 76, 77, 11, 78, 79, 80, 81, 82, 83, 28, 84, 31, 32, 33, 34, 35, 36, 37, 38, 39, 40, 41, 42, 537, 156, 157, 158, 43, 44, 45, 46, 47, 52, 53, 54, 55, 56, 159, 160, 161, 162, 375, 376, 377, 378, 379, 380, 381, 382, 294, 295, 296, 297, 298, 383, 384, 385, 386, 30, 387, 388, 389, 390, 391, 392, 393, 394, 395, 396, 397, 398, 316, 317, 318, 319, 110, 111, 399, 400, 401, 402, 403, 404, 405, 406, 348, 133, 134, 135, 538, 168, 169, 170, 547, 548, 549, 550, 551, 552, 553, 554, 559, 560, 561, 562, 563, 564, 565, 571, 572, 573, 574, 575, 576, 569, 570] (by decide +kernel) (by decide +kernel)) (goodIn_sub (fun _ h => List.mem_cons_of_mem _ (List.mem_append_left _ (List.mem_append_left _ (List.mem_append_right _ h)))) (by decide +kernel))
set_option maxRecDepth 20000 in
theorem gL_act_X8_holesWithout : GoodIn wsL_act (wsV RL 114 RX8 yX8_holesWithout wsX8_holesWithout) := goodIn_app (goodIn_of _ (by decide +kernel)) ggL_act_X8_holesWithout
set_option maxRecDepth 20000 in
theorem ggL_act_X8_dropFace : GoodIn wsL_act wsX8_dropFace := goodIn_ca (goodIn_r _ [542, 24, 75, 76, 77, 11, 78, 79, 80, 81, 82, 83, 28, 84, 31, 32, 33, 34, 35, 36, 37, 38, 39, 40, 41, 42, 275, 276, 277, 278, 65, 279, 155, 156, 157, 158, 43, 44, 45, 46, 47, 52, 53, 54, 55, 56, 159, 160, 161, 162, 280, 117, 118, 119, 61, 62, 63, 64, 547, 548, 549, 550, 551, 552, 553, 554, 559, 560, 561, 562, 563, 564, 565] (by decide +kernel) (by decide +kernel)) (goodIn_sub (fun _ h => List.mem_cons_of_mem _ (List.mem_append_left _ (List.mem_append_left _ (List.mem_append_right _ h)))) (by decide +kernel))
set_option maxRecDepth 20000 in
theorem gL_act_X8_dropFace : GoodIn wsL_act (wsV RL 117 RX8 yX8_dropFace wsX8_dropFace) := goodIn_app (goodIn_of _ (by decide +kernel)) ggL_act_X8_dropFace
set_option maxRecDepth 20000 in
theorem ggL_act_X8_point : GoodIn wsL_act wsX8_point := goodIn_ca (goodIn_ca (goodIn_r _ [546, 13, 185, 186, 11, 187, 188, 189, 190, 191, 192, 180, 181, 182, 183, 184, 193, 194, 195, 17, 196, 197, 140, 141, 142, 143, 144, 202, 203, 204, 205, 109, 19, 110, 111, 206, 207, 208, 209, 210, 547, 548, 549, 550, 551, 552, 553, 554, 555, 556, 557, 558] (by decide +kernel) (by decide +kernel)) (goodIn_sub (fun _ h => List.mem_cons_of_mem _ (List.mem_append_right _ h)) (by decide +kernel))) (goodIn_sub (fun _ h => List.mem_cons_of_mem _ (List.mem_append_left _ (List.mem_append_right _ h))) (by decide +kernel))
set_option maxRecDepth 20000 in
theorem gL_act_X8_point : GoodIn wsL_act (wsV RL 22 RX8 yX8_point wsX8_point) := goodIn_app (goodIn_of _ (by decide +kernel)) ggL_act_X8_point
theorem dL_act_0 : decode cL_act 0 = .ok (.aload_n 0, 1) := by decide +kernel
theorem dL_act_1 : decode cL_act 1 = .ok (.invokevirtual 41, 3) := by decide +kernel
theorem dL_act_4 : decode cL_act 4 = .ok (.istore_n 2, 1) := by decide +kernel
theorem dL_act_5 : decode cL_act 5 = .ok (.aload_n 0, 1) := by decide +kernel
theorem dL_act_6 : decode cL_act 6 = .ok (.invokevirtual 45, 3) := by decide +kernel
theorem dL_act_9 : decode cL_act 9 = .ok (.istore_n 3, 1) := by decide +kernel
theorem dL_act_10 : decode cL_act 10 = .ok (.aload_n 0, 1) := by decide +kernel
theorem dL_act_11 : decode cL_act 11 = .ok (.invokevirtual 48, 3) := by decide +kernel
theorem dL_act_14 : decode cL_act 14 = .ok (.istore 4, 2) := by decide +kernel
theorem dL_act_16 : decode cL_act 16 = .ok (.iload_n 1, 1) := by decide +kernel
theorem dL_act_17 : decode cL_act 17 = .ok (.iconst 4, 1) := by decide +kernel
theorem dL_act_18 : decode cL_act 18 = .ok (.ishr, 1) := by decide +kernel
theorem dL_act_19 : decode cL_act 19 = .ok (.bipush 30, 2) := by decide +kernel
theorem dL_act_21 : decode cL_act 21 = .ok (.invokestatic 18, 3) := by decide +kernel
theorem dL_act_24 : decode cL_act 24 = .ok (.istore 5, 2) := by decide +kernel
theorem dL_act_26 : decode cL_act 26 = .ok (.iload_n 1, 1) := by decide +kernel
theorem dL_act_27 : decode cL_act 27 = .ok (.iconst 5, 1) := by decide +kernel
theorem dL_act_28 : decode cL_act 28 = .ok (.ishr, 1) := by decide +kernel
theorem dL_act_29 : decode cL_act 29 = .ok (.bipush 24, 2) := by decide +kernel
theorem dL_act_31 : decode cL_act 31 = .ok (.invokestatic 18, 3) := by decide +kernel
theorem dL_act_34 : decode cL_act 34 = .ok (.istore 6, 2) := by decide +kernel
theorem dL_act_36 : decode cL_act 36 = .ok (.iload_n 1, 1) := by decide +kernel
theorem dL_act_37 : decode cL_act 37 = .ok (.bipush 7, 2) := by decide +kernel
theorem dL_act_39 : decode cL_act 39 = .ok (.ishr, 1) := by decide +kernel
theorem dL_act_40 : decode cL_act 40 = .ok (.bipush 24, 2) := by decide +kernel
theorem dL_act_42 : decode cL_act 42 = .ok (.invokestatic 18, 3) := by decide +kernel
theorem dL_act_45 : decode cL_act 45 = .ok (.istore 7, 2) := by decide +kernel
theorem dL_act_47 : decode cL_act 47 = .ok (.iload_n 1, 1) := by decide +kernel
theorem dL_act_48 : decode cL_act 48 = .ok (.iconst 3, 1) := by decide +kernel
theorem dL_act_49 : decode cL_act 49 = .ok (.ishr, 1) := by decide +kernel
theorem dL_act_50 : decode cL_act 50 = .ok (.iconst 5, 1) := by decide +kernel
theorem dL_act_51 : decode cL_act 51 = .ok (.invokestatic 18, 3) := by decide +kernel
theorem dL_act_54 : decode cL_act 54 = .ok (.ifCond .le 52, 3) := by decide +kernel
theorem dL_act_57 : decode cL_act 57 = .ok (.iload 5, 2) := by decide +kernel
theorem dL_act_59 : decode cL_act 59 = .ok (.ifCond .lt 47, 3) := by decide +kernel
theorem dL_act_62 : decode cL_act 62 = .ok (.iload_n 1, 1) := by decide +kernel
theorem dL_act_63 : decode cL_act 63 = .ok (.bipush 6, 2) := by decide +kernel
theorem dL_act_65 : decode cL_act 65 = .ok (.ishr, 1) := by decide +kernel
theorem dL_act_66 : decode cL_act 66 = .ok (.aload_n 0, 1) := by decide +kernel
theorem dL_act_67 : decode cL_act 67 = .ok (.iload 5, 2) := by decide +kernel
theorem dL_act_69 : decode cL_act 69 = .ok (.invokevirtual 51, 3) := by decide +kernel
theorem dL_act_72 : decode cL_act 72 = .ok (.invokestatic 18, 3) := by decide +kernel
theorem dL_act_75 : decode cL_act 75 = .ok (.istore 8, 2) := by decide +kernel
theorem dL_act_77 : decode cL_act 77 = .ok (.aload_n 0, 1) := by decide +kernel
theorem dL_act_78 : decode cL_act 78 = .ok (.iload 5, 2) := by decide +kernel
theorem dL_act_80 : decode cL_act 80 = .ok (.iload 8, 2) := by decide +kernel
theorem dL_act_82 : decode cL_act 82 = .ok (.invokevirtual 55, 3) := by decide +kernel
theorem dL_act_85 : decode cL_act 85 = .ok (.istore 6, 2) := by decide +kernel
theorem dL_act_87 : decode cL_act 87 = .ok (.aload_n 0, 1) := by decide +kernel
theorem dL_act_88 : decode cL_act 88 = .ok (.iload 5, 2) := by decide +kernel
theorem dL_act_90 : decode cL_act 90 = .ok (.iload 8, 2) := by decide +kernel
theorem dL_act_92 : decode cL_act 92 = .ok (.iconst 1, 1) := by decide +kernel
theorem dL_act_93 : decode cL_act 93 = .ok (.iadd, 1) := by decide +kernel
theorem dL_act_94 : decode cL_act 94 = .ok (.aload_n 0, 1) := by decide +kernel
theorem dL_act_95 : decode cL_act 95 = .ok (.iload 5, 2) := by decide +kernel
theorem dL_act_97 : decode cL_act 97 = .ok (.invokevirtual 51, 3) := by decide +kernel
theorem dL_act_100 : decode cL_act 100 = .ok (.irem, 1) := by decide +kernel
theorem dL_act_101 : decode cL_act 101 = .ok (.invokevirtual 55, 3) := by decide +kernel
theorem dL_act_104 : decode cL_act 104 = .ok (.istore 7, 2) := by decide +kernel
theorem dL_act_106 : decode cL_act 106 = .ok (.goto 8, 3) := by decide +kernel
theorem dL_act_109 : decode cL_act 109 = .ok (.astore 8, 2) := by decide +kernel
theorem dL_act_111 : decode cL_act 111 = .ok (.iconst 0, 1) := by decide +kernel
theorem dL_act_112 : decode cL_act 112 = .ok (.istore 5, 2) := by decide +kernel
theorem dL_act_114 : decode cL_act 114 = .ok (.iload_n 1, 1) := by decide +kernel
theorem dL_act_115 : decode cL_act 115 = .ok (.bipush 14, 2) := by decide +kernel
theorem dL_act_117 : decode cL_act 117 = .ok (.invokestatic 18, 3) := by decide +kernel
theorem dL_act_120 : decode cL_act 120 = .ok (.tableswitch 682 0 12 #[68, 68, 68, 152, 230, 289, 355, 398, 432, 466, 540, 590, 646], 68) := by decide +kernel
theorem dL_act_188 : decode cL_act 188 = .ok (.iconst 3, 1) := by decide +kernel
theorem dL_act_189 : decode cL_act 189 = .ok (.iload_n 1, 1) := by decide +kernel
theorem dL_act_190 : decode cL_act 190 = .ok (.iconst 4, 1) := by decide +kernel
theorem dL_act_191 : decode cL_act 191 = .ok (.ishr, 1) := by decide +kernel
theorem dL_act_192 : decode cL_act 192 = .ok (.iconst 2, 1) := by decide +kernel
theorem dL_act_193 : decode cL_act 193 = .ok (.invokestatic 18, 3) := by decide +kernel
theorem dL_act_196 : decode cL_act 196 = .ok (.imul, 1) := by decide +kernel
theorem dL_act_197 : decode cL_act 197 = .ok (.iload_n 1, 1) := by decide +kernel
theorem dL_act_198 : decode cL_act 198 = .ok (.bipush 6, 2) := by decide +kernel
theorem dL_act_200 : decode cL_act 200 = .ok (.ishr, 1) := by decide +kernel
theorem dL_act_201 : decode cL_act 201 = .ok (.iconst 2, 1) := by decide +kernel
theorem dL_act_202 : decode cL_act 202 = .ok (.invokestatic 18, 3) := by decide +kernel
theorem dL_act_205 : decode cL_act 205 = .ok (.iadd, 1) := by decide +kernel
theorem dL_act_206 : decode cL_act 206 = .ok (.istore 8, 2) := by decide +kernel
theorem dL_act_208 : decode cL_act 208 = .ok (.aload_n 0, 1) := by decide +kernel
theorem dL_act_209 : decode cL_act 209 = .ok (.iload 8, 2) := by decide +kernel
theorem dL_act_211 : decode cL_act 211 = .ok (.iload 8, 2) := by decide +kernel
theorem dL_act_213 : decode cL_act 213 = .ok (.iconst 1, 1) := by decide +kernel
theorem dL_act_214 : decode cL_act 214 = .ok (.iadd, 1) := by decide +kernel
theorem dL_act_215 : decode cL_act 215 = .ok (.iload 8, 2) := by decide +kernel
theorem dL_act_217 : decode cL_act 217 = .ok (.iconst 4, 1) := by decide +kernel
theorem dL_act_218 : decode cL_act 218 = .ok (.iadd, 1) := by decide +kernel
theorem dL_act_219 : decode cL_act 219 = .ok (.iload_n 1, 1) := by decide +kernel
theorem dL_act_220 : decode cL_act 220 = .ok (.bipush 8, 2) := by decide +kernel
theorem dL_act_222 : decode cL_act 222 = .ok (.ishr, 1) := by decide +kernel
theorem dL_act_223 : decode cL_act 223 = .ok (.iconst 3, 1) := by decide +kernel
theorem dL_act_224 : decode cL_act 224 = .ok (.invokestatic 18, 3) := by decide +kernel
theorem dL_act_227 : decode cL_act 227 = .ok (.ifCond .ne 7, 3) := by decide +kernel
theorem dL_act_230 : decode cL_act 230 = .ok (.iconst (-1), 1) := by decide +kernel
theorem dL_act_231 : decode cL_act 231 = .ok (.goto 7, 3) := by decide +kernel
theorem dL_act_234 : decode cL_act 234 = .ok (.iload 8, 2) := by decide +kernel
theorem dL_act_236 : decode cL_act 236 = .ok (.iconst 3, 1) := by decide +kernel
theorem dL_act_237 : decode cL_act 237 = .ok (.iadd, 1) := by decide +kernel
theorem dL_act_238 : decode cL_act 238 = .ok (.invokevirtual 60, 3) := by decide +kernel
theorem dL_act_241 : decode cL_act 241 = .ok (.pop, 1) := by decide +kernel
theorem dL_act_242 : decode cL_act 242 = .ok (.aload_n 0, 1) := by decide +kernel
theorem dL_act_243 : decode cL_act 243 = .ok (.invokevirtual 48, 3) := by decide +kernel
theorem dL_act_246 : decode cL_act 246 = .ok (.iload 4, 2) := by decide +kernel
theorem dL_act_248 : decode cL_act 248 = .ok (.iconst 1, 1) := by decide +kernel
theorem dL_act_249 : decode cL_act 249 = .ok (.iadd, 1) := by decide +kernel
theorem dL_act_250 : decode cL_act 250 = .ok (.if_icmp .ne 20, 3) := by decide +kernel
theorem dL_act_253 : decode cL_act 253 = .ok (.aload_n 0, 1) := by decide +kernel
theorem dL_act_254 : decode cL_act 254 = .ok (.iload 8, 2) := by decide +kernel
theorem dL_act_256 : decode cL_act 256 = .ok (.iload 8, 2) := by decide +kernel
theorem dL_act_258 : decode cL_act 258 = .ok (.iconst 1, 1) := by decide +kernel
theorem dL_act_259 : decode cL_act 259 = .ok (.iadd, 1) := by decide +kernel
theorem dL_act_260 : decode cL_act 260 = .ok (.invokevirtual 64, 3) := by decide +kernel
theorem dL_act_263 : decode cL_act 263 = .ok (.ifCond .lt 7, 3) := by decide +kernel
theorem dL_act_266 : decode cL_act 266 = .ok (.iconst 1, 1) := by decide +kernel
theorem dL_act_267 : decode cL_act 267 = .ok (.goto 4, 3) := by decide +kernel
theorem dL_act_270 : decode cL_act 270 = .ok (.iconst 0, 1) := by decide +kernel
theorem dL_act_271 : decode cL_act 271 = .ok (.ireturn, 1) := by decide +kernel
theorem dL_act_272 : decode cL_act 272 = .ok (.aload_n 0, 1) := by decide +kernel
theorem dL_act_273 : decode cL_act 273 = .ok (.bipush 100, 2) := by decide +kernel
theorem dL_act_275 : decode cL_act 275 = .ok (.iload_n 1, 1) := by decide +kernel
theorem dL_act_276 : decode cL_act 276 = .ok (.iconst 4, 1) := by decide +kernel
theorem dL_act_277 : decode cL_act 277 = .ok (.ishr, 1) := by decide +kernel
theorem dL_act_278 : decode cL_act 278 = .ok (.bipush 60, 2) := by decide +kernel
theorem dL_act_280 : decode cL_act 280 = .ok (.invokestatic 18, 3) := by decide +kernel
theorem dL_act_283 : decode cL_act 283 = .ok (.iadd, 1) := by decide +kernel
theorem dL_act_284 : decode cL_act 284 = .ok (.iload_n 1, 1) := by decide +kernel
theorem dL_act_285 : decode cL_act 285 = .ok (.bipush 6, 2) := by decide +kernel
theorem dL_act_287 : decode cL_act 287 = .ok (.ishr, 1) := by decide +kernel
theorem dL_act_288 : decode cL_act 288 = .ok (.bipush 50, 2) := by decide +kernel
theorem dL_act_290 : decode cL_act 290 = .ok (.invokestatic 18, 3) := by decide +kernel
theorem dL_act_293 : decode cL_act 293 = .ok (.bipush 9, 2) := by decide +kernel
theorem dL_act_295 : decode cL_act 295 = .ok (.iconst 1, 1) := by decide +kernel
theorem dL_act_296 : decode cL_act 296 = .ok (.iload_n 1, 1) := by decide +kernel
theorem dL_act_297 : decode cL_act 297 = .ok (.bipush 8, 2) := by decide +kernel
theorem dL_act_299 : decode cL_act 299 = .ok (.ishr, 1) := by decide +kernel
theorem dL_act_300 : decode cL_act 300 = .ok (.bipush 20, 2) := by decide +kernel
theorem dL_act_302 : decode cL_act 302 = .ok (.invokestatic 18, 3) := by decide +kernel
theorem dL_act_305 : decode cL_act 305 = .ok (.iadd, 1) := by decide +kernel
theorem dL_act_306 : decode cL_act 306 = .ok (.invokevirtual 67, 3) := by decide +kernel
theorem dL_act_309 : decode cL_act 309 = .ok (.pop, 1) := by decide +kernel
theorem dL_act_310 : decode cL_act 310 = .ok (.aload_n 0, 1) := by decide +kernel
theorem dL_act_311 : decode cL_act 311 = .ok (.invokevirtual 41, 3) := by decide +kernel
theorem dL_act_314 : decode cL_act 314 = .ok (.iload_n 2, 1) := by decide +kernel
theorem dL_act_315 : decode cL_act 315 = .ok (.bipush 8, 2) := by decide +kernel
theorem dL_act_317 : decode cL_act 317 = .ok (.iadd, 1) := by decide +kernel
theorem dL_act_318 : decode cL_act 318 = .ok (.if_icmp .ne 30, 3) := by decide +kernel
theorem dL_act_321 : decode cL_act 321 = .ok (.aload_n 0, 1) := by decide +kernel
theorem dL_act_322 : decode cL_act 322 = .ok (.invokevirtual 48, 3) := by decide +kernel
theorem dL_act_325 : decode cL_act 325 = .ok (.iload 4, 2) := by decide +kernel
theorem dL_act_327 : decode cL_act 327 = .ok (.bipush 6, 2) := by decide +kernel
theorem dL_act_329 : decode cL_act 329 = .ok (.iadd, 1) := by decide +kernel
theorem dL_act_330 : decode cL_act 330 = .ok (.if_icmp .ne 18, 3) := by decide +kernel
theorem dL_act_333 : decode cL_act 333 = .ok (.aload_n 0, 1) := by decide +kernel
theorem dL_act_334 : decode cL_act 334 = .ok (.invokevirtual 45, 3) := by decide +kernel
theorem dL_act_337 : decode cL_act 337 = .ok (.iload_n 3, 1) := by decide +kernel
theorem dL_act_338 : decode cL_act 338 = .ok (.bipush 12, 2) := by decide +kernel
theorem dL_act_340 : decode cL_act 340 = .ok (.iadd, 1) := by decide +kernel
theorem dL_act_341 : decode cL_act 341 = .ok (.if_icmp .ne 7, 3) := by decide +kernel
theorem dL_act_344 : decode cL_act 344 = .ok (.iconst 1, 1) := by decide +kernel
theorem dL_act_345 : decode cL_act 345 = .ok (.goto 4, 3) := by decide +kernel
theorem dL_act_348 : decode cL_act 348 = .ok (.iconst 0, 1) := by decide +kernel
theorem dL_act_349 : decode cL_act 349 = .ok (.ireturn, 1) := by decide +kernel
theorem dL_act_350 : decode cL_act 350 = .ok (.aload_n 0, 1) := by decide +kernel
theorem dL_act_351 : decode cL_act 351 = .ok (.aload_n 0, 1) := by decide +kernel
theorem dL_act_352 : decode cL_act 352 = .ok (.iload 6, 2) := by decide +kernel
theorem dL_act_354 : decode cL_act 354 = .ok (.iload 7, 2) := by decide +kernel
theorem dL_act_356 : decode cL_act 356 = .ok (.invokevirtual 70, 3) := by decide +kernel
theorem dL_act_359 : decode cL_act 359 = .ok (.iconst 0, 1) := by decide +kernel
theorem dL_act_360 : decode cL_act 360 = .ok (.invokevirtual 73, 3) := by decide +kernel
theorem dL_act_363 : decode cL_act 363 = .ok (.aload_n 0, 1) := by decide +kernel
theorem dL_act_364 : decode cL_act 364 = .ok (.iload 6, 2) := by decide +kernel
theorem dL_act_366 : decode cL_act 366 = .ok (.iconst 0, 1) := by decide +kernel
theorem dL_act_367 : decode cL_act 367 = .ok (.invokevirtual 73, 3) := by decide +kernel
theorem dL_act_370 : decode cL_act 370 = .ok (.aload_n 0, 1) := by decide +kernel
theorem dL_act_371 : decode cL_act 371 = .ok (.iload 7, 2) := by decide +kernel
theorem dL_act_373 : decode cL_act 373 = .ok (.iconst 0, 1) := by decide +kernel
theorem dL_act_374 : decode cL_act 374 = .ok (.invokevirtual 73, 3) := by decide +kernel
theorem dL_act_377 : decode cL_act 377 = .ok (.invokestatic 76, 3) := by decide +kernel
theorem dL_act_380 : decode cL_act 380 = .ok (.if_icmp .lt 27, 3) := by decide +kernel
theorem dL_act_383 : decode cL_act 383 = .ok (.aload_n 0, 1) := by decide +kernel
theorem dL_act_384 : decode cL_act 384 = .ok (.invokevirtual 41, 3) := by decide +kernel
theorem dL_act_387 : decode cL_act 387 = .ok (.iload_n 2, 1) := by decide +kernel
theorem dL_act_388 : decode cL_act 388 = .ok (.iconst 1, 1) := by decide +kernel
theorem dL_act_389 : decode cL_act 389 = .ok (.iadd, 1) := by decide +kernel
theorem dL_act_390 : decode cL_act 390 = .ok (.if_icmp .ne 17, 3) := by decide +kernel
theorem dL_act_393 : decode cL_act 393 = .ok (.aload_n 0, 1) := by decide +kernel
theorem dL_act_394 : decode cL_act 394 = .ok (.invokevirtual 45, 3) := by decide +kernel
theorem dL_act_397 : decode cL_act 397 = .ok (.iload_n 3, 1) := by decide +kernel
theorem dL_act_398 : decode cL_act 398 = .ok (.iconst 1, 1) := by decide +kernel
theorem dL_act_399 : decode cL_act 399 = .ok (.iadd, 1) := by decide +kernel
theorem dL_act_400 : decode cL_act 400 = .ok (.if_icmp .ne 7, 3) := by decide +kernel
theorem dL_act_403 : decode cL_act 403 = .ok (.iconst 1, 1) := by decide +kernel
theorem dL_act_404 : decode cL_act 404 = .ok (.goto 4, 3) := by decide +kernel
theorem dL_act_407 : decode cL_act 407 = .ok (.iconst 0, 1) := by decide +kernel
theorem dL_act_408 : decode cL_act 408 = .ok (.ireturn, 1) := by decide +kernel
theorem dL_act_409 : decode cL_act 409 = .ok (.aload_n 0, 1) := by decide +kernel
theorem dL_act_410 : decode cL_act 410 = .ok (.iload 5, 2) := by decide +kernel
theorem dL_act_412 : decode cL_act 412 = .ok (.iload 6, 2) := by decide +kernel
theorem dL_act_414 : decode cL_act 414 = .ok (.aload_n 0, 1) := by decide +kernel
theorem dL_act_415 : decode cL_act 415 = .ok (.iload 5, 2) := by decide +kernel
theorem dL_act_417 : decode cL_act 417 = .ok (.iload_n 1, 1) := by decide +kernel
theorem dL_act_418 : decode cL_act 418 = .ok (.bipush 8, 2) := by decide +kernel
theorem dL_act_420 : decode cL_act 420 = .ok (.ishr, 1) := by decide +kernel
theorem dL_act_421 : decode cL_act 421 = .ok (.aload_n 0, 1) := by decide +kernel
theorem dL_act_422 : decode cL_act 422 = .ok (.iload 5, 2) := by decide +kernel
theorem dL_act_424 : decode cL_act 424 = .ok (.invokevirtual 51, 3) := by decide +kernel
theorem dL_act_427 : decode cL_act 427 = .ok (.invokestatic 18, 3) := by decide +kernel
theorem dL_act_430 : decode cL_act 430 = .ok (.invokevirtual 55, 3) := by decide +kernel
theorem dL_act_433 : decode cL_act 433 = .ok (.invokevirtual 81, 3) := by decide +kernel
theorem dL_act_436 : decode cL_act 436 = .ok (.istore 9, 2) := by decide +kernel
theorem dL_act_438 : decode cL_act 438 = .ok (.aload_n 0, 1) := by decide +kernel
theorem dL_act_439 : decode cL_act 439 = .ok (.iload 9, 2) := by decide +kernel
theorem dL_act_441 : decode cL_act 441 = .ok (.invokevirtual 51, 3) := by decide +kernel
theorem dL_act_444 : decode cL_act 444 = .ok (.iconst 2, 1) := by decide +kernel
theorem dL_act_445 : decode cL_act 445 = .ok (.if_icmp .le 28, 3) := by decide +kernel
theorem dL_act_448 : decode cL_act 448 = .ok (.aload_n 0, 1) := by decide +kernel
theorem dL_act_449 : decode cL_act 449 = .ok (.invokevirtual 48, 3) := by decide +kernel
theorem dL_act_452 : decode cL_act 452 = .ok (.iload 4, 2) := by decide +kernel
theorem dL_act_454 : decode cL_act 454 = .ok (.iconst 1, 1) := by decide +kernel
theorem dL_act_455 : decode cL_act 455 = .ok (.iadd, 1) := by decide +kernel
theorem dL_act_456 : decode cL_act 456 = .ok (.if_icmp .ne 17, 3) := by decide +kernel
theorem dL_act_459 : decode cL_act 459 = .ok (.aload_n 0, 1) := by decide +kernel
theorem dL_act_460 : decode cL_act 460 = .ok (.invokevirtual 45, 3) := by decide +kernel
theorem dL_act_463 : decode cL_act 463 = .ok (.iload_n 3, 1) := by decide +kernel
theorem dL_act_464 : decode cL_act 464 = .ok (.iconst 1, 1) := by decide +kernel
theorem dL_act_465 : decode cL_act 465 = .ok (.iadd, 1) := by decide +kernel
theorem dL_act_466 : decode cL_act 466 = .ok (.if_icmp .ne 7, 3) := by decide +kernel
theorem dL_act_469 : decode cL_act 469 = .ok (.iconst 1, 1) := by decide +kernel
theorem dL_act_470 : decode cL_act 470 = .ok (.goto 4, 3) := by decide +kernel
theorem dL_act_473 : decode cL_act 473 = .ok (.iconst 0, 1) := by decide +kernel
theorem dL_act_474 : decode cL_act 474 = .ok (.ireturn, 1) := by decide +kernel
theorem dL_act_475 : decode cL_act 475 = .ok (.aload_n 0, 1) := by decide +kernel
theorem dL_act_476 : decode cL_act 476 = .ok (.aload_n 0, 1) := by decide +kernel
theorem dL_act_477 : decode cL_act 477 = .ok (.iload 6, 2) := by decide +kernel
theorem dL_act_479 : decode cL_act 479 = .ok (.iload 7, 2) := by decide +kernel
theorem dL_act_481 : decode cL_act 481 = .ok (.invokevirtual 84, 3) := by decide +kernel
theorem dL_act_484 : decode cL_act 484 = .ok (.invokevirtual 51, 3) := by decide +kernel
theorem dL_act_487 : decode cL_act 487 = .ok (.iconst 3, 1) := by decide +kernel
theorem dL_act_488 : decode cL_act 488 = .ok (.if_icmp .le 28, 3) := by decide +kernel
theorem dL_act_491 : decode cL_act 491 = .ok (.aload_n 0, 1) := by decide +kernel
theorem dL_act_492 : decode cL_act 492 = .ok (.invokevirtual 48, 3) := by decide +kernel
theorem dL_act_495 : decode cL_act 495 = .ok (.iload 4, 2) := by decide +kernel
theorem dL_act_497 : decode cL_act 497 = .ok (.iconst 1, 1) := by decide +kernel
theorem dL_act_498 : decode cL_act 498 = .ok (.isub, 1) := by decide +kernel
theorem dL_act_499 : decode cL_act 499 = .ok (.if_icmp .ne 17, 3) := by decide +kernel
theorem dL_act_502 : decode cL_act 502 = .ok (.aload_n 0, 1) := by decide +kernel
theorem dL_act_503 : decode cL_act 503 = .ok (.invokevirtual 45, 3) := by decide +kernel
theorem dL_act_506 : decode cL_act 506 = .ok (.iload_n 3, 1) := by decide +kernel
theorem dL_act_507 : decode cL_act 507 = .ok (.iconst 1, 1) := by decide +kernel
theorem dL_act_508 : decode cL_act 508 = .ok (.isub, 1) := by decide +kernel
theorem dL_act_509 : decode cL_act 509 = .ok (.if_icmp .ne 7, 3) := by decide +kernel
theorem dL_act_512 : decode cL_act 512 = .ok (.iconst 1, 1) := by decide +kernel
theorem dL_act_513 : decode cL_act 513 = .ok (.goto 4, 3) := by decide +kernel
theorem dL_act_516 : decode cL_act 516 = .ok (.iconst 0, 1) := by decide +kernel
theorem dL_act_517 : decode cL_act 517 = .ok (.ireturn, 1) := by decide +kernel
theorem dL_act_518 : decode cL_act 518 = .ok (.aload_n 0, 1) := by decide +kernel
theorem dL_act_519 : decode cL_act 519 = .ok (.iload 6, 2) := by decide +kernel
theorem dL_act_521 : decode cL_act 521 = .ok (.iload 7, 2) := by decide +kernel
theorem dL_act_523 : decode cL_act 523 = .ok (.invokevirtual 87, 3) := by decide +kernel
theorem dL_act_526 : decode cL_act 526 = .ok (.iload 4, 2) := by decide +kernel
theorem dL_act_528 : decode cL_act 528 = .ok (.aload_n 0, 1) := by decide +kernel
theorem dL_act_529 : decode cL_act 529 = .ok (.invokevirtual 48, 3) := by decide +kernel
theorem dL_act_532 : decode cL_act 532 = .ok (.isub, 1) := by decide +kernel
theorem dL_act_533 : decode cL_act 533 = .ok (.if_icmp .ne 17, 3) := by decide +kernel
theorem dL_act_536 : decode cL_act 536 = .ok (.aload_n 0, 1) := by decide +kernel
theorem dL_act_537 : decode cL_act 537 = .ok (.invokevirtual 41, 3) := by decide +kernel
theorem dL_act_540 : decode cL_act 540 = .ok (.iload_n 2, 1) := by decide +kernel
theorem dL_act_541 : decode cL_act 541 = .ok (.iconst 1, 1) := by decide +kernel
theorem dL_act_542 : decode cL_act 542 = .ok (.isub, 1) := by decide +kernel
theorem dL_act_543 : decode cL_act 543 = .ok (.if_icmp .ne 7, 3) := by decide +kernel
theorem dL_act_546 : decode cL_act 546 = .ok (.iconst 1, 1) := by decide +kernel
theorem dL_act_547 : decode cL_act 547 = .ok (.goto 4, 3) := by decide +kernel
theorem dL_act_550 : decode cL_act 550 = .ok (.iconst 0, 1) := by decide +kernel
theorem dL_act_551 : decode cL_act 551 = .ok (.ireturn, 1) := by decide +kernel
theorem dL_act_552 : decode cL_act 552 = .ok (.aload_n 0, 1) := by decide +kernel
theorem dL_act_553 : decode cL_act 553 = .ok (.iload 6, 2) := by decide +kernel
theorem dL_act_555 : decode cL_act 555 = .ok (.iload 7, 2) := by decide +kernel
theorem dL_act_557 : decode cL_act 557 = .ok (.invokevirtual 90, 3) := by decide +kernel
theorem dL_act_560 : decode cL_act 560 = .ok (.ifCond .lt 24, 3) := by decide +kernel
theorem dL_act_563 : decode cL_act 563 = .ok (.aload_n 0, 1) := by decide +kernel
theorem dL_act_564 : decode cL_act 564 = .ok (.invokevirtual 48, 3) := by decide +kernel
theorem dL_act_567 : decode cL_act 567 = .ok (.iload 4, 2) := by decide +kernel
theorem dL_act_569 : decode cL_act 569 = .ok (.if_icmp .ne 15, 3) := by decide +kernel
theorem dL_act_572 : decode cL_act 572 = .ok (.aload_n 0, 1) := by decide +kernel
theorem dL_act_573 : decode cL_act 573 = .ok (.invokevirtual 45, 3) := by decide +kernel
theorem dL_act_576 : decode cL_act 576 = .ok (.iload_n 3, 1) := by decide +kernel
theorem dL_act_577 : decode cL_act 577 = .ok (.if_icmp .ne 7, 3) := by decide +kernel
theorem dL_act_580 : decode cL_act 580 = .ok (.iconst 1, 1) := by decide +kernel
theorem dL_act_581 : decode cL_act 581 = .ok (.goto 4, 3) := by decide +kernel
theorem dL_act_584 : decode cL_act 584 = .ok (.iconst 0, 1) := by decide +kernel
theorem dL_act_585 : decode cL_act 585 = .ok (.ireturn, 1) := by decide +kernel
theorem dL_act_586 : decode cL_act 586 = .ok (.iload_n 1, 1) := by decide +kernel
theorem dL_act_587 : decode cL_act 587 = .ok (.bipush 8, 2) := by decide +kernel
theorem dL_act_589 : decode cL_act 589 = .ok (.ishr, 1) := by decide +kernel
theorem dL_act_590 : decode cL_act 590 = .ok (.iconst 4, 1) := by decide +kernel
theorem dL_act_591 : decode cL_act 591 = .ok (.invokestatic 18, 3) := by decide +kernel
theorem dL_act_594 : decode cL_act 594 = .ok (.ifCond .ne 43, 3) := by decide +kernel
theorem dL_act_597 : decode cL_act 597 = .ok (.aload_n 0, 1) := by decide +kernel
theorem dL_act_598 : decode cL_act 598 = .ok (.iload 5, 2) := by decide +kernel
theorem dL_act_600 : decode cL_act 600 = .ok (.iload_n 1, 1) := by decide +kernel
theorem dL_act_601 : decode cL_act 601 = .ok (.iconst 4, 1) := by decide +kernel
theorem dL_act_602 : decode cL_act 602 = .ok (.ishr, 1) := by decide +kernel
theorem dL_act_603 : decode cL_act 603 = .ok (.bipush 20, 2) := by decide +kernel
theorem dL_act_605 : decode cL_act 605 = .ok (.invokestatic 18, 3) := by decide +kernel
theorem dL_act_608 : decode cL_act 608 = .ok (.iconst 3, 1) := by decide +kernel
theorem dL_act_609 : decode cL_act 609 = .ok (.iload_n 1, 1) := by decide +kernel
theorem dL_act_610 : decode cL_act 610 = .ok (.bipush 6, 2) := by decide +kernel
theorem dL_act_612 : decode cL_act 612 = .ok (.ishr, 1) := by decide +kernel
theorem dL_act_613 : decode cL_act 613 = .ok (.bipush 20, 2) := by decide +kernel
theorem dL_act_615 : decode cL_act 615 = .ok (.invokestatic 18, 3) := by decide +kernel
theorem dL_act_618 : decode cL_act 618 = .ok (.invokevirtual 93, 3) := by decide +kernel
theorem dL_act_621 : decode cL_act 621 = .ok (.ifCond .lt 14, 3) := by decide +kernel
theorem dL_act_624 : decode cL_act 624 = .ok (.aload_n 0, 1) := by decide +kernel
theorem dL_act_625 : decode cL_act 625 = .ok (.invokevirtual 96, 3) := by decide +kernel
theorem dL_act_628 : decode cL_act 628 = .ok (.ifCond .lt 7, 3) := by decide +kernel
theorem dL_act_631 : decode cL_act 631 = .ok (.iconst 1, 1) := by decide +kernel
theorem dL_act_632 : decode cL_act 632 = .ok (.goto 4, 3) := by decide +kernel
theorem dL_act_635 : decode cL_act 635 = .ok (.iconst 0, 1) := by decide +kernel
theorem dL_act_636 : decode cL_act 636 = .ok (.ireturn, 1) := by decide +kernel
theorem dL_act_637 : decode cL_act 637 = .ok (.aload_n 0, 1) := by decide +kernel
theorem dL_act_638 : decode cL_act 638 = .ok (.invokevirtual 99, 3) := by decide +kernel
theorem dL_act_641 : decode cL_act 641 = .ok (.iload_n 2, 1) := by decide +kernel
theorem dL_act_642 : decode cL_act 642 = .ok (.if_icmp .gt 16, 3) := by decide +kernel
theorem dL_act_645 : decode cL_act 645 = .ok (.aload_n 0, 1) := by decide +kernel
theorem dL_act_646 : decode cL_act 646 = .ok (.invokevirtual 48, 3) := by decide +kernel
theorem dL_act_649 : decode cL_act 649 = .ok (.iload 4, 2) := by decide +kernel
theorem dL_act_651 : decode cL_act 651 = .ok (.if_icmp .ne 7, 3) := by decide +kernel
theorem dL_act_654 : decode cL_act 654 = .ok (.iconst 1, 1) := by decide +kernel
theorem dL_act_655 : decode cL_act 655 = .ok (.goto 4, 3) := by decide +kernel
theorem dL_act_658 : decode cL_act 658 = .ok (.iconst 0, 1) := by decide +kernel
theorem dL_act_659 : decode cL_act 659 = .ok (.ireturn, 1) := by decide +kernel
theorem dL_act_660 : decode cL_act 660 = .ok (.aload_n 0, 1) := by decide +kernel
theorem dL_act_661 : decode cL_act 661 = .ok (.invokevirtual 96, 3) := by decide +kernel
theorem dL_act_664 : decode cL_act 664 = .ok (.istore 10, 2) := by decide +kernel
theorem dL_act_666 : decode cL_act 666 = .ok (.aload_n 0, 1) := by decide +kernel
theorem dL_act_667 : decode cL_act 667 = .ok (.iload 7, 2) := by decide +kernel
theorem dL_act_669 : decode cL_act 669 = .ok (.iload 6, 2) := by decide +kernel
theorem dL_act_671 : decode cL_act 671 = .ok (.invokevirtual 102, 3) := by decide +kernel
theorem dL_act_674 : decode cL_act 674 = .ok (.istore 11, 2) := by decide +kernel
theorem dL_act_676 : decode cL_act 676 = .ok (.aload_n 0, 1) := by decide +kernel
theorem dL_act_677 : decode cL_act 677 = .ok (.aload_n 0, 1) := by decide +kernel
theorem dL_act_678 : decode cL_act 678 = .ok (.iload 7, 2) := by decide +kernel
theorem dL_act_680 : decode cL_act 680 = .ok (.iload 6, 2) := by decide +kernel
theorem dL_act_682 : decode cL_act 682 = .ok (.invokevirtual 105, 3) := by decide +kernel
theorem dL_act_685 : decode cL_act 685 = .ok (.invokevirtual 51, 3) := by decide +kernel
theorem dL_act_688 : decode cL_act 688 = .ok (.iload 11, 2) := by decide +kernel
theorem dL_act_690 : decode cL_act 690 = .ok (.if_icmp .ne 18, 3) := by decide +kernel
theorem dL_act_693 : decode cL_act 693 = .ok (.aload_n 0, 1) := by decide +kernel
theorem dL_act_694 : decode cL_act 694 = .ok (.invokevirtual 96, 3) := by decide +kernel
theorem dL_act_697 : decode cL_act 697 = .ok (.iload 10, 2) := by decide +kernel
theorem dL_act_699 : decode cL_act 699 = .ok (.iconst 1, 1) := by decide +kernel
theorem dL_act_700 : decode cL_act 700 = .ok (.isub, 1) := by decide +kernel
theorem dL_act_701 : decode cL_act 701 = .ok (.if_icmp .ne 7, 3) := by decide +kernel
theorem dL_act_704 : decode cL_act 704 = .ok (.iconst 1, 1) := by decide +kernel
theorem dL_act_705 : decode cL_act 705 = .ok (.goto 4, 3) := by decide +kernel
theorem dL_act_708 : decode cL_act 708 = .ok (.iconst 0, 1) := by decide +kernel
theorem dL_act_709 : decode cL_act 709 = .ok (.ireturn, 1) := by decide +kernel
theorem dL_act_710 : decode cL_act 710 = .ok (.iload_n 1, 1) := by decide +kernel
theorem dL_act_711 : decode cL_act 711 = .ok (.bipush 7, 2) := by decide +kernel
theorem dL_act_713 : decode cL_act 713 = .ok (.ishr, 1) := by decide +kernel
theorem dL_act_714 : decode cL_act 714 = .ok (.iconst 5, 1) := by decide +kernel
theorem dL_act_715 : decode cL_act 715 = .ok (.invokestatic 18, 3) := by decide +kernel
theorem dL_act_718 : decode cL_act 718 = .ok (.ifCond .ne 33, 3) := by decide +kernel
theorem dL_act_721 : decode cL_act 721 = .ok (.aload_n 0, 1) := by decide +kernel
theorem dL_act_722 : decode cL_act 722 = .ok (.invokevirtual 108, 3) := by decide +kernel
theorem dL_act_725 : decode cL_act 725 = .ok (.aload_n 0, 1) := by decide +kernel
theorem dL_act_726 : decode cL_act 726 = .ok (.invokevirtual 48, 3) := by decide +kernel
theorem dL_act_729 : decode cL_act 729 = .ok (.if_icmp .ne 20, 3) := by decide +kernel
theorem dL_act_732 : decode cL_act 732 = .ok (.aload_n 0, 1) := by decide +kernel
theorem dL_act_733 : decode cL_act 733 = .ok (.invokevirtual 41, 3) := by decide +kernel
theorem dL_act_736 : decode cL_act 736 = .ok (.iload_n 2, 1) := by decide +kernel
theorem dL_act_737 : decode cL_act 737 = .ok (.iload_n 3, 1) := by decide +kernel
theorem dL_act_738 : decode cL_act 738 = .ok (.iadd, 1) := by decide +kernel
theorem dL_act_739 : decode cL_act 739 = .ok (.iload 4, 2) := by decide +kernel
theorem dL_act_741 : decode cL_act 741 = .ok (.iadd, 1) := by decide +kernel
theorem dL_act_742 : decode cL_act 742 = .ok (.if_icmp .ne 7, 3) := by decide +kernel
theorem dL_act_745 : decode cL_act 745 = .ok (.iconst 1, 1) := by decide +kernel
theorem dL_act_746 : decode cL_act 746 = .ok (.goto 4, 3) := by decide +kernel
theorem dL_act_749 : decode cL_act 749 = .ok (.iconst 0, 1) := by decide +kernel
theorem dL_act_750 : decode cL_act 750 = .ok (.ireturn, 1) := by decide +kernel
theorem dL_act_751 : decode cL_act 751 = .ok (.aload_n 0, 1) := by decide +kernel
theorem dL_act_752 : decode cL_act 752 = .ok (.invokevirtual 111, 3) := by decide +kernel
theorem dL_act_755 : decode cL_act 755 = .ok (.iload 4, 2) := by decide +kernel
theorem dL_act_757 : decode cL_act 757 = .ok (.if_icmp .ne 7, 3) := by decide +kernel
theorem dL_act_760 : decode cL_act 760 = .ok (.iconst 1, 1) := by decide +kernel
theorem dL_act_761 : decode cL_act 761 = .ok (.goto 4, 3) := by decide +kernel
theorem dL_act_764 : decode cL_act 764 = .ok (.iconst 0, 1) := by decide +kernel
theorem dL_act_765 : decode cL_act 765 = .ok (.ireturn, 1) := by decide +kernel
theorem dL_act_766 : decode cL_act 766 = .ok (.aload_n 0, 1) := by decide +kernel
theorem dL_act_767 : decode cL_act 767 = .ok (.iload 5, 2) := by decide +kernel
theorem dL_act_769 : decode cL_act 769 = .ok (.invokevirtual 114, 3) := by decide +kernel
theorem dL_act_772 : decode cL_act 772 = .ok (.istore 12, 2) := by decide +kernel
theorem dL_act_774 : decode cL_act 774 = .ok (.aload_n 0, 1) := by decide +kernel
theorem dL_act_775 : decode cL_act 775 = .ok (.iload 5, 2) := by decide +kernel
theorem dL_act_777 : decode cL_act 777 = .ok (.invokevirtual 117, 3) := by decide +kernel
theorem dL_act_780 : decode cL_act 780 = .ok (.iload 4, 2) := by decide +kernel
theorem dL_act_782 : decode cL_act 782 = .ok (.iconst 1, 1) := by decide +kernel
theorem dL_act_783 : decode cL_act 783 = .ok (.isub, 1) := by decide +kernel
theorem dL_act_784 : decode cL_act 784 = .ok (.if_icmp .ne 16, 3) := by decide +kernel
theorem dL_act_787 : decode cL_act 787 = .ok (.aload_n 0, 1) := by decide +kernel
theorem dL_act_788 : decode cL_act 788 = .ok (.invokevirtual 96, 3) := by decide +kernel
theorem dL_act_791 : decode cL_act 791 = .ok (.iload 12, 2) := by decide +kernel
theorem dL_act_793 : decode cL_act 793 = .ok (.if_icmp .ne 7, 3) := by decide +kernel
theorem dL_act_796 : decode cL_act 796 = .ok (.iconst 1, 1) := by decide +kernel
theorem dL_act_797 : decode cL_act 797 = .ok (.goto 4, 3) := by decide +kernel
theorem dL_act_800 : decode cL_act 800 = .ok (.iconst 0, 1) := by decide +kernel
theorem dL_act_801 : decode cL_act 801 = .ok (.ireturn, 1) := by decide +kernel
theorem dL_act_802 : decode cL_act 802 = .ok (.aload_n 0, 1) := by decide +kernel
theorem dL_act_803 : decode cL_act 803 = .ok (.iload_n 1, 1) := by decide +kernel
theorem dL_act_804 : decode cL_act 804 = .ok (.iconst 4, 1) := by decide +kernel
theorem dL_act_805 : decode cL_act 805 = .ok (.ishr, 1) := by decide +kernel
theorem dL_act_806 : decode cL_act 806 = .ok (.bipush 90, 2) := by decide +kernel
theorem dL_act_808 : decode cL_act 808 = .ok (.invokestatic 18, 3) := by decide +kernel
theorem dL_act_811 : decode cL_act 811 = .ok (.iload_n 1, 1) := by decide +kernel
theorem dL_act_812 : decode cL_act 812 = .ok (.bipush 6, 2) := by decide +kernel
theorem dL_act_814 : decode cL_act 814 = .ok (.ishr, 1) := by decide +kernel
theorem dL_act_815 : decode cL_act 815 = .ok (.bipush 90, 2) := by decide +kernel
theorem dL_act_817 : decode cL_act 817 = .ok (.invokestatic 18, 3) := by decide +kernel
theorem dL_act_820 : decode cL_act 820 = .ok (.iconst 5, 1) := by decide +kernel
theorem dL_act_821 : decode cL_act 821 = .ok (.invokevirtual 22, 3) := by decide +kernel
theorem dL_act_824 : decode cL_act 824 = .ok (.iload_n 2, 1) := by decide +kernel
theorem dL_act_825 : decode cL_act 825 = .ok (.if_icmp .lt 7, 3) := by decide +kernel
theorem dL_act_828 : decode cL_act 828 = .ok (.iconst 1, 1) := by decide +kernel
theorem dL_act_829 : decode cL_act 829 = .ok (.goto 4, 3) := by decide +kernel
theorem dL_act_832 : decode cL_act 832 = .ok (.iconst 0, 1) := by decide +kernel
theorem dL_act_833 : decode cL_act 833 = .ok (.ireturn, 1) := by decide +kernel
theorem dL_act_834 : decode cL_act 834 = .ok (.astore 8, 2) := by decide +kernel
theorem dL_act_836 : decode cL_act 836 = .ok (.aload_n 0, 1) := by decide +kernel
theorem dL_act_837 : decode cL_act 837 = .ok (.invokevirtual 41, 3) := by decide +kernel
theorem dL_act_840 : decode cL_act 840 = .ok (.iload_n 2, 1) := by decide +kernel
theorem dL_act_841 : decode cL_act 841 = .ok (.if_icmp .ne 24, 3) := by decide +kernel
theorem dL_act_844 : decode cL_act 844 = .ok (.aload_n 0, 1) := by decide +kernel
theorem dL_act_845 : decode cL_act 845 = .ok (.invokevirtual 45, 3) := by decide +kernel
theorem dL_act_848 : decode cL_act 848 = .ok (.iload_n 3, 1) := by decide +kernel
theorem dL_act_849 : decode cL_act 849 = .ok (.if_icmp .ne 16, 3) := by decide +kernel
theorem dL_act_852 : decode cL_act 852 = .ok (.aload_n 0, 1) := by decide +kernel
theorem dL_act_853 : decode cL_act 853 = .ok (.invokevirtual 48, 3) := by decide +kernel
theorem dL_act_856 : decode cL_act 856 = .ok (.iload 4, 2) := by decide +kernel
theorem dL_act_858 : decode cL_act 858 = .ok (.if_icmp .ne 7, 3) := by decide +kernel
theorem dL_act_861 : decode cL_act 861 = .ok (.iconst 1, 1) := by decide +kernel
theorem dL_act_862 : decode cL_act 862 = .ok (.goto 4, 3) := by decide +kernel
theorem dL_act_865 : decode cL_act 865 = .ok (.iconst 0, 1) := by decide +kernel
theorem dL_act_866 : decode cL_act 866 = .ok (.ireturn, 1) := by decide +kernel
theorem dL_act_867 : decode cL_act 867 = .ok (.astore 8, 2) := by decide +kernel
theorem dL_act_869 : decode cL_act 869 = .ok (.aload_n 0, 1) := by decide +kernel
theorem dL_act_870 : decode cL_act 870 = .ok (.invokevirtual 41, 3) := by decide +kernel
theorem dL_act_873 : decode cL_act 873 = .ok (.iload_n 2, 1) := by decide +kernel
theorem dL_act_874 : decode cL_act 874 = .ok (.if_icmp .ne 24, 3) := by decide +kernel
theorem dL_act_877 : decode cL_act 877 = .ok (.aload_n 0, 1) := by decide +kernel
theorem dL_act_878 : decode cL_act 878 = .ok (.invokevirtual 45, 3) := by decide +kernel
theorem dL_act_881 : decode cL_act 881 = .ok (.iload_n 3, 1) := by decide +kernel
theorem dL_act_882 : decode cL_act 882 = .ok (.if_icmp .ne 16, 3) := by decide +kernel
theorem dL_act_885 : decode cL_act 885 = .ok (.aload_n 0, 1) := by decide +kernel
theorem dL_act_886 : decode cL_act 886 = .ok (.invokevirtual 48, 3) := by decide +kernel
theorem dL_act_889 : decode cL_act 889 = .ok (.iload 4, 2) := by decide +kernel
theorem dL_act_891 : decode cL_act 891 = .ok (.if_icmp .ne 7, 3) := by decide +kernel
theorem dL_act_894 : decode cL_act 894 = .ok (.iconst 1, 1) := by decide +kernel
theorem dL_act_895 : decode cL_act 895 = .ok (.goto 4, 3) := by decide +kernel
theorem dL_act_898 : decode cL_act 898 = .ok (.iconst 0, 1) := by decide +kernel
theorem dL_act_899 : decode cL_act 899 = .ok (.ireturn, 1) := by decide +kernel
theorem dL_act_900 : decode cL_act 900 = .ok (.astore 8, 2) := by decide +kernel
theorem dL_act_902 : decode cL_act 902 = .ok (.aload_n 0, 1) := by decide +kernel
theorem dL_act_903 : decode cL_act 903 = .ok (.invokevirtual 41, 3) := by decide +kernel
theorem dL_act_906 : decode cL_act 906 = .ok (.iload_n 2, 1) := by decide +kernel
theorem dL_act_907 : decode cL_act 907 = .ok (.if_icmp .ne 24, 3) := by decide +kernel
theorem dL_act_910 : decode cL_act 910 = .ok (.aload_n 0, 1) := by decide +kernel
theorem dL_act_911 : decode cL_act 911 = .ok (.invokevirtual 45, 3) := by decide +kernel
theorem dL_act_914 : decode cL_act 914 = .ok (.iload_n 3, 1) := by decide +kernel
theorem dL_act_915 : decode cL_act 915 = .ok (.if_icmp .ne 16, 3) := by decide +kernel
theorem dL_act_918 : decode cL_act 918 = .ok (.aload_n 0, 1) := by decide +kernel
theorem dL_act_919 : decode cL_act 919 = .ok (.invokevirtual 48, 3) := by decide +kernel
theorem dL_act_922 : decode cL_act 922 = .ok (.iload 4, 2) := by decide +kernel
theorem dL_act_924 : decode cL_act 924 = .ok (.if_icmp .ne 7, 3) := by decide +kernel
theorem dL_act_927 : decode cL_act 927 = .ok (.iconst 1, 1) := by decide +kernel
theorem dL_act_928 : decode cL_act 928 = .ok (.goto 4, 3) := by decide +kernel
theorem dL_act_931 : decode cL_act 931 = .ok (.iconst 0, 1) := by decide +kernel
theorem dL_act_932 : decode cL_act 932 = .ok (.ireturn, 1) := by decide +kernel
set_option maxRecDepth 20000 in
theorem ggL_sizeOf_X8_size : GoodIn wsL_sizeOf wsX8_size := goodIn_ca (goodIn_r _ [6, 7, 8, 9, 10, 5, 11, 12, 13, 14, 15, 16, 17, 18, 19, 20, 21, 22, 23, 24, 25, 26, 27, 28, 29, 30, 31, 32, 33, 34, 35, 36, 37, 38, 39, 40, 41, 42, 43, 44, 45, 46, 47] (by decide +kernel) (by decide +kernel)) (goodIn_sub (fun _ h => List.mem_cons_of_mem _ (List.mem_append_right _ h)) (by decide +kernel))
set_option maxRecDepth 20000 in
theorem gL_sizeOf_X8_size : GoodIn wsL_sizeOf (wsV RL 51 RX8 yX8_size wsX8_size) := goodIn_app (goodIn_of _ (by decide +kernel)) ggL_sizeOf_X8_size
theorem dL_sizeOf_0 : decode cL_sizeOf 0 = .ok (.aload_n 0, 1) := by decide +kernel
theorem dL_sizeOf_1 : decode cL_sizeOf 1 = .ok (.iload_n 1, 1) := by decide +kernel
theorem dL_sizeOf_2 : decode cL_sizeOf 2 = .ok (.invokevirtual 51, 3) := by decide +kernel
theorem dL_sizeOf_5 : decode cL_sizeOf 5 = .ok (.ireturn, 1) := by decide +kernel
theorem dL_sizeOf_6 : decode cL_sizeOf 6 = .ok (.astore_n 2, 1) := by decide +kernel
theorem dL_sizeOf_7 : decode cL_sizeOf 7 = .ok (.iconst 0, 1) := by decide +kernel
theorem dL_sizeOf_8 : decode cL_sizeOf 8 = .ok (.ireturn, 1) := by decide +kernel
set_option maxRecDepth 20000 in
theorem ggL_areRingsRight_L_sizeOf : GoodIn wsL_areRingsRight wsL_sizeOf := goodIn_ca (goodIn_r _ [6, 7, 8, 9, 10, 11, 12, 13, 14, 15, 16, 17, 18, 19, 20, 21, 22, 23, 24, 25, 26, 27, 28, 29, 30, 31, 32, 33, 34, 35, 36, 37, 38, 217, 218, 219, 220, 221, 222, 223, 224, 225, 226, 227, 228, 229, 230, 231] (by decide +kernel) (by decide +kernel)) (goodIn_sub (fun _ h => List.mem_cons_of_mem _ (List.mem_append_left _ (List.mem_append_right _ h))) (by decide +kernel))
set_option maxRecDepth 20000 in
theorem gL_areRingsRight_L_sizeOf : GoodIn wsL_areRingsRight (va_wsS RL 126 yL_sizeOf wsL_sizeOf) := goodIn_app (goodIn_of _ (by decide +kernel)) ggL_areRingsRight_L_sizeOf
set_option maxRecDepth 20000 in
theorem ggL_areRingsRight_X8_corner : GoodIn wsL_areRingsRight wsX8_corner := goodIn_ca (goodIn_r _ [42, 18, 19, 13, 14, 15, 16, 11, 17, 20, 21, 22, 23, 24, 25, 26, 27, 28, 29, 30, 31, 32, 33, 34, 35, 36, 37, 38, 43, 44, 45, 46, 47, 217, 218, 219, 220, 221, 222, 223, 224, 225, 226, 227, 228, 229, 230, 231] (by decide +kernel) (by decide +kernel)) (goodIn_sub (fun _ h => List.mem_cons_of_mem _ (List.mem_append_left _ (List.mem_append_right _ h))) (by decide +kernel))
set_option maxRecDepth 20000 in
theorem gL_areRingsRight_X8_corner : GoodIn wsL_areRingsRight (wsV RL 55 RX8 yX8_corner wsX8_corner) := goodIn_app (goodIn_of _ (by decide +kernel)) ggL_areRingsRight_X8_corner
set_option maxRecDepth 20000 in
theorem ggL_areRingsRight_X8_faceOf : GoodIn wsL_areRingsRight wsX8_faceOf := goodIn_ca (goodIn_r _ [51, 13, 52, 53, 54, 11, 55, 56, 57, 58, 59, 18, 19, 60, 61, 62, 63, 64, 65, 66, 67, 68, 69, 70, 71, 23, 72, 73, 217, 218, 219, 220, 221, 222, 223, 224, 232, 233, 234, 235, 225, 226, 227, 228, 229] (by decide +kernel) (by decide +kernel)) (goodIn_sub (fun _ h => List.mem_cons_of_mem _ (List.mem_append_left _ (List.mem_append_right _ h))) (by decide +kernel))
set_option maxRecDepth 20000 in
theorem gL_areRingsRight_X8_faceOf : GoodIn wsL_areRingsRight (wsV RL 64 RX8 yX8_faceOf wsX8_faceOf) := goodIn_app (goodIn_of _ (by decide +kernel)) ggL_areRingsRight_X8_faceOf
set_option maxRecDepth 20000 in
theorem ggL_areRingsRight_X8_at : GoodIn wsL_areRingsRight wsX8_at := goodIn_ca (goodIn_ca (goodIn_r _ [77, 60, 56, 57, 58, 11, 59, 18, 19, 61, 62, 63, 64, 65, 66, 67, 68, 78, 79, 80, 81, 82, 83, 84, 85, 86, 87, 88, 89, 90, 217, 218, 219, 220, 221, 222, 223, 224, 232, 233, 234, 235] (by decide +kernel) (by decide +kernel)) (goodIn_sub (fun _ h => List.mem_cons_of_mem _ (List.mem_append_left _ (List.mem_append_right _ h))) (by decide +kernel))) (goodIn_sub (fun _ h => List.mem_cons_of_mem _ (List.mem_append_right _ h)) (by decide +kernel))
set_option maxRecDepth 20000 in
theorem gL_areRingsRight_X8_at : GoodIn wsL_areRingsRight (wsV RL 73 RX8 yX8_at wsX8_at) := goodIn_app (goodIn_of _ (by decide +kernel)) ggL_areRingsRight_X8_at
set_option maxRecDepth 20000 in
theorem ggL_areRingsRight_X8_steps : GoodIn wsL_areRingsRight wsX8_steps := goodIn_ca (goodIn_r _ [94, 95, 52, 53, 54, 11, 55, 56, 57, 58, 59, 18, 19, 60, 61, 62, 63, 64, 65, 66, 67, 68, 96, 97, 98, 99, 100, 101, 102, 103, 104, 105, 106, 107, 108, 109, 110, 111, 112, 113, 114, 115, 116, 117, 118, 119, 23, 120, 121, 70, 71, 72, 73, 217, 218, 219, 220, 221, 222, 223, 224, 232, 233, 234, 235, 236, 237, 238, 239, 240, 241, 225, 226, 227, 228, 229] (by decide +kernel) (by decide +kernel)) (goodIn_sub (fun _ h => List.mem_cons_of_mem _ (List.mem_append_left _ (List.mem_append_right _ h))) (by decide +kernel))
set_option maxRecDepth 20000 in
theorem gL_areRingsRight_X8_steps : GoodIn wsL_areRingsRight (wsV RL 130 RX8 yX8_steps wsX8_steps) := goodIn_app (goodIn_of _ (by decide +kernel)) ggL_areRingsRight_X8_steps
set_option maxRecDepth 20000 in
theorem ggL_areRingsRight_X8_faces : GoodIn wsL_areRingsRight wsX8_faces := goodIn_r _ [125, 13, 126, 127, 128, 23, 129, 130, 217, 218, 219, 220, 221, 222, 223, 224, 225, 226, 227, 228, 229] (by decide +kernel) (by decide +kernel)
set_option maxRecDepth 20000 in
theorem gL_areRingsRight_X8_faces : GoodIn wsL_areRingsRight (wsV RL 48 RX8 yX8_faces wsX8_faces) := goodIn_app (goodIn_of _ (by decide +kernel)) ggL_areRingsRight_X8_faces
set_option maxRecDepth 20000 in
theorem ggL_areRingsRight_X8_edges : GoodIn wsL_areRingsRight wsX8_edges := goodIn_r _ [134, 13, 135, 136, 137, 23, 138, 139, 25, 26, 27, 28, 29, 30, 31, 32, 33, 34, 35, 36, 140, 44, 45, 46, 47, 141, 142, 143, 144, 121, 70, 71, 72, 73, 217, 218, 219, 220, 221, 222, 223, 224, 225, 226, 227, 228, 229, 230, 231] (by decide +kernel) (by decide +kernel)
set_option maxRecDepth 20000 in
theorem gL_areRingsRight_X8_edges : GoodIn wsL_areRingsRight (wsV RL 45 RX8 yX8_edges wsX8_edges) := goodIn_app (goodIn_of _ (by decide +kernel)) ggL_areRingsRight_X8_edges
set_option maxRecDepth 20000 in
theorem ggL_areRingsRight_X8_shells : GoodIn wsL_areRingsRight wsX8_shells := goodIn_r _ [148, 95, 149, 150, 151, 99, 152, 104, 153, 154, 155, 156, 157, 158, 159, 160, 23, 161, 139, 162, 21, 22, 24, 25, 26, 27, 28, 29, 30, 31, 32, 33, 34, 35, 36, 163, 164, 165, 166, 167, 11, 168, 169, 170, 171, 172, 102, 103, 109, 110, 111, 112, 173, 174, 175, 44, 45, 46, 47, 176, 70, 71, 72, 73, 217, 218, 219, 220, 221, 222, 223, 224, 236, 237, 238, 239, 240, 241, 225, 226, 227, 228, 229, 230, 231] (by decide +kernel) (by decide +kernel)
set_option maxRecDepth 20000 in
theorem gL_areRingsRight_X8_shells : GoodIn wsL_areRingsRight (wsV RL 133 RX8 yX8_shells wsX8_shells) := goodIn_app (goodIn_of _ (by decide +kernel)) ggL_areRingsRight_X8_shells
set_option maxRecDepth 20000 in
theorem ggL_areRingsRight_X8_holes : GoodIn wsL_areRingsRight wsX8_holes := goodIn_r _ [180, 95, 181, 182, 183, 99, 184, 185, 104, 186, 187, 188, 189, 190, 191, 158, 159, 160, 23, 161, 139, 173, 26, 27, 28, 29, 30, 174, 32, 33, 34, 35, 36, 175, 44, 45, 46, 47, 192, 193, 194, 195, 196, 197, 198, 199, 121, 70, 71, 72, 73, 200, 201, 202, 203, 204, 67, 11, 68, 205, 206, 207, 208, 209, 210, 211, 212, 25, 213, 214, 215, 216, 140, 217, 218, 219, 220, 221, 222, 223, 224, 236, 237, 238, 239, 240, 241, 242, 243, 225, 226, 227, 228, 229, 230, 231] (by decide +kernel) (by decide +kernel)
set_option maxRecDepth 20000 in
theorem gL_areRingsRight_X8_holes : GoodIn wsL_areRingsRight (wsV RL 96 RX8 yX8_holes wsX8_holes) := goodIn_app (goodIn_of _ (by decide +kernel)) ggL_areRingsRight_X8_holes
theorem dL_areRingsRight_0 : decode cL_areRingsRight 0 = .ok (.bipush 100, 2) := by decide +kernel
theorem dL_areRingsRight_2 : decode cL_areRingsRight 2 = .ok (.bipush 100, 2) := by decide +kernel
theorem dL_areRingsRight_4 : decode cL_areRingsRight 4 = .ok (.multianewarray 124 2, 4) := by decide +kernel
theorem dL_areRingsRight_8 : decode cL_areRingsRight 8 = .ok (.astore_n 1, 1) := by decide +kernel
theorem dL_areRingsRight_9 : decode cL_areRingsRight 9 = .ok (.iconst 0, 1) := by decide +kernel
theorem dL_areRingsRight_10 : decode cL_areRingsRight 10 = .ok (.istore_n 2, 1) := by decide +kernel
theorem dL_areRingsRight_11 : decode cL_areRingsRight 11 = .ok (.iconst 0, 1) := by decide +kernel
theorem dL_areRingsRight_12 : decode cL_areRingsRight 12 = .ok (.istore_n 3, 1) := by decide +kernel
theorem dL_areRingsRight_13 : decode cL_areRingsRight 13 = .ok (.iconst 0, 1) := by decide +kernel
theorem dL_areRingsRight_14 : decode cL_areRingsRight 14 = .ok (.istore 4, 2) := by decide +kernel
theorem dL_areRingsRight_16 : decode cL_areRingsRight 16 = .ok (.iload 4, 2) := by decide +kernel
theorem dL_areRingsRight_18 : decode cL_areRingsRight 18 = .ok (.sipush 160, 3) := by decide +kernel
theorem dL_areRingsRight_21 : decode cL_areRingsRight 21 = .ok (.if_icmp .ge 198, 3) := by decide +kernel
theorem dL_areRingsRight_24 : decode cL_areRingsRight 24 = .ok (.aload_n 0, 1) := by decide +kernel
theorem dL_areRingsRight_25 : decode cL_areRingsRight 25 = .ok (.iload 4, 2) := by decide +kernel
theorem dL_areRingsRight_27 : decode cL_areRingsRight 27 = .ok (.invokestatic 126, 3) := by decide +kernel
theorem dL_areRingsRight_30 : decode cL_areRingsRight 30 = .ok (.istore 5, 2) := by decide +kernel
theorem dL_areRingsRight_32 : decode cL_areRingsRight 32 = .ok (.iload_n 2, 1) := by decide +kernel
theorem dL_areRingsRight_33 : decode cL_areRingsRight 33 = .ok (.iload 5, 2) := by decide +kernel
theorem dL_areRingsRight_35 : decode cL_areRingsRight 35 = .ok (.ifCond .le 7, 3) := by decide +kernel
theorem dL_areRingsRight_38 : decode cL_areRingsRight 38 = .ok (.iconst 1, 1) := by decide +kernel
theorem dL_areRingsRight_39 : decode cL_areRingsRight 39 = .ok (.goto 4, 3) := by decide +kernel
theorem dL_areRingsRight_42 : decode cL_areRingsRight 42 = .ok (.iconst 0, 1) := by decide +kernel
theorem dL_areRingsRight_43 : decode cL_areRingsRight 43 = .ok (.iadd, 1) := by decide +kernel
theorem dL_areRingsRight_44 : decode cL_areRingsRight 44 = .ok (.istore_n 2, 1) := by decide +kernel
theorem dL_areRingsRight_45 : decode cL_areRingsRight 45 = .ok (.iload_n 3, 1) := by decide +kernel
theorem dL_areRingsRight_46 : decode cL_areRingsRight 46 = .ok (.iload 5, 2) := by decide +kernel
theorem dL_areRingsRight_48 : decode cL_areRingsRight 48 = .ok (.iadd, 1) := by decide +kernel
theorem dL_areRingsRight_49 : decode cL_areRingsRight 49 = .ok (.istore_n 3, 1) := by decide +kernel
theorem dL_areRingsRight_50 : decode cL_areRingsRight 50 = .ok (.iload 5, 2) := by decide +kernel
theorem dL_areRingsRight_52 : decode cL_areRingsRight 52 = .ok (.ifCond .le 18, 3) := by decide +kernel
theorem dL_areRingsRight_55 : decode cL_areRingsRight 55 = .ok (.iload 5, 2) := by decide +kernel
theorem dL_areRingsRight_57 : decode cL_areRingsRight 57 = .ok (.iconst 3, 1) := by decide +kernel
theorem dL_areRingsRight_58 : decode cL_areRingsRight 58 = .ok (.if_icmp .lt 10, 3) := by decide +kernel
theorem dL_areRingsRight_61 : decode cL_areRingsRight 61 = .ok (.iload 5, 2) := by decide +kernel
theorem dL_areRingsRight_63 : decode cL_areRingsRight 63 = .ok (.bipush 12, 2) := by decide +kernel
theorem dL_areRingsRight_65 : decode cL_areRingsRight 65 = .ok (.if_icmp .le 5, 3) := by decide +kernel
theorem dL_areRingsRight_68 : decode cL_areRingsRight 68 = .ok (.iconst 0, 1) := by decide +kernel
theorem dL_areRingsRight_69 : decode cL_areRingsRight 69 = .ok (.ireturn, 1) := by decide +kernel
theorem dL_areRingsRight_70 : decode cL_areRingsRight 70 = .ok (.iconst 0, 1) := by decide +kernel
theorem dL_areRingsRight_71 : decode cL_areRingsRight 71 = .ok (.istore 6, 2) := by decide +kernel
theorem dL_areRingsRight_73 : decode cL_areRingsRight 73 = .ok (.iload 6, 2) := by decide +kernel
theorem dL_areRingsRight_75 : decode cL_areRingsRight 75 = .ok (.iload 5, 2) := by decide +kernel
theorem dL_areRingsRight_77 : decode cL_areRingsRight 77 = .ok (.if_icmp .ge 136, 3) := by decide +kernel
theorem dL_areRingsRight_80 : decode cL_areRingsRight 80 = .ok (.aload_n 0, 1) := by decide +kernel
theorem dL_areRingsRight_81 : decode cL_areRingsRight 81 = .ok (.iload 4, 2) := by decide +kernel
theorem dL_areRingsRight_83 : decode cL_areRingsRight 83 = .ok (.iload 6, 2) := by decide +kernel
theorem dL_areRingsRight_85 : decode cL_areRingsRight 85 = .ok (.invokevirtual 55, 3) := by decide +kernel
theorem dL_areRingsRight_88 : decode cL_areRingsRight 88 = .ok (.istore 7, 2) := by decide +kernel
theorem dL_areRingsRight_90 : decode cL_areRingsRight 90 = .ok (.aload_n 0, 1) := by decide +kernel
theorem dL_areRingsRight_91 : decode cL_areRingsRight 91 = .ok (.iload 4, 2) := by decide +kernel
theorem dL_areRingsRight_93 : decode cL_areRingsRight 93 = .ok (.iload 6, 2) := by decide +kernel
theorem dL_areRingsRight_95 : decode cL_areRingsRight 95 = .ok (.iconst 1, 1) := by decide +kernel
theorem dL_areRingsRight_96 : decode cL_areRingsRight 96 = .ok (.iadd, 1) := by decide +kernel
theorem dL_areRingsRight_97 : decode cL_areRingsRight 97 = .ok (.iload 5, 2) := by decide +kernel
theorem dL_areRingsRight_99 : decode cL_areRingsRight 99 = .ok (.irem, 1) := by decide +kernel
theorem dL_areRingsRight_100 : decode cL_areRingsRight 100 = .ok (.invokevirtual 55, 3) := by decide +kernel
theorem dL_areRingsRight_103 : decode cL_areRingsRight 103 = .ok (.istore 8, 2) := by decide +kernel
theorem dL_areRingsRight_105 : decode cL_areRingsRight 105 = .ok (.aload_n 1, 1) := by decide +kernel
theorem dL_areRingsRight_106 : decode cL_areRingsRight 106 = .ok (.iload 7, 2) := by decide +kernel
theorem dL_areRingsRight_108 : decode cL_areRingsRight 108 = .ok (.aaload, 1) := by decide +kernel
theorem dL_areRingsRight_109 : decode cL_areRingsRight 109 = .ok (.iload 8, 2) := by decide +kernel
theorem dL_areRingsRight_111 : decode cL_areRingsRight 111 = .ok (.baload, 1) := by decide +kernel
theorem dL_areRingsRight_112 : decode cL_areRingsRight 112 = .ok (.ifCond .ne 54, 3) := by decide +kernel
theorem dL_areRingsRight_115 : decode cL_areRingsRight 115 = .ok (.aload_n 0, 1) := by decide +kernel
theorem dL_areRingsRight_116 : decode cL_areRingsRight 116 = .ok (.iload 7, 2) := by decide +kernel
theorem dL_areRingsRight_118 : decode cL_areRingsRight 118 = .ok (.iload 8, 2) := by decide +kernel
theorem dL_areRingsRight_120 : decode cL_areRingsRight 120 = .ok (.invokevirtual 64, 3) := by decide +kernel
theorem dL_areRingsRight_123 : decode cL_areRingsRight 123 = .ok (.iload 4, 2) := by decide +kernel
theorem dL_areRingsRight_125 : decode cL_areRingsRight 125 = .ok (.if_icmp .ne 41, 3) := by decide +kernel
theorem dL_areRingsRight_128 : decode cL_areRingsRight 128 = .ok (.aload_n 0, 1) := by decide +kernel
theorem dL_areRingsRight_129 : decode cL_areRingsRight 129 = .ok (.iload 7, 2) := by decide +kernel
theorem dL_areRingsRight_131 : decode cL_areRingsRight 131 = .ok (.iconst 0, 1) := by decide +kernel
theorem dL_areRingsRight_132 : decode cL_areRingsRight 132 = .ok (.invokevirtual 73, 3) := by decide +kernel
theorem dL_areRingsRight_135 : decode cL_areRingsRight 135 = .ok (.sipush (-500), 3) := by decide +kernel
theorem dL_areRingsRight_138 : decode cL_areRingsRight 138 = .ok (.if_icmp .lt 28, 3) := by decide +kernel
theorem dL_areRingsRight_141 : decode cL_areRingsRight 141 = .ok (.aload_n 0, 1) := by decide +kernel
theorem dL_areRingsRight_142 : decode cL_areRingsRight 142 = .ok (.iload 7, 2) := by decide +kernel
theorem dL_areRingsRight_144 : decode cL_areRingsRight 144 = .ok (.iconst 2, 1) := by decide +kernel
theorem dL_areRingsRight_145 : decode cL_areRingsRight 145 = .ok (.invokevirtual 73, 3) := by decide +kernel
theorem dL_areRingsRight_148 : decode cL_areRingsRight 148 = .ok (.sipush 500, 3) := by decide +kernel
theorem dL_areRingsRight_151 : decode cL_areRingsRight 151 = .ok (.if_icmp .gt 15, 3) := by decide +kernel
theorem dL_areRingsRight_154 : decode cL_areRingsRight 154 = .ok (.aload_n 0, 1) := by decide +kernel
theorem dL_areRingsRight_155 : decode cL_areRingsRight 155 = .ok (.iload 7, 2) := by decide +kernel
theorem dL_areRingsRight_157 : decode cL_areRingsRight 157 = .ok (.iload 8, 2) := by decide +kernel
theorem dL_areRingsRight_159 : decode cL_areRingsRight 159 = .ok (.invokevirtual 130, 3) := by decide +kernel
theorem dL_areRingsRight_162 : decode cL_areRingsRight 162 = .ok (.iconst 1, 1) := by decide +kernel
theorem dL_areRingsRight_163 : decode cL_areRingsRight 163 = .ok (.if_icmp .eq 5, 3) := by decide +kernel
theorem dL_areRingsRight_166 : decode cL_areRingsRight 166 = .ok (.iconst 0, 1) := by decide +kernel
theorem dL_areRingsRight_167 : decode cL_areRingsRight 167 = .ok (.ireturn, 1) := by decide +kernel
theorem dL_areRingsRight_168 : decode cL_areRingsRight 168 = .ok (.aload_n 1, 1) := by decide +kernel
theorem dL_areRingsRight_169 : decode cL_areRingsRight 169 = .ok (.iload 7, 2) := by decide +kernel
theorem dL_areRingsRight_171 : decode cL_areRingsRight 171 = .ok (.aaload, 1) := by decide +kernel
theorem dL_areRingsRight_172 : decode cL_areRingsRight 172 = .ok (.iload 8, 2) := by decide +kernel
theorem dL_areRingsRight_174 : decode cL_areRingsRight 174 = .ok (.iconst 1, 1) := by decide +kernel
theorem dL_areRingsRight_175 : decode cL_areRingsRight 175 = .ok (.bastore, 1) := by decide +kernel
theorem dL_areRingsRight_176 : decode cL_areRingsRight 176 = .ok (.iconst 0, 1) := by decide +kernel
theorem dL_areRingsRight_177 : decode cL_areRingsRight 177 = .ok (.istore 9, 2) := by decide +kernel
theorem dL_areRingsRight_179 : decode cL_areRingsRight 179 = .ok (.iload 9, 2) := by decide +kernel
theorem dL_areRingsRight_181 : decode cL_areRingsRight 181 = .ok (.iload 6, 2) := by decide +kernel
theorem dL_areRingsRight_183 : decode cL_areRingsRight 183 = .ok (.if_icmp .ge 24, 3) := by decide +kernel
theorem dL_areRingsRight_186 : decode cL_areRingsRight 186 = .ok (.aload_n 0, 1) := by decide +kernel
theorem dL_areRingsRight_187 : decode cL_areRingsRight 187 = .ok (.iload 4, 2) := by decide +kernel
theorem dL_areRingsRight_189 : decode cL_areRingsRight 189 = .ok (.iload 9, 2) := by decide +kernel
theorem dL_areRingsRight_191 : decode cL_areRingsRight 191 = .ok (.invokevirtual 55, 3) := by decide +kernel
theorem dL_areRingsRight_194 : decode cL_areRingsRight 194 = .ok (.iload 7, 2) := by decide +kernel
theorem dL_areRingsRight_196 : decode cL_areRingsRight 196 = .ok (.if_icmp .ne 5, 3) := by decide +kernel
theorem dL_areRingsRight_199 : decode cL_areRingsRight 199 = .ok (.iconst 0, 1) := by decide +kernel
theorem dL_areRingsRight_200 : decode cL_areRingsRight 200 = .ok (.ireturn, 1) := by decide +kernel
theorem dL_areRingsRight_201 : decode cL_areRingsRight 201 = .ok (.iinc 9 1, 3) := by decide +kernel
theorem dL_areRingsRight_204 : decode cL_areRingsRight 204 = .ok (.goto (-25), 3) := by decide +kernel
theorem dL_areRingsRight_207 : decode cL_areRingsRight 207 = .ok (.iinc 6 1, 3) := by decide +kernel
theorem dL_areRingsRight_210 : decode cL_areRingsRight 210 = .ok (.goto (-137), 3) := by decide +kernel
theorem dL_areRingsRight_213 : decode cL_areRingsRight 213 = .ok (.iinc 4 1, 3) := by decide +kernel
theorem dL_areRingsRight_216 : decode cL_areRingsRight 216 = .ok (.goto (-200), 3) := by decide +kernel
theorem dL_areRingsRight_219 : decode cL_areRingsRight 219 = .ok (.iconst 0, 1) := by decide +kernel
theorem dL_areRingsRight_220 : decode cL_areRingsRight 220 = .ok (.istore 4, 2) := by decide +kernel
theorem dL_areRingsRight_222 : decode cL_areRingsRight 222 = .ok (.iconst 0, 1) := by decide +kernel
theorem dL_areRingsRight_223 : decode cL_areRingsRight 223 = .ok (.istore 5, 2) := by decide +kernel
theorem dL_areRingsRight_225 : decode cL_areRingsRight 225 = .ok (.iload 5, 2) := by decide +kernel
theorem dL_areRingsRight_227 : decode cL_areRingsRight 227 = .ok (.bipush 100, 2) := by decide +kernel
theorem dL_areRingsRight_229 : decode cL_areRingsRight 229 = .ok (.if_icmp .ge 55, 3) := by decide +kernel
theorem dL_areRingsRight_232 : decode cL_areRingsRight 232 = .ok (.iconst 0, 1) := by decide +kernel
theorem dL_areRingsRight_233 : decode cL_areRingsRight 233 = .ok (.istore 6, 2) := by decide +kernel
theorem dL_areRingsRight_235 : decode cL_areRingsRight 235 = .ok (.iload 6, 2) := by decide +kernel
theorem dL_areRingsRight_237 : decode cL_areRingsRight 237 = .ok (.bipush 100, 2) := by decide +kernel
theorem dL_areRingsRight_239 : decode cL_areRingsRight 239 = .ok (.if_icmp .ge 39, 3) := by decide +kernel
theorem dL_areRingsRight_242 : decode cL_areRingsRight 242 = .ok (.iload 4, 2) := by decide +kernel
theorem dL_areRingsRight_244 : decode cL_areRingsRight 244 = .ok (.aload_n 1, 1) := by decide +kernel
theorem dL_areRingsRight_245 : decode cL_areRingsRight 245 = .ok (.iload 5, 2) := by decide +kernel
theorem dL_areRingsRight_247 : decode cL_areRingsRight 247 = .ok (.aaload, 1) := by decide +kernel
theorem dL_areRingsRight_248 : decode cL_areRingsRight 248 = .ok (.iload 6, 2) := by decide +kernel
theorem dL_areRingsRight_250 : decode cL_areRingsRight 250 = .ok (.baload, 1) := by decide +kernel
theorem dL_areRingsRight_251 : decode cL_areRingsRight 251 = .ok (.ifCond .ne 17, 3) := by decide +kernel
theorem dL_areRingsRight_254 : decode cL_areRingsRight 254 = .ok (.aload_n 1, 1) := by decide +kernel
theorem dL_areRingsRight_255 : decode cL_areRingsRight 255 = .ok (.iload 6, 2) := by decide +kernel
theorem dL_areRingsRight_257 : decode cL_areRingsRight 257 = .ok (.aaload, 1) := by decide +kernel
theorem dL_areRingsRight_258 : decode cL_areRingsRight 258 = .ok (.iload 5, 2) := by decide +kernel
theorem dL_areRingsRight_260 : decode cL_areRingsRight 260 = .ok (.baload, 1) := by decide +kernel
theorem dL_areRingsRight_261 : decode cL_areRingsRight 261 = .ok (.ifCond .eq 7, 3) := by decide +kernel
theorem dL_areRingsRight_264 : decode cL_areRingsRight 264 = .ok (.iconst 1, 1) := by decide +kernel
theorem dL_areRingsRight_265 : decode cL_areRingsRight 265 = .ok (.goto 4, 3) := by decide +kernel
theorem dL_areRingsRight_268 : decode cL_areRingsRight 268 = .ok (.iconst 0, 1) := by decide +kernel
theorem dL_areRingsRight_269 : decode cL_areRingsRight 269 = .ok (.iadd, 1) := by decide +kernel
theorem dL_areRingsRight_270 : decode cL_areRingsRight 270 = .ok (.istore 4, 2) := by decide +kernel
theorem dL_areRingsRight_272 : decode cL_areRingsRight 272 = .ok (.iinc 6 1, 3) := by decide +kernel
theorem dL_areRingsRight_275 : decode cL_areRingsRight 275 = .ok (.goto (-40), 3) := by decide +kernel
theorem dL_areRingsRight_278 : decode cL_areRingsRight 278 = .ok (.iinc 5 1, 3) := by decide +kernel
theorem dL_areRingsRight_281 : decode cL_areRingsRight 281 = .ok (.goto (-56), 3) := by decide +kernel
theorem dL_areRingsRight_284 : decode cL_areRingsRight 284 = .ok (.aload_n 0, 1) := by decide +kernel
theorem dL_areRingsRight_285 : decode cL_areRingsRight 285 = .ok (.invokevirtual 48, 3) := by decide +kernel
theorem dL_areRingsRight_288 : decode cL_areRingsRight 288 = .ok (.iload_n 2, 1) := by decide +kernel
theorem dL_areRingsRight_289 : decode cL_areRingsRight 289 = .ok (.if_icmp .ne 64, 3) := by decide +kernel
theorem dL_areRingsRight_292 : decode cL_areRingsRight 292 = .ok (.iconst 2, 1) := by decide +kernel
theorem dL_areRingsRight_293 : decode cL_areRingsRight 293 = .ok (.aload_n 0, 1) := by decide +kernel
theorem dL_areRingsRight_294 : decode cL_areRingsRight 294 = .ok (.invokevirtual 45, 3) := by decide +kernel
theorem dL_areRingsRight_297 : decode cL_areRingsRight 297 = .ok (.imul, 1) := by decide +kernel
theorem dL_areRingsRight_298 : decode cL_areRingsRight 298 = .ok (.iload_n 3, 1) := by decide +kernel
theorem dL_areRingsRight_299 : decode cL_areRingsRight 299 = .ok (.iload 4, 2) := by decide +kernel
theorem dL_areRingsRight_301 : decode cL_areRingsRight 301 = .ok (.iadd, 1) := by decide +kernel
theorem dL_areRingsRight_302 : decode cL_areRingsRight 302 = .ok (.if_icmp .ne 51, 3) := by decide +kernel
theorem dL_areRingsRight_305 : decode cL_areRingsRight 305 = .ok (.aload_n 0, 1) := by decide +kernel
theorem dL_areRingsRight_306 : decode cL_areRingsRight 306 = .ok (.invokevirtual 133, 3) := by decide +kernel
theorem dL_areRingsRight_309 : decode cL_areRingsRight 309 = .ok (.iload_n 2, 1) := by decide +kernel
theorem dL_areRingsRight_310 : decode cL_areRingsRight 310 = .ok (.if_icmp .gt 43, 3) := by decide +kernel
theorem dL_areRingsRight_313 : decode cL_areRingsRight 313 = .ok (.aload_n 0, 1) := by decide +kernel
theorem dL_areRingsRight_314 : decode cL_areRingsRight 314 = .ok (.invokevirtual 96, 3) := by decide +kernel
theorem dL_areRingsRight_317 : decode cL_areRingsRight 317 = .ok (.ifCond .ne 7, 3) := by decide +kernel
theorem dL_areRingsRight_320 : decode cL_areRingsRight 320 = .ok (.iconst 1, 1) := by decide +kernel
theorem dL_areRingsRight_321 : decode cL_areRingsRight 321 = .ok (.goto 4, 3) := by decide +kernel
theorem dL_areRingsRight_324 : decode cL_areRingsRight 324 = .ok (.iconst 0, 1) := by decide +kernel
theorem dL_areRingsRight_325 : decode cL_areRingsRight 325 = .ok (.iload 4, 2) := by decide +kernel
theorem dL_areRingsRight_327 : decode cL_areRingsRight 327 = .ok (.ifCond .ne 7, 3) := by decide +kernel
theorem dL_areRingsRight_330 : decode cL_areRingsRight 330 = .ok (.iconst 1, 1) := by decide +kernel
theorem dL_areRingsRight_331 : decode cL_areRingsRight 331 = .ok (.goto 4, 3) := by decide +kernel
theorem dL_areRingsRight_334 : decode cL_areRingsRight 334 = .ok (.iconst 0, 1) := by decide +kernel
theorem dL_areRingsRight_335 : decode cL_areRingsRight 335 = .ok (.if_icmp .ne 18, 3) := by decide +kernel
theorem dL_areRingsRight_338 : decode cL_areRingsRight 338 = .ok (.iconst 3, 1) := by decide +kernel
theorem dL_areRingsRight_339 : decode cL_areRingsRight 339 = .ok (.aload_n 0, 1) := by decide +kernel
theorem dL_areRingsRight_340 : decode cL_areRingsRight 340 = .ok (.invokevirtual 96, 3) := by decide +kernel
theorem dL_areRingsRight_343 : decode cL_areRingsRight 343 = .ok (.imul, 1) := by decide +kernel
theorem dL_areRingsRight_344 : decode cL_areRingsRight 344 = .ok (.iload 4, 2) := by decide +kernel
theorem dL_areRingsRight_346 : decode cL_areRingsRight 346 = .ok (.if_icmp .gt 7, 3) := by decide +kernel
theorem dL_areRingsRight_349 : decode cL_areRingsRight 349 = .ok (.iconst 1, 1) := by decide +kernel
theorem dL_areRingsRight_350 : decode cL_areRingsRight 350 = .ok (.goto 4, 3) := by decide +kernel
theorem dL_areRingsRight_353 : decode cL_areRingsRight 353 = .ok (.iconst 0, 1) := by decide +kernel
theorem dL_areRingsRight_354 : decode cL_areRingsRight 354 = .ok (.ireturn, 1) := by decide +kernel
set_option maxRecDepth 20000 in
theorem ggL_isMayRight_X8_edges : GoodIn wsL_isMayRight wsX8_edges := goodIn_r _ [5, 6, 7, 8, 9, 10, 11, 12, 13, 14, 15, 16, 17, 18, 19, 20, 21, 22, 23, 24, 25, 26, 27, 28, 29, 30, 31, 32, 33, 34, 35, 36, 37, 38, 256, 257, 258, 259, 260, 261, 262, 263, 264, 265, 266, 267, 268, 269, 270] (by decide +kernel) (by decide +kernel)
set_option maxRecDepth 20000 in
theorem gL_isMayRight_X8_edges : GoodIn wsL_isMayRight (wsV RL 45 RX8 yX8_edges wsX8_edges) := goodIn_app (goodIn_of _ (by decide +kernel)) ggL_isMayRight_X8_edges
set_option maxRecDepth 20000 in
theorem ggL_isMayRight_X8_may : GoodIn wsL_isMayRight wsX8_may := goodIn_ca (goodIn_r _ [42, 43, 44, 4, 45, 46, 47, 48, 49, 50, 51, 6, 52, 53, 54, 10, 55, 12, 56, 14, 15, 16, 17, 18, 57, 20, 21, 22, 23, 24, 58, 26, 27, 28, 29, 59, 60, 61, 62, 63, 64, 65, 66, 67, 68, 69, 70, 71, 72, 73, 74, 75, 76, 77, 35, 36, 37, 38, 78, 79, 80, 81, 82, 83, 84, 85, 86, 87, 88, 89, 90, 91, 92, 93, 94, 95, 96, 97, 98, 99, 100, 101, 102, 103, 104, 105, 106, 107, 108, 109, 110, 111, 112, 113, 114, 115, 116, 117, 118, 119, 120, 121, 122, 123, 124, 125, 126, 13, 127, 25, 128, 129, 130, 131, 34, 132, 133, 134, 135, 136, 137, 138, 139, 140, 141, 142, 143, 144, 256, 257, 258, 259, 260, 261, 262, 263, 264, 265, 266, 267, 268, 269, 270, 271, 272, 273, 274, 275] (by decide +kernel) (by decide +kernel)) (goodIn_sub (fun _ h => List.mem_cons_of_mem _ (List.mem_append_left _ (List.mem_append_right _ h))) (by decide +kernel))
set_option maxRecDepth 20000 in
theorem gL_isMayRight_X8_may : GoodIn wsL_isMayRight (wsV RL 136 RX8 yX8_may wsX8_may) := goodIn_app (goodIn_of _ (by decide +kernel)) ggL_isMayRight_X8_may
set_option maxRecDepth 20000 in
theorem ggL_isMayRight_L_below : GoodIn wsL_isMayRight wsL_below := goodIn_r _ [148, 149] (by decide +kernel) (by decide +kernel)
set_option maxRecDepth 20000 in
theorem gL_isMayRight_L_below : GoodIn wsL_isMayRight (va_wsS RL 18 yL_below wsL_below) := goodIn_app (goodIn_of _ (by decide +kernel)) ggL_isMayRight_L_below
set_option maxRecDepth 20000 in
theorem ggL_isMayRight_L_sizeOf : GoodIn wsL_isMayRight wsL_sizeOf := goodIn_ca (goodIn_r _ [152, 153, 154, 155, 156, 4, 157, 6, 158, 159, 160, 161, 162, 163, 164, 165, 166, 10, 167, 13, 14, 15, 16, 17, 18, 19, 20, 21, 22, 23, 24, 56, 57, 256, 257, 258, 259, 260, 261, 262, 263, 264, 265, 266, 267, 268, 269, 270] (by decide +kernel) (by decide +kernel)) (goodIn_sub (fun _ h => List.mem_cons_of_mem _ (List.mem_append_right _ h)) (by decide +kernel))
set_option maxRecDepth 20000 in
theorem gL_isMayRight_L_sizeOf : GoodIn wsL_isMayRight (va_wsS RL 126 yL_sizeOf wsL_sizeOf) := goodIn_app (goodIn_of _ (by decide +kernel)) ggL_isMayRight_L_sizeOf
set_option maxRecDepth 20000 in
theorem ggL_isMayRight_X8_holesWithout : GoodIn wsL_isMayRight wsX8_holesWithout := goodIn_ca (goodIn_r _ [171, 6, 172, 158, 159, 160, 4, 161, 162, 163, 164, 165, 166, 10, 167, 13, 14, 15, 16, 17, 18, 19, 20, 21, 22, 23, 24, 173, 174, 175, 176, 25, 26, 27, 28, 29, 34, 35, 36, 37, 38, 177, 178, 179, 180, 181, 182, 183, 184, 185, 186, 187, 188, 72, 73, 74, 75, 76, 189, 53, 54, 55, 12, 190, 191, 192, 193, 194, 195, 196, 197, 142, 143, 144, 198, 103, 104, 105, 106, 107, 108, 199, 200, 201, 202, 203, 204, 205, 206, 127, 85, 86, 87, 207, 208, 209, 210, 256, 257, 258, 259, 260, 261, 262, 263, 264, 265, 266, 267, 268, 269, 270, 276, 277, 278, 279, 280, 281, 274, 275] (by decide +kernel) (by decide +kernel)) (goodIn_sub (fun _ h => List.mem_cons_of_mem _ (List.mem_append_right _ h)) (by decide +kernel))
set_option maxRecDepth 20000 in
theorem gL_isMayRight_X8_holesWithout : GoodIn wsL_isMayRight (wsV RL 114 RX8 yX8_holesWithout wsX8_holesWithout) := goodIn_app (goodIn_of _ (by decide +kernel)) ggL_isMayRight_X8_holesWithout
set_option maxRecDepth 20000 in
theorem ggL_isMayRight_X8_corner : GoodIn wsL_isMayRight wsX8_corner := goodIn_ca (goodIn_r _ [214, 162, 163, 6, 158, 159, 160, 4, 161, 164, 165, 166, 10, 167, 13, 14, 15, 16, 17, 18, 19, 20, 21, 22, 23, 24, 56, 57, 58, 26, 27, 28, 29, 256, 257, 258, 259, 260, 261, 262, 263, 264, 265, 266, 267, 268, 269, 270] (by decide +kernel) (by decide +kernel)) (goodIn_sub (fun _ h => List.mem_cons_of_mem _ (List.mem_append_right _ h)) (by decide +kernel))
set_option maxRecDepth 20000 in
theorem gL_isMayRight_X8_corner : GoodIn wsL_isMayRight (wsV RL 55 RX8 yX8_corner wsX8_corner) := goodIn_app (goodIn_of _ (by decide +kernel)) ggL_isMayRight_X8_corner
set_option maxRecDepth 20000 in
theorem ggL_isMayRight_X8_hole : GoodIn wsL_isMayRight wsX8_hole := goodIn_ca (goodIn_r _ [218, 172, 219, 220, 221, 4, 222, 223, 224, 225, 226, 162, 163, 227, 228, 229, 230, 231, 232, 233, 107, 108, 234, 235, 236, 184, 237, 186, 188, 72, 73, 74, 75, 76, 193, 194, 195, 196, 187, 197, 142, 143, 10, 144, 34, 35, 36, 37, 38, 198, 103, 104, 105, 106, 199, 200, 201, 202, 203, 204, 205, 206, 13, 14, 15, 16, 17, 18, 127, 85, 86, 22, 87, 24, 29, 25, 26, 27, 28, 256, 257, 258, 259, 260, 261, 262, 263, 282, 283, 284, 285, 276, 277, 278, 279, 280, 281, 274, 275, 264, 265, 266, 267, 268, 269, 270] (by decide +kernel) (by decide +kernel)) (goodIn_sub (fun _ h => List.mem_cons_of_mem _ (List.mem_append_right _ h)) (by decide +kernel))
set_option maxRecDepth 20000 in
theorem gL_isMayRight_X8_hole : GoodIn wsL_isMayRight (wsV RL 102 RX8 yX8_hole wsX8_hole) := goodIn_app (goodIn_of _ (by decide +kernel)) ggL_isMayRight_X8_hole
set_option maxRecDepth 20000 in
theorem ggL_isMayRight_X8_meanEdge : GoodIn wsL_isMayRight wsX8_meanEdge := goodIn_r _ [241, 6, 7, 8, 9, 10, 11, 12, 13, 14, 15, 16, 17, 18, 19, 20, 21, 22, 23, 24, 25, 26, 27, 28, 29, 30, 31, 32, 33, 34, 35, 36, 37, 38, 242, 243, 244, 4, 245, 227, 52, 53, 54, 55, 56, 57, 58, 246, 247, 248, 249, 231, 250, 251, 252, 253, 254, 255, 107, 108, 256, 257, 258, 259, 260, 261, 262, 263, 264, 265, 266, 267, 268, 269, 270, 282, 283, 284, 285] (by decide +kernel) (by decide +kernel)
set_option maxRecDepth 20000 in
theorem gL_isMayRight_X8_meanEdge : GoodIn wsL_isMayRight (wsV RL 139 RX8 yX8_meanEdge wsX8_meanEdge) := goodIn_app (goodIn_of _ (by decide +kernel)) ggL_isMayRight_X8_meanEdge
theorem dL_isMayRight_0 : decode cL_isMayRight 0 = .ok (.iconst 2, 1) := by decide +kernel
theorem dL_isMayRight_1 : decode cL_isMayRight 1 = .ok (.aload_n 0, 1) := by decide +kernel
theorem dL_isMayRight_2 : decode cL_isMayRight 2 = .ok (.invokevirtual 45, 3) := by decide +kernel
theorem dL_isMayRight_5 : decode cL_isMayRight 5 = .ok (.imul, 1) := by decide +kernel
theorem dL_isMayRight_6 : decode cL_isMayRight 6 = .ok (.istore_n 2, 1) := by decide +kernel
theorem dL_isMayRight_7 : decode cL_isMayRight 7 = .ok (.aload_n 0, 1) := by decide +kernel
theorem dL_isMayRight_8 : decode cL_isMayRight 8 = .ok (.iconst 0, 1) := by decide +kernel
theorem dL_isMayRight_9 : decode cL_isMayRight 9 = .ok (.invokevirtual 136, 3) := by decide +kernel
theorem dL_isMayRight_12 : decode cL_isMayRight 12 = .ok (.iload_n 2, 1) := by decide +kernel
theorem dL_isMayRight_13 : decode cL_isMayRight 13 = .ok (.if_icmp .gt 21, 3) := by decide +kernel
theorem dL_isMayRight_16 : decode cL_isMayRight 16 = .ok (.aload_n 0, 1) := by decide +kernel
theorem dL_isMayRight_17 : decode cL_isMayRight 17 = .ok (.iconst 1, 1) := by decide +kernel
theorem dL_isMayRight_18 : decode cL_isMayRight 18 = .ok (.invokevirtual 136, 3) := by decide +kernel
theorem dL_isMayRight_21 : decode cL_isMayRight 21 = .ok (.iload_n 2, 1) := by decide +kernel
theorem dL_isMayRight_22 : decode cL_isMayRight 22 = .ok (.if_icmp .gt 12, 3) := by decide +kernel
theorem dL_isMayRight_25 : decode cL_isMayRight 25 = .ok (.aload_n 0, 1) := by decide +kernel
theorem dL_isMayRight_26 : decode cL_isMayRight 26 = .ok (.iconst 2, 1) := by decide +kernel
theorem dL_isMayRight_27 : decode cL_isMayRight 27 = .ok (.invokevirtual 136, 3) := by decide +kernel
theorem dL_isMayRight_30 : decode cL_isMayRight 30 = .ok (.iload_n 2, 1) := by decide +kernel
theorem dL_isMayRight_31 : decode cL_isMayRight 31 = .ok (.if_icmp .le 5, 3) := by decide +kernel
theorem dL_isMayRight_34 : decode cL_isMayRight 34 = .ok (.iconst 0, 1) := by decide +kernel
theorem dL_isMayRight_35 : decode cL_isMayRight 35 = .ok (.ireturn, 1) := by decide +kernel
theorem dL_isMayRight_36 : decode cL_isMayRight 36 = .ok (.iload_n 1, 1) := by decide +kernel
theorem dL_isMayRight_37 : decode cL_isMayRight 37 = .ok (.bipush 7, 2) := by decide +kernel
theorem dL_isMayRight_39 : decode cL_isMayRight 39 = .ok (.invokestatic 18, 3) := by decide +kernel
theorem dL_isMayRight_42 : decode cL_isMayRight 42 = .ok (.istore_n 3, 1) := by decide +kernel
theorem dL_isMayRight_43 : decode cL_isMayRight 43 = .ok (.iload_n 3, 1) := by decide +kernel
theorem dL_isMayRight_44 : decode cL_isMayRight 44 = .ok (.sipush 160, 3) := by decide +kernel
theorem dL_isMayRight_47 : decode cL_isMayRight 47 = .ok (.if_icmp .ge 76, 3) := by decide +kernel
theorem dL_isMayRight_50 : decode cL_isMayRight 50 = .ok (.aload_n 0, 1) := by decide +kernel
theorem dL_isMayRight_51 : decode cL_isMayRight 51 = .ok (.iload_n 3, 1) := by decide +kernel
theorem dL_isMayRight_52 : decode cL_isMayRight 52 = .ok (.invokestatic 126, 3) := by decide +kernel
theorem dL_isMayRight_55 : decode cL_isMayRight 55 = .ok (.istore 4, 2) := by decide +kernel
theorem dL_isMayRight_57 : decode cL_isMayRight 57 = .ok (.iload 4, 2) := by decide +kernel
theorem dL_isMayRight_59 : decode cL_isMayRight 59 = .ok (.ifCond .le 13, 3) := by decide +kernel
theorem dL_isMayRight_62 : decode cL_isMayRight 62 = .ok (.aload_n 0, 1) := by decide +kernel
theorem dL_isMayRight_63 : decode cL_isMayRight 63 = .ok (.iload_n 3, 1) := by decide +kernel
theorem dL_isMayRight_64 : decode cL_isMayRight 64 = .ok (.invokevirtual 114, 3) := by decide +kernel
theorem dL_isMayRight_67 : decode cL_isMayRight 67 = .ok (.ifCond .ge 5, 3) := by decide +kernel
theorem dL_isMayRight_70 : decode cL_isMayRight 70 = .ok (.iconst 0, 1) := by decide +kernel
theorem dL_isMayRight_71 : decode cL_isMayRight 71 = .ok (.ireturn, 1) := by decide +kernel
theorem dL_isMayRight_72 : decode cL_isMayRight 72 = .ok (.iconst 0, 1) := by decide +kernel
theorem dL_isMayRight_73 : decode cL_isMayRight 73 = .ok (.istore 5, 2) := by decide +kernel
theorem dL_isMayRight_75 : decode cL_isMayRight 75 = .ok (.iload 5, 2) := by decide +kernel
theorem dL_isMayRight_77 : decode cL_isMayRight 77 = .ok (.iload 4, 2) := by decide +kernel
theorem dL_isMayRight_79 : decode cL_isMayRight 79 = .ok (.if_icmp .ge 38, 3) := by decide +kernel
theorem dL_isMayRight_82 : decode cL_isMayRight 82 = .ok (.aload_n 0, 1) := by decide +kernel
theorem dL_isMayRight_83 : decode cL_isMayRight 83 = .ok (.aload_n 0, 1) := by decide +kernel
theorem dL_isMayRight_84 : decode cL_isMayRight 84 = .ok (.iload_n 3, 1) := by decide +kernel
theorem dL_isMayRight_85 : decode cL_isMayRight 85 = .ok (.iload 5, 2) := by decide +kernel
theorem dL_isMayRight_87 : decode cL_isMayRight 87 = .ok (.iconst 1, 1) := by decide +kernel
theorem dL_isMayRight_88 : decode cL_isMayRight 88 = .ok (.iadd, 1) := by decide +kernel
theorem dL_isMayRight_89 : decode cL_isMayRight 89 = .ok (.iload 4, 2) := by decide +kernel
theorem dL_isMayRight_91 : decode cL_isMayRight 91 = .ok (.irem, 1) := by decide +kernel
theorem dL_isMayRight_92 : decode cL_isMayRight 92 = .ok (.invokevirtual 55, 3) := by decide +kernel
theorem dL_isMayRight_95 : decode cL_isMayRight 95 = .ok (.aload_n 0, 1) := by decide +kernel
theorem dL_isMayRight_96 : decode cL_isMayRight 96 = .ok (.iload_n 3, 1) := by decide +kernel
theorem dL_isMayRight_97 : decode cL_isMayRight 97 = .ok (.iload 5, 2) := by decide +kernel
theorem dL_isMayRight_99 : decode cL_isMayRight 99 = .ok (.invokevirtual 55, 3) := by decide +kernel
theorem dL_isMayRight_102 : decode cL_isMayRight 102 = .ok (.invokevirtual 102, 3) := by decide +kernel
theorem dL_isMayRight_105 : decode cL_isMayRight 105 = .ok (.iconst 1, 1) := by decide +kernel
theorem dL_isMayRight_106 : decode cL_isMayRight 106 = .ok (.if_icmp .ne 5, 3) := by decide +kernel
theorem dL_isMayRight_109 : decode cL_isMayRight 109 = .ok (.iconst 0, 1) := by decide +kernel
theorem dL_isMayRight_110 : decode cL_isMayRight 110 = .ok (.ireturn, 1) := by decide +kernel
theorem dL_isMayRight_111 : decode cL_isMayRight 111 = .ok (.iinc 5 1, 3) := by decide +kernel
theorem dL_isMayRight_114 : decode cL_isMayRight 114 = .ok (.goto (-39), 3) := by decide +kernel
theorem dL_isMayRight_117 : decode cL_isMayRight 117 = .ok (.iinc 3 7, 3) := by decide +kernel
theorem dL_isMayRight_120 : decode cL_isMayRight 120 = .ok (.goto (-77), 3) := by decide +kernel
theorem dL_isMayRight_123 : decode cL_isMayRight 123 = .ok (.aload_n 0, 1) := by decide +kernel
theorem dL_isMayRight_124 : decode cL_isMayRight 124 = .ok (.invokevirtual 139, 3) := by decide +kernel
theorem dL_isMayRight_127 : decode cL_isMayRight 127 = .ok (.dconst 0, 1) := by decide +kernel
theorem dL_isMayRight_128 : decode cL_isMayRight 128 = .ok (.dcmp .l, 1) := by decide +kernel
theorem dL_isMayRight_129 : decode cL_isMayRight 129 = .ok (.ifCond .lt 7, 3) := by decide +kernel
theorem dL_isMayRight_132 : decode cL_isMayRight 132 = .ok (.iconst 1, 1) := by decide +kernel
theorem dL_isMayRight_133 : decode cL_isMayRight 133 = .ok (.goto 4, 3) := by decide +kernel
theorem dL_isMayRight_136 : decode cL_isMayRight 136 = .ok (.iconst 0, 1) := by decide +kernel
theorem dL_isMayRight_137 : decode cL_isMayRight 137 = .ok (.ireturn, 1) := by decide +kernel
