/-! the law: its words are among the tables -/
theorem lw_pl (ws : List Cond) (ps : List Nat) (hp : ws = ps.filterMap (fun i => lw_tbl[i]?)) : ∀ w ∈ ws, w ∈ lw_tbl := by
  intro w hw
  rw [hp] at hw
  obtain ⟨i, -, hi⟩ := List.mem_filterMap.mp hw
  exact List.mem_of_getElem? hi
set_option maxRecDepth 20000 in
theorem lwr_1 : ∀ w ∈ wsL_law0_r1, w ∈ lw_tbl := lw_pl _ [68, 69, 52, 667, 668, 56, 144, 119, 70, 71, 72, 73, 74, 75, 76, 77, 53, 145, 146, 147, 121, 122, 55, 148] (by decide +kernel)
set_option maxRecDepth 20000 in
theorem lwr_2 : ∀ w ∈ wsL_law0_r2, w ∈ lw_tbl := lw_pl _ [149, 150, 151, 78, 79, 80, 81, 118, 85, 88, 91, 94, 97, 99, 101, 82, 83, 54, 84, 123, 124, 125, 126, 127] (by decide +kernel)
set_option maxRecDepth 20000 in
theorem lwr_3 : ∀ w ∈ wsL_law0_r3, w ∈ lw_tbl := lw_pl _ [129, 130, 131, 133, 669, 670, 671, 672, 673, 674, 675, 676, 679, 680, 681, 682, 684, 685, 686, 257, 258, 51, 259, 260] (by decide +kernel)
set_option maxRecDepth 20000 in
theorem lwr_4 : ∀ w ∈ wsL_law0_r4, w ∈ lw_tbl := lw_pl _ [338, 339, 340, 341, 342, 86, 343, 344, 345, 346, 60, 359, 360, 361, 362, 63, 378, 380, 11, 381, 382, 384, 12, 385] (by decide +kernel)
set_option maxRecDepth 20000 in
theorem lwr_5 : ∀ w ∈ wsL_law0_r5, w ∈ lw_tbl := lw_pl _ [386, 387, 388, 389, 390, 392, 391, 64, 393, 394, 395, 723, 724, 725, 726, 678, 727, 728, 729, 730, 732, 29, 733, 734] (by decide +kernel)
set_option maxRecDepth 20000 in
theorem lwr_6 : ∀ w ∈ wsL_law0_r6, w ∈ lw_tbl := lw_pl _ [736, 30, 737, 677, 719, 720, 721, 722, 396, 397, 398, 399, 400, 401, 402, 89, 403, 404, 405, 738, 739, 740, 741, 407] (by decide +kernel)
set_option maxRecDepth 20000 in
theorem lwr_7 : ∀ w ∈ wsL_law0_r7, w ∈ lw_tbl := lw_pl _ [408, 409, 410, 411, 412, 413, 92, 414, 415, 416, 742, 743, 744, 745, 746, 747, 748, 418, 419, 420, 421, 422, 423, 424] (by decide +kernel)
set_option maxRecDepth 20000 in
theorem lwr_8 : ∀ w ∈ wsL_law0_r8, w ∈ lw_tbl := lw_pl _ [95, 749, 750, 751, 752, 425, 426, 427, 428, 429, 430, 431, 98, 100, 753, 754, 755, 756, 167, 168, 169, 170, 171, 173] (by decide +kernel)
set_option maxRecDepth 20000 in
theorem lwr_9 : ∀ w ∈ wsL_law0_r9, w ∈ lw_tbl := lw_pl _ [0, 174, 134, 175, 176, 177, 178, 179, 181, 1, 182, 183, 184, 185, 186, 188, 2, 189, 93, 96, 190, 192, 3, 193] (by decide +kernel)
set_option maxRecDepth 20000 in
theorem lwr_10 : ∀ w ∈ wsL_law0_r10, w ∈ lw_tbl := lw_pl _ [198, 200, 4, 201, 87, 90, 202, 204, 5, 205, 206, 208, 6, 209, 210, 212, 7, 213, 214, 215, 216, 217, 757, 758] (by decide +kernel)
set_option maxRecDepth 20000 in
theorem lwr_11 : ∀ w ∈ wsL_law0_r11, w ∈ lw_tbl := lw_pl _ [759, 760, 761, 763, 31, 764, 765, 766, 767, 768, 770, 32, 771, 772, 773, 774, 432, 433, 434, 435, 449, 450, 451, 452] (by decide +kernel)
set_option maxRecDepth 20000 in
theorem lwr_12 : ∀ w ∈ wsL_law0_r12, w ∈ lw_tbl := lw_pl _ [132, 453, 454, 455, 457, 459, 13, 460, 461, 65, 244, 246, 9, 247, 248, 249, 250, 251, 252, 66, 253, 254, 255, 256] (by decide +kernel)
set_option maxRecDepth 20000 in
theorem lwr_13 : ∀ w ∈ wsL_law0_r13, w ∈ lw_tbl := lw_pl _ [775, 776, 777, 778, 779, 781, 33, 782, 783, 785, 34, 786, 683, 787, 789, 35, 790, 791, 793, 36, 794, 795, 797, 37] (by decide +kernel)
set_option maxRecDepth 20000 in
theorem lwr_14 : ∀ w ∈ wsL_law0_r14, w ∈ lw_tbl := lw_pl _ [798, 799, 800, 801, 464, 465, 466, 467, 468, 469, 470, 471, 473, 14, 474, 475, 480, 476, 478, 15, 479, 802, 803, 804] (by decide +kernel)
set_option maxRecDepth 20000 in
theorem lwr_15 : ∀ w ∈ wsL_law0_r15, w ∈ lw_tbl := lw_pl _ [805, 806, 808, 38, 809, 810, 812, 39, 813, 481, 482, 483, 484, 485, 486, 487, 488, 489, 490, 492, 494, 16, 495, 814] (by decide +kernel)
set_option maxRecDepth 20000 in
theorem lwr_16 : ∀ w ∈ wsL_law0_r16, w ∈ lw_tbl := lw_pl _ [815, 816, 817, 818, 820, 40, 821, 496, 497, 498, 499, 500, 501, 502, 503, 822, 823, 824, 825, 504, 505, 506, 507, 508] (by decide +kernel)
set_option maxRecDepth 20000 in
theorem lwr_17 : ∀ w ∈ wsL_law0_r17, w ∈ lw_tbl := lw_pl _ [509, 510, 826, 827, 828, 829, 830, 832, 41, 833, 218, 219, 220, 221, 834, 835, 836, 837, 838, 840, 42, 841, 511, 512] (by decide +kernel)
set_option maxRecDepth 20000 in
theorem lwr_18 : ∀ w ∈ wsL_law0_r18, w ∈ lw_tbl := lw_pl _ [513, 514, 515, 516, 517, 842, 843, 844, 845, 846, 848, 43, 849, 518, 519, 520, 521, 522, 523, 524, 525, 527, 17, 528] (by decide +kernel)
set_option maxRecDepth 20000 in
theorem lwr_19 : ∀ w ∈ wsL_law0_r19, w ∈ lw_tbl := lw_pl _ [850, 851, 852, 853, 529, 530, 531, 532, 533, 534, 535, 854, 855, 856, 857, 858, 860, 44, 861, 536, 537, 538, 539, 540] (by decide +kernel)
set_option maxRecDepth 20000 in
theorem lwr_20 : ∀ w ∈ wsL_law0_r20, w ∈ lw_tbl := lw_pl _ [541, 542, 543, 545, 18, 546, 547, 549, 19, 550, 551, 553, 20, 554, 555, 557, 21, 558, 559, 560, 561, 562, 862, 863] (by decide +kernel)
set_option maxRecDepth 20000 in
theorem lwr_21 : ∀ w ∈ wsL_law0_r21, w ∈ lw_tbl := lw_pl _ [864, 865, 866, 868, 45, 869, 870, 563, 564, 565, 566, 567, 568, 569, 570, 571, 572, 871, 872, 873, 874, 574, 575, 576] (by decide +kernel)
set_option maxRecDepth 20000 in
theorem lwr_22 : ∀ w ∈ wsL_law0_r22, w ∈ lw_tbl := lw_pl _ [577, 578, 579, 580, 581, 582, 583, 585, 587, 22, 588, 589, 591, 23, 592, 875, 876, 877, 878, 879, 881, 46, 882, 883] (by decide +kernel)
set_option maxRecDepth 20000 in
theorem lwr_23 : ∀ w ∈ wsL_law0_r23, w ∈ lw_tbl := lw_pl _ [884, 886, 47, 887, 593, 594, 595, 596, 597, 598, 599, 600, 602, 24, 603, 102, 604, 606, 25, 607, 608, 609, 610, 611] (by decide +kernel)
set_option maxRecDepth 20000 in
theorem lwr_24 : ∀ w ∈ wsL_law0_r24, w ∈ lw_tbl := lw_pl _ [612, 613, 614, 616, 26, 617, 618, 619, 620, 888, 889, 890, 891, 892, 894, 48, 895, 896, 898, 49, 899, 621, 622, 623] (by decide +kernel)
set_option maxRecDepth 20000 in
theorem lwr_25 : ∀ w ∈ wsL_law0_r25, w ∈ lw_tbl := lw_pl _ [624, 625, 626, 627, 900, 901, 902, 903, 628, 629, 630, 631, 632, 633, 634, 635, 637, 27, 638, 904, 905, 906, 907, 639] (by decide +kernel)
set_option maxRecDepth 20000 in
theorem lwr_26 : ∀ w ∈ wsL_law0_r26, w ∈ lw_tbl := lw_pl _ [640, 641, 642, 643, 644, 645, 646, 647, 649, 28, 650, 651, 67, 908, 909, 910, 911, 222, 223, 224, 225, 226, 227, 228] (by decide +kernel)
set_option maxRecDepth 20000 in
theorem lwr_27 : ∀ w ∈ wsL_law0_r27, w ∈ lw_tbl := lw_pl _ [229, 230, 231, 232, 233, 234, 235, 236, 237, 238, 239, 240, 242, 8, 243, 912, 913, 914, 915, 916, 687, 917, 919, 50] (by decide +kernel)
set_option maxRecDepth 20000 in
theorem lwr_28 : ∀ w ∈ wsL_law0_r28, w ∈ lw_tbl := lw_pl _ [920, 921, 922, 923, 924, 925, 926, 927, 928, 929] (by decide +kernel)
set_option maxRecDepth 20000 in
theorem inX0 : ∀ w ∈ wsX00, w ∈ lw_tbl := lw_pl _ [135, 137, 139, 141] (by decide +kernel)
set_option maxRecDepth 20000 in
theorem inX1 : ∀ w ∈ wsX10, w ∈ lw_tbl := lw_pl _ [103, 105, 107, 109, 111, 113, 115] (by decide +kernel)
set_option maxRecDepth 20000 in
theorem inX2 : ∀ w ∈ wsX20, w ∈ lw_tbl := lw_pl _ [152, 154, 156, 158, 160, 162, 164] (by decide +kernel)
set_option maxRecDepth 20000 in
theorem inX3 : ∀ w ∈ wsX30, w ∈ lw_tbl := lw_pl _ [688, 690, 692, 694, 696, 698, 700, 702, 704, 706, 708, 710, 712, 714, 716] (by decide +kernel)
theorem lwx_0 : ∀ w ∈ (vx_atM "java/lang/ArrayIndexOutOfBoundsException" ["java/lang/IndexOutOfBoundsException", "java/lang/RuntimeException", "java/lang/Exception"]).filter goodWord, w ∈ lw_tbl := by decide +kernel
theorem lwx_1 : ∀ w ∈ (vx_atS RX2 176 "java/lang/IndexOutOfBoundsException" ["java/lang/RuntimeException", "java/lang/Exception"]).filter goodWord, w ∈ lw_tbl := by decide +kernel
theorem lwx_2 : ∀ w ∈ (vx_atS RX2 189 "java/lang/IllegalArgumentException" ["java/lang/RuntimeException", "java/lang/Exception"]).filter goodWord, w ∈ lw_tbl := by decide +kernel
theorem lwx_3 : ∀ w ∈ (vx_atM "java/lang/ArithmeticException" ["java/lang/RuntimeException", "java/lang/Exception"]).filter goodWord, w ∈ lw_tbl := by decide +kernel
theorem lwx_4 : ∀ w ∈ (vx_atS RX2 200 "java/lang/ArithmeticException" ["java/lang/RuntimeException", "java/lang/Exception"]).filter goodWord, w ∈ lw_tbl := by decide +kernel
theorem lwx_5 : ∀ w ∈ (vx_atS RX2 205 "java/lang/IllegalStateException" ["java/lang/RuntimeException", "java/lang/Exception"]).filter goodWord, w ∈ lw_tbl := by decide +kernel
theorem wsL_law_in0 : ∀ w ∈ wsL_law0, w ∈ lw_tbl := (List.forall_mem_append.mpr ⟨(List.forall_mem_append.mpr ⟨(List.forall_mem_append.mpr ⟨(List.forall_mem_append.mpr ⟨(List.forall_mem_append.mpr ⟨(List.forall_mem_append.mpr ⟨lwr_1, (List.forall_mem_append.mpr ⟨lwr_2, (List.forall_mem_append.mpr ⟨lwr_3, (List.forall_mem_append.mpr ⟨lwr_4, (List.forall_mem_append.mpr ⟨lwr_5, (List.forall_mem_append.mpr ⟨lwr_6, (List.forall_mem_append.mpr ⟨lwr_7, (List.forall_mem_append.mpr ⟨lwr_8, (List.forall_mem_append.mpr ⟨lwr_9, (List.forall_mem_append.mpr ⟨lwr_10, (List.forall_mem_append.mpr ⟨lwr_11, (List.forall_mem_append.mpr ⟨lwr_12, (List.forall_mem_append.mpr ⟨lwr_13, (List.forall_mem_append.mpr ⟨lwr_14, (List.forall_mem_append.mpr ⟨lwr_15, (List.forall_mem_append.mpr ⟨lwr_16, (List.forall_mem_append.mpr ⟨lwr_17, (List.forall_mem_append.mpr ⟨lwr_18, (List.forall_mem_append.mpr ⟨lwr_19, (List.forall_mem_append.mpr ⟨lwr_20, (List.forall_mem_append.mpr ⟨lwr_21, (List.forall_mem_append.mpr ⟨lwr_22, (List.forall_mem_append.mpr ⟨lwr_23, (List.forall_mem_append.mpr ⟨lwr_24, (List.forall_mem_append.mpr ⟨lwr_25, (List.forall_mem_append.mpr ⟨lwr_26, (List.forall_mem_append.mpr ⟨lwr_27, lwr_28⟩)⟩)⟩)⟩)⟩)⟩)⟩)⟩)⟩)⟩)⟩)⟩)⟩)⟩)⟩)⟩)⟩)⟩)⟩)⟩)⟩)⟩)⟩)⟩)⟩)⟩)⟩), inX2⟩), inX3⟩), inX1⟩), inX0⟩), fun _ h => absurd h List.not_mem_nil⟩)
theorem wsL_law_in : ∀ w ∈ wsL_law, w ∈ lw_tbl := (List.forall_mem_append.mpr ⟨(List.forall_mem_append.mpr ⟨(List.forall_mem_append.mpr ⟨(List.forall_mem_append.mpr ⟨(List.forall_mem_append.mpr ⟨(List.forall_mem_append.mpr ⟨wsL_law_in0, lwx_0⟩), lwx_1⟩), lwx_2⟩), lwx_3⟩), lwx_4⟩), lwx_5⟩)
