theorem ty_inp {big : List Cond} (ws : List Cond) (ps : List Nat) (hp : ws = ps.filterMap (fun i => big[i]?)) : ∀ w ∈ ws, w ∈ big := by
  intro w hw
  rw [hp] at hw
  obtain ⟨i, -, hi⟩ := List.mem_filterMap.mp hw
  exact List.mem_of_getElem? hi
set_option maxRecDepth 20000 in
theorem ty_in_wsL_law0_r1 : ∀ w ∈ wsL_law0_r1, w ∈ lw_tbl := ty_inp _ [59, 60, 46, 704, 705, 52, 991, 61, 62, 63, 64, 65, 66, 67, 68, 47, 189, 170, 171, 51, 190, 191, 192, 69] (by decide +kernel)
set_option maxRecDepth 20000 in
theorem ty_in_wsL_law0_r2 : ∀ w ∈ wsL_law0_r2, w ∈ lw_tbl := ty_inp _ [70, 71, 72, 73, 74, 48, 122, 97, 98, 49, 124, 95, 126, 128, 130, 132, 134, 136, 138, 139, 140, 141, 142, 76] (by decide +kernel)
set_option maxRecDepth 20000 in
theorem ty_in_wsL_law0_r3 : ∀ w ∈ wsL_law0_r3, w ∈ lw_tbl := ty_inp _ [77, 78, 79, 96, 80, 81, 82, 83, 100, 101, 102, 103, 104, 105, 108, 119, 120, 50, 121, 173, 174, 175, 176, 177] (by decide +kernel)
set_option maxRecDepth 20000 in
theorem ty_in_wsL_law0_r4 : ∀ w ∈ wsL_law0_r4, w ∈ lw_tbl := ty_inp _ [178, 179, 706, 707, 708, 709, 710, 711, 712, 713, 714, 715, 716, 717, 718, 719, 721, 722, 723, 724, 725, 733, 735, 736] (by decide +kernel)
set_option maxRecDepth 20000 in
theorem ty_in_wsL_law0_r5 : ∀ w ∈ wsL_law0_r5, w ∈ lw_tbl := ty_inp _ [737, 738, 740, 392, 393, 45, 394, 395, 396, 397, 398, 399, 400, 56, 892, 893, 894, 895, 734, 804, 805, 806, 807, 468] (by decide +kernel)
set_option maxRecDepth 20000 in
theorem ty_in_wsL_law0_r6 : ∀ w ∈ wsL_law0_r6, w ∈ lw_tbl := ty_inp _ [469, 470, 471, 472, 473, 474, 475, 476, 477, 478, 479, 57, 495, 496, 497, 499, 500, 501, 502, 503, 505, 14, 506, 253] (by decide +kernel)
set_option maxRecDepth 20000 in
theorem ty_in_wsL_law0_r7 : ∀ w ∈ wsL_law0_r7, w ∈ lw_tbl := ty_inp _ [223, 224, 225, 304, 305, 306, 307, 210, 211, 212, 213, 206, 207, 208, 209, 214, 215, 216, 217, 218, 219, 220, 221, 222] (by decide +kernel)
set_option maxRecDepth 20000 in
theorem ty_in_wsL_law0_r8 : ∀ w ∈ wsL_law0_r8, w ∈ lw_tbl := ty_inp _ [226, 227, 228, 229, 230, 232, 0, 233, 235, 236, 237, 238, 239, 240, 241, 242, 243, 244, 245, 246, 247, 248, 249, 251] (by decide +kernel)
set_option maxRecDepth 20000 in
theorem ty_in_wsL_law0_r9 : ∀ w ∈ wsL_law0_r9, w ∈ lw_tbl := ty_inp _ [1, 252, 254, 256, 2, 257, 258, 260, 3, 261, 262, 263, 264, 265, 266, 267, 268, 269, 270, 271, 272, 273, 274, 275] (by decide +kernel)
set_option maxRecDepth 20000 in
theorem ty_in_wsL_law0_r10 : ∀ w ∈ wsL_law0_r10, w ∈ lw_tbl := ty_inp _ [276, 277, 278, 279, 281, 4, 282, 283, 285, 5, 286, 287, 288, 289, 290, 291, 292, 294, 6, 295, 296, 297, 298, 299] (by decide +kernel)
set_option maxRecDepth 20000 in
theorem ty_in_wsL_law0_r11 : ∀ w ∈ wsL_law0_r11, w ∈ lw_tbl := ty_inp _ [300, 302, 7, 303, 308, 309, 310, 311, 312, 313, 314, 315, 316, 317, 318, 319, 320, 321, 322, 323, 324, 325, 326, 327] (by decide +kernel)
set_option maxRecDepth 20000 in
theorem ty_in_wsL_law0_r12 : ∀ w ∈ wsL_law0_r12, w ∈ lw_tbl := ty_inp _ [328, 329, 330, 331, 332, 333, 334, 335, 336, 338, 8, 339, 340, 341, 342, 343, 345, 346, 347, 349, 9, 350, 351, 353] (by decide +kernel)
set_option maxRecDepth 20000 in
theorem ty_in_wsL_law0_r13 : ∀ w ∈ wsL_law0_r13, w ∈ lw_tbl := ty_inp _ [10, 354, 355, 356, 357, 358, 359, 360, 361, 362, 363, 365, 367, 11, 368, 369, 370, 371, 372, 373, 374, 375, 376, 507] (by decide +kernel)
set_option maxRecDepth 20000 in
theorem ty_in_wsL_law0_r14 : ∀ w ∈ wsL_law0_r14, w ∈ lw_tbl := ty_inp _ [508, 509, 510, 511, 896, 897, 898, 899, 720, 732, 900, 901, 902, 816, 818, 20, 819, 903, 905, 38, 906, 876, 878, 35] (by decide +kernel)
set_option maxRecDepth 20000 in
theorem ty_in_wsL_law0_r15 : ∀ w ∈ wsL_law0_r15, w ∈ lw_tbl := ty_inp _ [879, 880, 882, 36, 883, 812, 814, 19, 815, 820, 822, 21, 823, 726, 727, 739, 824, 826, 22, 827, 828, 830, 23, 831] (by decide +kernel)
set_option maxRecDepth 20000 in
theorem ty_in_wsL_law0_r16 : ∀ w ∈ wsL_law0_r16, w ∈ lw_tbl := ty_inp _ [832, 834, 24, 835, 728, 836, 838, 25, 839, 840, 842, 26, 843, 844, 846, 27, 847, 848, 850, 28, 851, 731, 852, 854] (by decide +kernel)
set_option maxRecDepth 20000 in
theorem ty_in_wsL_law0_r17 : ∀ w ∈ wsL_law0_r17, w ∈ lw_tbl := ty_inp _ [29, 855, 856, 858, 30, 859, 860, 862, 31, 863, 864, 866, 32, 867, 729, 730, 868, 870, 33, 871, 872, 874, 34, 875] (by decide +kernel)
set_option maxRecDepth 20000 in
theorem ty_in_wsL_law0_r18 : ∀ w ∈ wsL_law0_r18, w ∈ lw_tbl := ty_inp _ [884, 886, 37, 887, 512, 513, 514, 515, 516, 517, 518, 519, 907, 908, 909, 910, 911, 913, 39, 914, 520, 521, 522, 523] (by decide +kernel)
set_option maxRecDepth 20000 in
theorem ty_in_wsL_law0_r19 : ∀ w ∈ wsL_law0_r19, w ∈ lw_tbl := ty_inp _ [524, 525, 526, 915, 916, 917, 918, 527, 528, 529, 530, 531, 532, 533, 534, 535, 537, 15, 538, 539, 541, 16, 542, 543] (by decide +kernel)
set_option maxRecDepth 20000 in
theorem ty_in_wsL_law0_r20 : ∀ w ∈ wsL_law0_r20, w ∈ lw_tbl := ty_inp _ [58, 559, 561, 562, 919, 920, 921, 922, 563, 564, 565, 566, 567, 568, 569, 923, 924, 925, 926, 570, 571, 572, 573, 574] (by decide +kernel)
set_option maxRecDepth 20000 in
theorem ty_in_wsL_law0_r21 : ∀ w ∈ wsL_law0_r21, w ∈ lw_tbl := ty_inp _ [575, 576, 577, 579, 17, 580, 581, 927, 928, 929, 930, 931, 933, 40, 934, 583, 584, 585, 586, 587, 588, 589, 935, 936] (by decide +kernel)
set_option maxRecDepth 20000 in
theorem ty_in_wsL_law0_r22 : ∀ w ∈ wsL_law0_r22, w ∈ lw_tbl := ty_inp _ [937, 938, 202, 203, 204, 205, 808, 809, 810, 811, 590, 591, 592, 593, 594, 595, 596, 888, 889, 890, 891, 598, 599, 600] (by decide +kernel)
set_option maxRecDepth 20000 in
theorem ty_in_wsL_law0_r23 : ∀ w ∈ wsL_law0_r23, w ∈ lw_tbl := ty_inp _ [601, 602, 603, 604, 605, 606, 607, 609, 610, 939, 940, 941, 942, 943, 945, 41, 946, 611, 612, 613, 614, 615, 616, 617] (by decide +kernel)
set_option maxRecDepth 20000 in
theorem ty_in_wsL_law0_r24 : ∀ w ∈ wsL_law0_r24, w ∈ lw_tbl := ty_inp _ [947, 948, 949, 950, 618, 619, 620, 621, 622, 623, 624, 625, 627, 18, 628, 629, 630, 631, 632, 634, 635, 636, 951, 952] (by decide +kernel)
set_option maxRecDepth 20000 in
theorem ty_in_wsL_law0_r25 : ∀ w ∈ wsL_law0_r25, w ∈ lw_tbl := ty_inp _ [953, 954, 637, 638, 639, 640, 641, 642, 643, 955, 956, 957, 958, 645, 646, 647, 648, 649, 650, 651, 652, 653, 654, 655] (by decide +kernel)
set_option maxRecDepth 20000 in
theorem ty_in_wsL_law0_r26 : ∀ w ∈ wsL_law0_r26, w ∈ lw_tbl := ty_inp _ [657, 658, 659, 660, 661, 662, 663, 664, 665, 666, 667, 668, 669, 670, 671, 672, 673, 674, 675, 959, 960, 961, 962, 963] (by decide +kernel)
set_option maxRecDepth 20000 in
theorem ty_in_wsL_law0_r27 : ∀ w ∈ wsL_law0_r27, w ∈ lw_tbl := ty_inp _ [965, 42, 966, 967, 969, 43, 970, 971, 973, 44, 974, 676, 677, 678, 679, 680, 681, 682, 683, 975, 976, 977, 978, 684] (by decide +kernel)
set_option maxRecDepth 20000 in
theorem ty_in_wsL_law0_r28 : ∀ w ∈ wsL_law0_r28, w ∈ lw_tbl := ty_inp _ [685, 686, 687, 688, 689, 690, 979, 980, 981, 982, 377, 378, 379, 380, 381, 382, 383, 384, 385, 387, 12, 388, 390, 391] (by decide +kernel)
set_option maxRecDepth 20000 in
theorem ty_in_wsL_law0_r29 : ∀ w ∈ wsL_law0_r29, w ∈ lw_tbl := ty_inp _ [983, 984, 985, 986, 692, 693, 694, 695, 696, 697, 698, 699, 700, 701, 702, 703, 987, 988, 989, 990] (by decide +kernel)
set_option maxRecDepth 20000 in
theorem ty_in_wsX40 : ∀ w ∈ wsX40, w ∈ lw_tbl := ty_inp _ [193, 195, 197, 199] (by decide +kernel)
set_option maxRecDepth 20000 in
theorem ty_in_wsX50 : ∀ w ∈ wsX50, w ∈ lw_tbl := ty_inp _ [741, 743, 745, 747, 749, 751, 753, 755, 757, 759, 761, 763, 765, 767, 769, 771, 773, 775, 777, 779, 781, 783, 785, 787, 789, 791, 793, 795, 797, 799, 801] (by decide +kernel)
set_option maxRecDepth 20000 in
theorem ty_in_wsX30 : ∀ w ∈ wsX30, w ∈ lw_tbl := ty_inp _ [143, 145, 147, 149, 151, 153, 155, 157, 159, 161, 163, 165, 167] (by decide +kernel)
set_option maxRecDepth 20000 in
theorem ty_in_wsX20 : ∀ w ∈ wsX20, w ∈ lw_tbl := ty_inp _ [180, 182, 184, 186] (by decide +kernel)
set_option maxRecDepth 20000 in
theorem ty_in_wsX00 : ∀ w ∈ wsX00, w ∈ lw_tbl := ty_inp _ [84, 86, 88, 90, 92] (by decide +kernel)
set_option maxRecDepth 20000 in
theorem ty_in_wsX10 : ∀ w ∈ wsX10, w ∈ lw_tbl := ty_inp _ [110, 112, 114, 116] (by decide +kernel)
theorem ty_in_a {a b big : List Cond} (ha : ∀ w ∈ a, w ∈ big) (hb : ∀ w ∈ b, w ∈ big) : ∀ w ∈ a ++ b, w ∈ big := fun w h => (List.mem_append.mp h).elim (ha w) (hb w)
theorem wsL_law_in0 : ∀ w ∈ wsL_law0, w ∈ lw_tbl := (ty_in_a (ty_in_a (ty_in_a (ty_in_a (ty_in_a (ty_in_a (ty_in_a (ty_in_a ty_in_wsL_law0_r1 (ty_in_a ty_in_wsL_law0_r2 (ty_in_a ty_in_wsL_law0_r3 (ty_in_a ty_in_wsL_law0_r4 (ty_in_a ty_in_wsL_law0_r5 (ty_in_a ty_in_wsL_law0_r6 (ty_in_a ty_in_wsL_law0_r7 (ty_in_a ty_in_wsL_law0_r8 (ty_in_a ty_in_wsL_law0_r9 (ty_in_a ty_in_wsL_law0_r10 (ty_in_a ty_in_wsL_law0_r11 (ty_in_a ty_in_wsL_law0_r12 (ty_in_a ty_in_wsL_law0_r13 (ty_in_a ty_in_wsL_law0_r14 (ty_in_a ty_in_wsL_law0_r15 (ty_in_a ty_in_wsL_law0_r16 (ty_in_a ty_in_wsL_law0_r17 (ty_in_a ty_in_wsL_law0_r18 (ty_in_a ty_in_wsL_law0_r19 (ty_in_a ty_in_wsL_law0_r20 (ty_in_a ty_in_wsL_law0_r21 (ty_in_a ty_in_wsL_law0_r22 (ty_in_a ty_in_wsL_law0_r23 (ty_in_a ty_in_wsL_law0_r24 (ty_in_a ty_in_wsL_law0_r25 (ty_in_a ty_in_wsL_law0_r26 (ty_in_a ty_in_wsL_law0_r27 (ty_in_a ty_in_wsL_law0_r28 ty_in_wsL_law0_r29)))))))))))))))))))))))))))) ty_in_wsX40) ty_in_wsX50) ty_in_wsX30) ty_in_wsX20) ty_in_wsX00) ty_in_wsX10) (fun _ h => absurd h List.not_mem_nil))
theorem wsL_law_x0 : ∀ w ∈ (vx_atS RX4 34 "java/lang/IllegalArgumentException" ["java/lang/RuntimeException", "java/lang/Exception"]).filter goodWord, w ∈ lw_tbl := by decide +kernel
theorem wsL_law_x1 : ∀ w ∈ (vx_atS RX4 138 "java/lang/IndexOutOfBoundsException" ["java/lang/RuntimeException", "java/lang/Exception"]).filter goodWord, w ∈ lw_tbl := by decide +kernel
theorem wsL_law_x2 : ∀ w ∈ (vx_atS RX4 203 "java/lang/IllegalStateException" ["java/lang/RuntimeException", "java/lang/Exception"]).filter goodWord, w ∈ lw_tbl := by decide +kernel
theorem wsL_law_in : ∀ w ∈ wsL_law, w ∈ lw_tbl := fun w h => (List.mem_append.mp h).elim (fun h => (List.mem_append.mp h).elim (fun h => (List.mem_append.mp h).elim (fun h => wsL_law_in0 w h) (fun h => wsL_law_x0 w h)) (fun h => wsL_law_x1 w h)) (fun h => wsL_law_x2 w h)
theorem inlX0 : ∀ w ∈ wsX00, w ∈ wsL_law := fun _ h => List.mem_append_left _ (List.mem_append_left _ (List.mem_append_left _ (List.mem_append_left _ (List.mem_append_left _ (List.mem_append_right _ h)))))
theorem inX0 : ∀ w ∈ wsX00, w ∈ lw_tbl := fun w h => wsL_law_in w (inlX0 w h)
theorem inlX1 : ∀ w ∈ wsX10, w ∈ wsL_law := fun _ h => List.mem_append_left _ (List.mem_append_left _ (List.mem_append_left _ (List.mem_append_left _ (List.mem_append_right _ h))))
theorem inX1 : ∀ w ∈ wsX10, w ∈ lw_tbl := fun w h => wsL_law_in w (inlX1 w h)
theorem inlX2 : ∀ w ∈ wsX20, w ∈ wsL_law := fun _ h => List.mem_append_left _ (List.mem_append_left _ (List.mem_append_left _ (List.mem_append_left _ (List.mem_append_left _ (List.mem_append_left _ (List.mem_append_right _ h))))))
theorem inX2 : ∀ w ∈ wsX20, w ∈ lw_tbl := fun w h => wsL_law_in w (inlX2 w h)
theorem inlX3 : ∀ w ∈ wsX30, w ∈ wsL_law := fun _ h => List.mem_append_left _ (List.mem_append_left _ (List.mem_append_left _ (List.mem_append_left _ (List.mem_append_left _ (List.mem_append_left _ (List.mem_append_left _ (List.mem_append_right _ h)))))))
theorem inX3 : ∀ w ∈ wsX30, w ∈ lw_tbl := fun w h => wsL_law_in w (inlX3 w h)
theorem inlX4 : ∀ w ∈ wsX40, w ∈ wsL_law := fun _ h => List.mem_append_left _ (List.mem_append_left _ (List.mem_append_left _ (List.mem_append_left _ (List.mem_append_left _ (List.mem_append_left _ (List.mem_append_left _ (List.mem_append_left _ (List.mem_append_left _ (List.mem_append_right _ h)))))))))
theorem inX4 : ∀ w ∈ wsX40, w ∈ lw_tbl := fun w h => wsL_law_in w (inlX4 w h)
theorem inlX5 : ∀ w ∈ wsX50, w ∈ wsL_law := fun _ h => List.mem_append_left _ (List.mem_append_left _ (List.mem_append_left _ (List.mem_append_left _ (List.mem_append_left _ (List.mem_append_left _ (List.mem_append_left _ (List.mem_append_left _ (List.mem_append_right _ h))))))))
theorem inX5 : ∀ w ∈ wsX50, w ∈ lw_tbl := fun w h => wsL_law_in w (inlX5 w h)
theorem inJx145de : ∀ w ∈ wsJx145de0, w ∈ lw_tbl := by decide +kernel
theorem inJ0 : ∀ w ∈ wsJ00, w ∈ lw_tbl := by decide +kernel
theorem inJ7 : ∀ w ∈ wsJ70, w ∈ lw_tbl := by decide +kernel

