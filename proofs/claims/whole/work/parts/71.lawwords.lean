/-! the words that the law needs are among those of the tables -/
theorem zin_r {big : List Cond} (ws : List Cond) (ps : List Nat) (hp : ws = ps.filterMap (fun i => big[i]?)) : ∀ w ∈ ws, w ∈ big := by
  intro w hw
  rw [hp] at hw
  obtain ⟨i, -, hi⟩ := List.mem_filterMap.mp hw
  exact List.mem_of_getElem? hi
theorem zin_a {big a b : List Cond} (ha : ∀ w ∈ a, w ∈ big) (hb : ∀ w ∈ b, w ∈ big) : ∀ w ∈ a ++ b, w ∈ big := fun w h => (List.mem_append.mp h).elim (ha w) (hb w)
set_option maxRecDepth 20000 in
theorem zw_wsL_law_r1 : ∀ w ∈ wsL_law_r1, w ∈ lw_tbl := zin_r wsL_law_r1 [66, 67, 51, 661, 662, 59, 68, 69, 70, 71, 72, 73, 74, 75, 52, 211, 103, 104, 55, 212, 134, 135, 56, 213] (by decide +kernel)
set_option maxRecDepth 20000 in
theorem zw_wsL_law_r2 : ∀ w ∈ wsL_law_r2, w ∈ lw_tbl := zin_r wsL_law_r2 [214, 175, 176, 57, 215, 216, 217, 190, 191, 58, 218, 219, 220, 77, 78, 79, 80, 81, 53, 94, 96, 82, 83, 84] (by decide +kernel)
set_option maxRecDepth 20000 in
theorem zw_wsL_law_r3 : ∀ w ∈ wsL_law_r3, w ∈ lw_tbl := zin_r wsL_law_r3 [85, 86, 87, 54, 88, 93, 89, 106, 107, 108, 109, 111, 113, 116, 118, 120, 110, 137, 138, 139, 140, 142, 144, 146] (by decide +kernel)
set_option maxRecDepth 20000 in
theorem zw_wsL_law_r4 : ∀ w ∈ wsL_law_r4, w ∈ lw_tbl := zin_r wsL_law_r4 [148, 150, 152, 154, 156, 141, 178, 179, 180, 181, 183, 193, 194, 195, 196, 198, 199, 200, 201, 197, 663, 664, 665, 666] (by decide +kernel)
set_option maxRecDepth 20000 in
theorem zw_wsL_law_r5 : ∀ w ∈ wsL_law_r5, w ∈ lw_tbl := zin_r wsL_law_r5 [667, 669, 679, 680, 681, 684, 694, 695, 688, 676, 242, 243, 244, 245, 246, 247, 248, 249, 250, 251, 252, 253, 758, 759] (by decide +kernel)
set_option maxRecDepth 20000 in
theorem zw_wsL_law_r6 : ∀ w ∈ wsL_law_r6, w ∈ lw_tbl := zin_r wsL_law_r6 [760, 761, 762, 668, 763, 764, 765, 254, 255, 256, 257, 258, 259, 260, 261, 766, 767, 768, 769, 262, 263, 264, 265, 266] (by decide +kernel)
set_option maxRecDepth 20000 in
theorem zw_wsL_law_r7 : ∀ w ∈ wsL_law_r7, w ∈ lw_tbl := zin_r wsL_law_r7 [267, 268, 269, 270, 272, 0, 273, 274, 275, 276, 277, 278, 279, 280, 282, 283, 284, 60, 285, 286, 287, 288, 289, 998] (by decide +kernel)
set_option maxRecDepth 20000 in
theorem zw_wsL_law_r8 : ∀ w ∈ wsL_law_r8, w ∈ lw_tbl := zin_r wsL_law_r8 [290, 291, 292, 293, 294, 997, 296, 297, 298, 299, 300, 301, 302, 303, 304, 305, 61, 306, 310, 311, 312, 313, 307, 308] (by decide +kernel)
set_option maxRecDepth 20000 in
theorem zw_wsL_law_r9 : ∀ w ∈ wsL_law_r9, w ∈ lw_tbl := zin_r wsL_law_r9 [309, 314, 315, 316, 317, 318, 62, 319, 320, 321, 322, 323, 324, 325, 326, 327, 328, 329, 330, 331, 332, 333, 334, 335] (by decide +kernel)
set_option maxRecDepth 20000 in
theorem zw_wsL_law_r10 : ∀ w ∈ wsL_law_r10, w ∈ lw_tbl := zin_r wsL_law_r10 [337, 338, 63, 339, 340, 341, 342, 343, 344, 345, 346, 348, 350, 352, 353, 354, 355, 356, 64, 357, 358, 359, 360, 361] (by decide +kernel)
set_option maxRecDepth 20000 in
theorem zw_wsL_law_r11 : ∀ w ∈ wsL_law_r11, w ∈ lw_tbl := zin_r wsL_law_r11 [362, 363, 364, 365, 366, 367, 368, 770, 771, 772, 773, 774, 776, 18, 777, 670, 672, 778, 780, 19, 781, 785, 671, 782] (by decide +kernel)
set_option maxRecDepth 20000 in
theorem zw_wsL_law_r12 : ∀ w ∈ wsL_law_r12, w ∈ lw_tbl := zin_r wsL_law_r12 [783, 784, 370, 371, 372, 373, 374, 375, 376, 377, 378, 379, 380, 381, 382, 383, 384, 385, 386, 387, 388, 389, 390, 391] (by decide +kernel)
set_option maxRecDepth 20000 in
theorem zw_wsL_law_r13 : ∀ w ∈ wsL_law_r13, w ∈ lw_tbl := zin_r wsL_law_r13 [392, 393, 394, 395, 396, 397, 398, 399, 400, 401, 402, 403, 404, 405, 406, 407, 408, 409, 410, 411, 412, 413, 414, 415] (by decide +kernel)
set_option maxRecDepth 20000 in
theorem zw_wsL_law_r14 : ∀ w ∈ wsL_law_r14, w ∈ lw_tbl := zin_r wsL_law_r14 [786, 787, 788, 789, 673, 674, 675, 677, 683, 678, 790, 792, 20, 793, 416, 417, 418, 419, 420, 421, 422, 423, 424, 426] (by decide +kernel)
set_option maxRecDepth 20000 in
theorem zw_wsL_law_r15 : ∀ w ∈ wsL_law_r15, w ∈ lw_tbl := zin_r wsL_law_r15 [1, 427, 428, 429, 431, 2, 432, 433, 434, 435, 436, 437, 439, 3, 440, 441, 442, 443, 444, 445, 446, 448, 4, 449] (by decide +kernel)
set_option maxRecDepth 20000 in
theorem zw_wsL_law_r16 : ∀ w ∈ wsL_law_r16, w ∈ lw_tbl := zin_r wsL_law_r16 [450, 451, 453, 5, 454, 455, 457, 6, 458, 459, 461, 7, 462, 463, 464, 465, 466, 467, 65, 468, 469, 470, 471, 472] (by decide +kernel)
set_option maxRecDepth 20000 in
theorem zw_wsL_law_r17 : ∀ w ∈ wsL_law_r17, w ∈ lw_tbl := zin_r wsL_law_r17 [473, 474, 475, 476, 477, 478, 794, 795, 796, 797, 798, 800, 21, 801, 802, 804, 22, 805, 806, 808, 23, 809, 810, 812] (by decide +kernel)
set_option maxRecDepth 20000 in
theorem zw_wsL_law_r18 : ∀ w ∈ wsL_law_r18, w ∈ lw_tbl := zin_r wsL_law_r18 [24, 813, 814, 816, 25, 817, 818, 820, 26, 821, 822, 824, 27, 825, 826, 828, 28, 829, 830, 832, 29, 833, 834, 836] (by decide +kernel)
set_option maxRecDepth 20000 in
theorem zw_wsL_law_r19 : ∀ w ∈ wsL_law_r19, w ∈ lw_tbl := zin_r wsL_law_r19 [30, 837, 838, 839, 840, 841, 843, 31, 844, 845, 846, 847, 479, 480, 481, 482, 483, 484, 485, 486, 848, 849, 850, 851] (by decide +kernel)
set_option maxRecDepth 20000 in
theorem zw_wsL_law_r20 : ∀ w ∈ wsL_law_r20, w ∈ lw_tbl := zin_r wsL_law_r20 [852, 487, 488, 489, 490, 491, 493, 8, 494, 853, 854, 855, 856, 857, 859, 32, 860, 495, 496, 497, 498, 499, 500, 501] (by decide +kernel)
set_option maxRecDepth 20000 in
theorem zw_wsL_law_r21 : ∀ w ∈ wsL_law_r21, w ∈ lw_tbl := zin_r wsL_law_r21 [502, 503, 504, 505, 506, 507, 508, 861, 862, 863, 864, 865, 867, 33, 868, 509, 510, 511, 512, 869, 870, 871, 872, 513] (by decide +kernel)
set_option maxRecDepth 20000 in
theorem zw_wsL_law_r22 : ∀ w ∈ wsL_law_r22, w ∈ lw_tbl := zin_r wsL_law_r22 [514, 515, 516, 517, 518, 519, 521, 9, 522, 523, 524, 525, 526, 527, 528, 529, 530, 873, 874, 875, 876, 877, 878, 879] (by decide +kernel)
set_option maxRecDepth 20000 in
theorem zw_wsL_law_r23 : ∀ w ∈ wsL_law_r23, w ∈ lw_tbl := zin_r wsL_law_r23 [880, 882, 34, 883, 892, 884, 886, 35, 887, 888, 890, 36, 891, 531, 532, 533, 534, 535, 536, 537, 538, 539, 540, 541] (by decide +kernel)
set_option maxRecDepth 20000 in
theorem zw_wsL_law_r24 : ∀ w ∈ wsL_law_r24, w ∈ lw_tbl := zin_r wsL_law_r24 [542, 544, 10, 545, 546, 547, 548, 549, 551, 552, 553, 554, 555, 556, 557, 558, 559, 893, 894, 895, 896, 897, 898, 899] (by decide +kernel)
set_option maxRecDepth 20000 in
theorem zw_wsL_law_r25 : ∀ w ∈ wsL_law_r25, w ∈ lw_tbl := zin_r wsL_law_r25 [901, 37, 902, 682, 903, 905, 38, 906, 907, 908, 909, 560, 561, 562, 563, 564, 910, 911, 912, 913, 565, 566, 567, 568] (by decide +kernel)
set_option maxRecDepth 20000 in
theorem zw_wsL_law_r26 : ∀ w ∈ wsL_law_r26, w ∈ lw_tbl := zin_r wsL_law_r26 [914, 915, 916, 917, 569, 570, 571, 572, 573, 575, 11, 576, 577, 579, 12, 580, 581, 582, 583, 584, 586, 587, 588, 589] (by decide +kernel)
set_option maxRecDepth 20000 in
theorem zw_wsL_law_r27 : ∀ w ∈ wsL_law_r27, w ∈ lw_tbl := zin_r wsL_law_r27 [918, 919, 920, 921, 922, 924, 39, 925, 685, 926, 928, 40, 929, 686, 590, 591, 592, 593, 594, 596, 13, 597, 598, 599] (by decide +kernel)
set_option maxRecDepth 20000 in
theorem zw_wsL_law_r28 : ∀ w ∈ wsL_law_r28, w ∈ lw_tbl := zin_r wsL_law_r28 [600, 601, 930, 931, 932, 933, 934, 936, 41, 937, 602, 603, 604, 605, 606, 608, 14, 609, 610, 611, 612, 613, 614, 615] (by decide +kernel)
set_option maxRecDepth 20000 in
theorem zw_wsL_law_r29 : ∀ w ∈ wsL_law_r29, w ∈ lw_tbl := zin_r wsL_law_r29 [616, 618, 15, 619, 620, 938, 939, 940, 941, 942, 687, 943, 945, 42, 946, 947, 949, 43, 950, 951, 952, 953, 954, 621] (by decide +kernel)
set_option maxRecDepth 20000 in
theorem zw_wsL_law_r30 : ∀ w ∈ wsL_law_r30, w ∈ lw_tbl := zin_r wsL_law_r30 [622, 623, 624, 625, 626, 627, 628, 629, 630, 631, 632, 633, 955, 956, 957, 958, 689, 690, 691, 692, 693, 959, 961, 44] (by decide +kernel)
set_option maxRecDepth 20000 in
theorem zw_wsL_law_r31 : ∀ w ∈ wsL_law_r31, w ∈ lw_tbl := zin_r wsL_law_r31 [962, 634, 635, 636, 637, 963, 964, 965, 966, 638, 639, 640, 641, 642, 644, 16, 645, 646, 647, 648, 649, 967, 968, 969] (by decide +kernel)
set_option maxRecDepth 20000 in
theorem zw_wsL_law_r32 : ∀ w ∈ wsL_law_r32, w ∈ lw_tbl := zin_r wsL_law_r32 [970, 971, 973, 45, 974, 975, 977, 46, 978, 979, 981, 47, 982, 650, 651, 652, 653, 654, 655, 656, 658, 17, 659, 660] (by decide +kernel)
set_option maxRecDepth 20000 in
theorem zw_wsL_law_r33 : ∀ w ∈ wsL_law_r33, w ∈ lw_tbl := zin_r wsL_law_r33 [983, 984, 985, 986, 987, 696, 988, 990, 48, 991, 992, 993, 995, 49, 996] (by decide +kernel)
set_option maxRecDepth 20000 in
theorem zw_X6 : ∀ w ∈ wsX60, w ∈ lw_tbl := zin_r wsX60 [221, 223, 225, 227, 229, 231, 233, 235, 237, 239] (by decide +kernel)
set_option maxRecDepth 20000 in
theorem zw_X7 : ∀ w ∈ wsX70, w ∈ lw_tbl := zin_r wsX70 [697, 699, 701, 703, 705, 707, 709, 711, 713, 715, 717, 719, 721, 723, 725, 727, 729, 731, 733, 735, 737, 739, 741, 743, 745, 747, 749, 751, 753, 755] (by decide +kernel)
set_option maxRecDepth 20000 in
theorem zw_X3 : ∀ w ∈ wsX30, w ∈ lw_tbl := zin_r wsX30 [98, 100] (by decide +kernel)
set_option maxRecDepth 20000 in
theorem zw_X0 : ∀ w ∈ wsX00, w ∈ lw_tbl := zin_r wsX00 [123, 125, 127, 129, 131] (by decide +kernel)
set_option maxRecDepth 20000 in
theorem zw_X4 : ∀ w ∈ wsX40, w ∈ lw_tbl := zin_r wsX40 [158, 160, 162, 164, 166, 168, 170, 172] (by decide +kernel)
set_option maxRecDepth 20000 in
theorem zw_X1 : ∀ w ∈ wsX10, w ∈ lw_tbl := zin_r wsX10 [185, 187] (by decide +kernel)
set_option maxRecDepth 20000 in
theorem zw_X2 : ∀ w ∈ wsX20, w ∈ lw_tbl := zin_r wsX20 [202, 204, 206, 208] (by decide +kernel)
set_option maxRecDepth 20000 in
theorem zw_X5 : ∀ w ∈ wsX50, w ∈ lw_tbl := zin_r wsX50 [90] (by decide +kernel)
theorem wsL_law_in : ∀ w ∈ wsL_law, w ∈ lw_tbl := zin_a (zin_a (zin_a (zin_a (zin_a (zin_a (zin_a (zin_a (zin_a (zin_a zw_wsL_law_r1 (zin_a zw_wsL_law_r2 (zin_a zw_wsL_law_r3 (zin_a zw_wsL_law_r4 (zin_a zw_wsL_law_r5 (zin_a zw_wsL_law_r6 (zin_a zw_wsL_law_r7 (zin_a zw_wsL_law_r8 (zin_a zw_wsL_law_r9 (zin_a zw_wsL_law_r10 (zin_a zw_wsL_law_r11 (zin_a zw_wsL_law_r12 (zin_a zw_wsL_law_r13 (zin_a zw_wsL_law_r14 (zin_a zw_wsL_law_r15 (zin_a zw_wsL_law_r16 (zin_a zw_wsL_law_r17 (zin_a zw_wsL_law_r18 (zin_a zw_wsL_law_r19 (zin_a zw_wsL_law_r20 (zin_a zw_wsL_law_r21 (zin_a zw_wsL_law_r22 (zin_a zw_wsL_law_r23 (zin_a zw_wsL_law_r24 (zin_a zw_wsL_law_r25 (zin_a zw_wsL_law_r26 (zin_a zw_wsL_law_r27 (zin_a zw_wsL_law_r28 (zin_a zw_wsL_law_r29 (zin_a zw_wsL_law_r30 (zin_a zw_wsL_law_r31 (zin_a zw_wsL_law_r32 zw_wsL_law_r33)))))))))))))))))))))))))))))))) zw_X6) zw_X7) zw_X3) zw_X0) zw_X4) zw_X1) zw_X2) zw_X5) (fun _ h => absurd h List.not_mem_nil)
