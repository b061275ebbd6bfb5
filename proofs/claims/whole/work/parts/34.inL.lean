theorem zmem_r {big : List Cond} (ws : List Cond) (ps : List Nat) (hp : ws = ps.filterMap (fun i => big[i]?)) : ∀ w ∈ ws, w ∈ big := by
  intro w hw
  rw [hp] at hw
  obtain ⟨i, -, hi⟩ := List.mem_filterMap.mp hw
  exact List.mem_of_getElem? hi
theorem zor {a b big : List Cond} (ha : ∀ w ∈ a, w ∈ big) (hb : ∀ w ∈ b, w ∈ big) : ∀ w ∈ a ++ b, w ∈ big := fun w h => (List.mem_append.mp h).elim (ha w) (hb w)
set_option maxRecDepth 20000 in
theorem in_wsL_law_r1 : ∀ w ∈ wsL_law_r1, w ∈ lw_tbl := zmem_r _ [64, 65, 52, 654, 655, 59, 66, 67, 68, 69, 70, 71, 72, 73, 53, 237, 238, 125, 126, 54, 239, 152, 153, 55] (by decide +kernel)
set_option maxRecDepth 20000 in
theorem in_wsL_law_r2 : ∀ w ∈ wsL_law_r2, w ∈ lw_tbl := zmem_r _ [240, 175, 176, 56, 241, 194, 195, 57, 242, 210, 211, 58, 243, 75, 76, 77, 124, 78, 81, 85, 88, 91, 93, 95] (by decide +kernel)
set_option maxRecDepth 20000 in
theorem in_wsL_law_r3 : ∀ w ∈ wsL_law_r3, w ∈ lw_tbl := zmem_r _ [97, 99, 101, 128, 129, 130, 131, 134, 136, 138, 140, 155, 156, 157, 158, 160, 162, 164, 178, 179, 180, 181, 183, 185] (by decide +kernel)
set_option maxRecDepth 20000 in
theorem in_wsL_law_r4 : ∀ w ∈ wsL_law_r4, w ∈ lw_tbl := zmem_r _ [197, 198, 199, 200, 202, 203, 213, 214, 215, 236, 216, 217, 219, 221, 223, 656, 657, 658, 659, 660, 661, 662, 663, 666] (by decide +kernel)
set_option maxRecDepth 20000 in
theorem in_wsL_law_r5 : ∀ w ∈ wsL_law_r5, w ∈ lw_tbl := zmem_r _ [672, 673, 680, 271, 272, 273, 274, 275, 276, 277, 278, 279, 281, 280, 60, 282, 283, 284, 285, 289, 290, 287, 288, 291] (by decide +kernel)
set_option maxRecDepth 20000 in
theorem in_wsL_law_r6 : ∀ w ∈ wsL_law_r6, w ∈ lw_tbl := zmem_r _ [293, 0, 294, 295, 296, 297, 298, 299, 301, 1, 302, 304, 724, 725, 726, 727, 731, 732, 728, 729, 730, 733, 735, 20] (by decide +kernel)
set_option maxRecDepth 20000 in
theorem in_wsL_law_r7 : ∀ w ∈ wsL_law_r7, w ∈ lw_tbl := zmem_r _ [736, 665, 664, 305, 306, 307, 308, 309, 310, 311, 312, 313, 314, 315, 316, 737, 738, 739, 740, 741, 743, 21, 744, 745] (by decide +kernel)
set_option maxRecDepth 20000 in
theorem in_wsL_law_r8 : ∀ w ∈ wsL_law_r8, w ∈ lw_tbl := zmem_r _ [747, 22, 748, 317, 318, 319, 320, 321, 322, 323, 324, 325, 327, 2, 328, 337, 329, 330, 331, 332, 333, 334, 335, 336] (by decide +kernel)
set_option maxRecDepth 20000 in
theorem in_wsL_law_r9 : ∀ w ∈ wsL_law_r9, w ∈ lw_tbl := zmem_r _ [338, 339, 340, 341, 342, 344, 3, 345, 749, 750, 751, 752, 753, 754, 755, 756, 758, 23, 759, 769, 760, 762, 24, 763] (by decide +kernel)
set_option maxRecDepth 20000 in
theorem in_wsL_law_r10 : ∀ w ∈ wsL_law_r10, w ∈ lw_tbl := zmem_r _ [768, 764, 766, 25, 767, 770, 772, 26, 773, 774, 776, 27, 777, 346, 347, 348, 349, 350, 351, 352, 353, 778, 779, 780] (by decide +kernel)
set_option maxRecDepth 20000 in
theorem in_wsL_law_r11 : ∀ w ∈ wsL_law_r11, w ∈ lw_tbl := zmem_r _ [781, 354, 355, 356, 357, 358, 359, 360, 361, 782, 783, 784, 785, 786, 788, 28, 789, 362, 363, 364, 365, 366, 367, 368] (by decide +kernel)
set_option maxRecDepth 20000 in
theorem in_wsL_law_r12 : ∀ w ∈ wsL_law_r12, w ∈ lw_tbl := zmem_r _ [369, 370, 790, 791, 792, 793, 794, 796, 29, 797, 371, 372, 373, 374, 375, 376, 377, 378, 798, 799, 800, 801, 379, 380] (by decide +kernel)
set_option maxRecDepth 20000 in
theorem in_wsL_law_r13 : ∀ w ∈ wsL_law_r13, w ∈ lw_tbl := zmem_r _ [381, 382, 385, 80, 83, 133, 430, 135, 137, 139, 383, 384, 386, 387, 388, 389, 86, 390, 391, 392, 393, 394, 79, 89] (by decide +kernel)
set_option maxRecDepth 20000 in
theorem in_wsL_law_r14 : ∀ w ∈ wsL_law_r14, w ∈ lw_tbl := zmem_r _ [395, 396, 397, 398, 399, 400, 61, 401, 402, 403, 404, 405, 406, 407, 408, 409, 411, 4, 412, 413, 414, 415, 416, 418] (by decide +kernel)
set_option maxRecDepth 20000 in
theorem in_wsL_law_r15 : ∀ w ∈ wsL_law_r15, w ∈ lw_tbl := zmem_r _ [419, 420, 421, 422, 423, 424, 425, 426, 427, 428, 429, 431, 432, 433, 434, 802, 803, 804, 805, 671, 669, 670, 668, 806] (by decide +kernel)
set_option maxRecDepth 20000 in
theorem in_wsL_law_r16 : ∀ w ∈ wsL_law_r16, w ∈ lw_tbl := zmem_r _ [808, 30, 809, 810, 812, 31, 813, 814, 815, 816, 817, 819, 32, 820, 821, 822, 823, 824, 826, 33, 827, 435, 436, 437] (by decide +kernel)
set_option maxRecDepth 20000 in
theorem in_wsL_law_r17 : ∀ w ∈ wsL_law_r17, w ∈ lw_tbl := zmem_r _ [438, 90, 92, 94, 96, 439, 440, 442, 5, 443, 98, 444, 445, 446, 447, 448, 449, 450, 451, 452, 84, 828, 829, 830] (by decide +kernel)
set_option maxRecDepth 20000 in
theorem in_wsL_law_r18 : ∀ w ∈ wsL_law_r18, w ∈ lw_tbl := zmem_r _ [831, 832, 834, 34, 835, 836, 838, 35, 839, 453, 454, 455, 456, 457, 459, 6, 460, 461, 840, 841, 842, 843, 462, 463] (by decide +kernel)
set_option maxRecDepth 20000 in
theorem in_wsL_law_r19 : ∀ w ∈ wsL_law_r19, w ∈ lw_tbl := zmem_r _ [464, 465, 466, 467, 468, 469, 132, 82, 470, 471, 472, 473, 475, 7, 476, 477, 479, 8, 480, 481, 482, 483, 484, 485] (by decide +kernel)
set_option maxRecDepth 20000 in
theorem in_wsL_law_r20 : ∀ w ∈ wsL_law_r20, w ∈ lw_tbl := zmem_r _ [486, 487, 488, 844, 845, 846, 847, 848, 850, 36, 851, 852, 854, 37, 855, 489, 490, 491, 492, 159, 161, 163, 493, 494] (by decide +kernel)
set_option maxRecDepth 20000 in
theorem in_wsL_law_r21 : ∀ w ∈ wsL_law_r21, w ∈ lw_tbl := zmem_r _ [495, 496, 497, 499, 9, 500, 501, 856, 857, 858, 859, 860, 862, 38, 863, 864, 866, 39, 867, 502, 503, 504, 505, 506] (by decide +kernel)
set_option maxRecDepth 20000 in
theorem in_wsL_law_r22 : ∀ w ∈ wsL_law_r22, w ∈ lw_tbl := zmem_r _ [868, 869, 870, 871, 507, 508, 509, 510, 182, 184, 186, 511, 512, 513, 514, 515, 516, 518, 10, 519, 520, 522, 11, 523] (by decide +kernel)
set_option maxRecDepth 20000 in
theorem in_wsL_law_r23 : ∀ w ∈ wsL_law_r23, w ∈ lw_tbl := zmem_r _ [524, 525, 526, 527, 528, 529, 530, 531, 532, 533, 62, 534, 535, 536, 537, 538, 539, 540, 541, 542, 543, 61, 544, 545] (by decide +kernel)
set_option maxRecDepth 20000 in
theorem in_wsL_law_r24 : ∀ w ∈ wsL_law_r24, w ∈ lw_tbl := zmem_r _ [546, 547, 548, 549, 550, 551, 872, 873, 874, 875, 876, 877, 878, 879, 880, 881, 882, 884, 40, 885, 552, 553, 554, 555] (by decide +kernel)
set_option maxRecDepth 20000 in
theorem in_wsL_law_r25 : ∀ w ∈ wsL_law_r25, w ∈ lw_tbl := zmem_r _ [556, 886, 887, 888, 889, 557, 558, 559, 560, 890, 891, 892, 893, 561, 562, 563, 564, 565, 566, 567, 568, 569, 570, 571] (by decide +kernel)
set_option maxRecDepth 20000 in
theorem in_wsL_law_r26 : ∀ w ∈ wsL_law_r26, w ∈ lw_tbl := zmem_r _ [572, 573, 574, 575, 576, 894, 895, 896, 897, 898, 900, 41, 901, 902, 903, 63, 904, 908, 910, 909, 63, 911, 905, 906] (by decide +kernel)
set_option maxRecDepth 20000 in
theorem in_wsL_law_r27 : ∀ w ∈ wsL_law_r27, w ∈ lw_tbl := zmem_r _ [907, 577, 578, 579, 580, 87, 100, 204, 218, 102, 581, 583, 12, 584, 165, 585, 587, 13, 588, 589, 590, 591, 592, 912] (by decide +kernel)
set_option maxRecDepth 20000 in
theorem in_wsL_law_r28 : ∀ w ∈ wsL_law_r28, w ∈ lw_tbl := zmem_r _ [913, 914, 915, 667, 916, 918, 42, 919, 920, 922, 43, 923, 924, 926, 44, 927, 593, 594, 595, 596, 597, 598, 599, 600] (by decide +kernel)
set_option maxRecDepth 20000 in
theorem in_wsL_law_r29 : ∀ w ∈ wsL_law_r29, w ∈ lw_tbl := zmem_r _ [928, 929, 930, 931, 601, 602, 603, 604, 609, 605, 606, 607, 608, 932, 933, 934, 935, 610, 611, 612, 613, 936, 937, 938] (by decide +kernel)
set_option maxRecDepth 20000 in
theorem in_wsL_law_r30 : ∀ w ∈ wsL_law_r30, w ∈ lw_tbl := zmem_r _ [939, 614, 615, 616, 617, 245, 244, 246, 618, 620, 14, 621, 247, 224, 622, 623, 624, 625, 626, 628, 15, 629, 630, 631] (by decide +kernel)
set_option maxRecDepth 20000 in
theorem in_wsL_law_r31 : ∀ w ∈ wsL_law_r31, w ∈ lw_tbl := zmem_r _ [632, 633, 635, 16, 636, 638, 640, 17, 641, 642, 644, 18, 645, 646, 648, 19, 649, 222, 220, 940, 941, 942, 943, 675] (by decide +kernel)
set_option maxRecDepth 20000 in
theorem in_wsL_law_r32 : ∀ w ∈ wsL_law_r32, w ∈ lw_tbl := zmem_r _ [676, 677, 944, 946, 45, 947, 674, 678, 948, 950, 46, 951, 679, 952, 954, 47, 955, 956, 957, 958, 959, 961, 48, 962] (by decide +kernel)
set_option maxRecDepth 20000 in
theorem in_wsL_law_r33 : ∀ w ∈ wsL_law_r33, w ∈ lw_tbl := zmem_r _ [963, 965, 49, 966, 967, 969, 50, 970, 971, 972, 973, 974, 650, 651, 652, 653, 975, 976, 977, 978] (by decide +kernel)
set_option maxRecDepth 20000 in
theorem in_uX6 : ∀ w ∈ wsX60, w ∈ lw_tbl := by decide +kernel
set_option maxRecDepth 20000 in
theorem in_uX7 : ∀ w ∈ wsX70, w ∈ lw_tbl := by decide +kernel
set_option maxRecDepth 20000 in
theorem in_uX0 : ∀ w ∈ wsX00, w ∈ lw_tbl := by decide +kernel
set_option maxRecDepth 20000 in
theorem in_uX4 : ∀ w ∈ wsX40, w ∈ lw_tbl := by decide +kernel
set_option maxRecDepth 20000 in
theorem in_uX1 : ∀ w ∈ wsX10, w ∈ lw_tbl := by decide +kernel
set_option maxRecDepth 20000 in
theorem in_uX2 : ∀ w ∈ wsX20, w ∈ lw_tbl := by decide +kernel
set_option maxRecDepth 20000 in
theorem in_uX3 : ∀ w ∈ wsX30, w ∈ lw_tbl := by decide +kernel
set_option maxRecDepth 20000 in
theorem in_uX5 : ∀ w ∈ wsX50, w ∈ lw_tbl := by decide +kernel
theorem wsL_law_in : ∀ w ∈ wsL_law, w ∈ lw_tbl := (zor (zor (zor (zor (zor (zor (zor (zor (zor (zor in_wsL_law_r1 (zor in_wsL_law_r2 (zor in_wsL_law_r3 (zor in_wsL_law_r4 (zor in_wsL_law_r5 (zor in_wsL_law_r6 (zor in_wsL_law_r7 (zor in_wsL_law_r8 (zor in_wsL_law_r9 (zor in_wsL_law_r10 (zor in_wsL_law_r11 (zor in_wsL_law_r12 (zor in_wsL_law_r13 (zor in_wsL_law_r14 (zor in_wsL_law_r15 (zor in_wsL_law_r16 (zor in_wsL_law_r17 (zor in_wsL_law_r18 (zor in_wsL_law_r19 (zor in_wsL_law_r20 (zor in_wsL_law_r21 (zor in_wsL_law_r22 (zor in_wsL_law_r23 (zor in_wsL_law_r24 (zor in_wsL_law_r25 (zor in_wsL_law_r26 (zor in_wsL_law_r27 (zor in_wsL_law_r28 (zor in_wsL_law_r29 (zor in_wsL_law_r30 (zor in_wsL_law_r31 (zor in_wsL_law_r32 in_wsL_law_r33)))))))))))))))))))))))))))))))) in_uX6) in_uX7) in_uX0) in_uX4) in_uX1) in_uX2) in_uX3) in_uX5) (fun w h => absurd h List.not_mem_nil))
theorem inlX0 : ∀ w ∈ wsX00, w ∈ wsL_law := fun _ h => List.mem_append_left _ (List.mem_append_left _ (List.mem_append_left _ (List.mem_append_left _ (List.mem_append_left _ (List.mem_append_left _ (List.mem_append_right _ h))))))
theorem inX0 : ∀ w ∈ wsX00, w ∈ lw_tbl := fun w h => wsL_law_in w (inlX0 w h)
theorem inlX1 : ∀ w ∈ wsX10, w ∈ wsL_law := fun _ h => List.mem_append_left _ (List.mem_append_left _ (List.mem_append_left _ (List.mem_append_left _ (List.mem_append_right _ h))))
theorem inX1 : ∀ w ∈ wsX10, w ∈ lw_tbl := fun w h => wsL_law_in w (inlX1 w h)
theorem inlX2 : ∀ w ∈ wsX20, w ∈ wsL_law := fun _ h => List.mem_append_left _ (List.mem_append_left _ (List.mem_append_left _ (List.mem_append_right _ h)))
theorem inX2 : ∀ w ∈ wsX20, w ∈ lw_tbl := fun w h => wsL_law_in w (inlX2 w h)
theorem inlX3 : ∀ w ∈ wsX30, w ∈ wsL_law := fun _ h => List.mem_append_left _ (List.mem_append_left _ (List.mem_append_right _ h))
theorem inX3 : ∀ w ∈ wsX30, w ∈ lw_tbl := fun w h => wsL_law_in w (inlX3 w h)
theorem inlX4 : ∀ w ∈ wsX40, w ∈ wsL_law := fun _ h => List.mem_append_left _ (List.mem_append_left _ (List.mem_append_left _ (List.mem_append_left _ (List.mem_append_left _ (List.mem_append_right _ h)))))
theorem inX4 : ∀ w ∈ wsX40, w ∈ lw_tbl := fun w h => wsL_law_in w (inlX4 w h)
theorem inlX5 : ∀ w ∈ wsX50, w ∈ wsL_law := fun _ h => List.mem_append_left _ (List.mem_append_right _ h)
theorem inX5 : ∀ w ∈ wsX50, w ∈ lw_tbl := fun w h => wsL_law_in w (inlX5 w h)
theorem inlX6 : ∀ w ∈ wsX60, w ∈ wsL_law := fun _ h => List.mem_append_left _ (List.mem_append_left _ (List.mem_append_left _ (List.mem_append_left _ (List.mem_append_left _ (List.mem_append_left _ (List.mem_append_left _ (List.mem_append_left _ (List.mem_append_right _ h))))))))
theorem inX6 : ∀ w ∈ wsX60, w ∈ lw_tbl := fun w h => wsL_law_in w (inlX6 w h)
theorem inlX7 : ∀ w ∈ wsX70, w ∈ wsL_law := fun _ h => List.mem_append_left _ (List.mem_append_left _ (List.mem_append_left _ (List.mem_append_left _ (List.mem_append_left _ (List.mem_append_left _ (List.mem_append_left _ (List.mem_append_right _ h)))))))
theorem inX7 : ∀ w ∈ wsX70, w ∈ lw_tbl := fun w h => wsL_law_in w (inlX7 w h)
