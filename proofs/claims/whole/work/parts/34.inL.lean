theorem zmem_r {big : List Cond} (ws : List Cond) (ps : List Nat) (hp : ws = ps.filterMap (fun i => big[i]?)) : ∀ w ∈ ws, w ∈ big := by
  intro w hw
  rw [hp] at hw
  obtain ⟨i, -, hi⟩ := List.mem_filterMap.mp hw
  exact List.mem_of_getElem? hi
theorem zor {a b big : List Cond} (ha : ∀ w ∈ a, w ∈ big) (hb : ∀ w ∈ b, w ∈ big) : ∀ w ∈ a ++ b, w ∈ big := fun w h => (List.mem_append.mp h).elim (ha w) (hb w)
set_option maxRecDepth 20000 in
theorem in_wsL_law_r1 : ∀ w ∈ wsL_law_r1, w ∈ lw_tbl := zmem_r _ [64, 65, 52, 655, 656, 59, 66, 67, 68, 69, 70, 71, 72, 73, 53, 237, 238, 125, 126, 54, 239, 152, 153, 55] (by decide +kernel)
set_option maxRecDepth 20000 in
theorem in_wsL_law_r2 : ∀ w ∈ wsL_law_r2, w ∈ lw_tbl := zmem_r _ [240, 175, 176, 56, 241, 194, 195, 57, 242, 210, 211, 58, 243, 75, 76, 77, 124, 78, 81, 85, 88, 91, 93, 95] (by decide +kernel)
set_option maxRecDepth 20000 in
theorem in_wsL_law_r3 : ∀ w ∈ wsL_law_r3, w ∈ lw_tbl := zmem_r _ [97, 99, 101, 128, 129, 130, 131, 134, 136, 138, 140, 155, 156, 157, 158, 160, 162, 164, 178, 179, 180, 181, 183, 185] (by decide +kernel)
set_option maxRecDepth 20000 in
theorem in_wsL_law_r4 : ∀ w ∈ wsL_law_r4, w ∈ lw_tbl := zmem_r _ [197, 198, 199, 200, 202, 203, 213, 214, 215, 236, 216, 217, 219, 221, 223, 657, 658, 659, 660, 661, 662, 663, 664, 667] (by decide +kernel)
set_option maxRecDepth 20000 in
theorem in_wsL_law_r5 : ∀ w ∈ wsL_law_r5, w ∈ lw_tbl := zmem_r _ [673, 674, 681, 271, 272, 273, 274, 275, 276, 277, 278, 279, 281, 280, 60, 282, 283, 284, 285, 289, 290, 287, 288, 291] (by decide +kernel)
set_option maxRecDepth 20000 in
theorem in_wsL_law_r6 : ∀ w ∈ wsL_law_r6, w ∈ lw_tbl := zmem_r _ [293, 0, 294, 295, 296, 297, 298, 299, 301, 1, 302, 304, 725, 726, 727, 728, 732, 733, 729, 730, 731, 734, 736, 20] (by decide +kernel)
set_option maxRecDepth 20000 in
theorem in_wsL_law_r7 : ∀ w ∈ wsL_law_r7, w ∈ lw_tbl := zmem_r _ [737, 666, 665, 305, 306, 307, 308, 309, 310, 311, 312, 313, 314, 315, 316, 738, 739, 740, 741, 742, 744, 21, 745, 746] (by decide +kernel)
set_option maxRecDepth 20000 in
theorem in_wsL_law_r8 : ∀ w ∈ wsL_law_r8, w ∈ lw_tbl := zmem_r _ [748, 22, 749, 317, 318, 319, 320, 321, 322, 323, 324, 325, 327, 2, 328, 337, 329, 330, 331, 332, 333, 334, 335, 336] (by decide +kernel)
set_option maxRecDepth 20000 in
theorem in_wsL_law_r9 : ∀ w ∈ wsL_law_r9, w ∈ lw_tbl := zmem_r _ [338, 339, 340, 341, 342, 344, 3, 345, 750, 751, 752, 753, 754, 755, 756, 757, 759, 23, 760, 770, 761, 763, 24, 764] (by decide +kernel)
set_option maxRecDepth 20000 in
theorem in_wsL_law_r10 : ∀ w ∈ wsL_law_r10, w ∈ lw_tbl := zmem_r _ [769, 765, 767, 25, 768, 771, 773, 26, 774, 775, 777, 27, 778, 346, 347, 348, 349, 350, 351, 352, 353, 779, 780, 781] (by decide +kernel)
set_option maxRecDepth 20000 in
theorem in_wsL_law_r11 : ∀ w ∈ wsL_law_r11, w ∈ lw_tbl := zmem_r _ [782, 354, 355, 356, 357, 358, 359, 360, 361, 783, 784, 785, 786, 787, 789, 28, 790, 362, 363, 364, 365, 366, 367, 368] (by decide +kernel)
set_option maxRecDepth 20000 in
theorem in_wsL_law_r12 : ∀ w ∈ wsL_law_r12, w ∈ lw_tbl := zmem_r _ [369, 370, 791, 792, 793, 794, 795, 797, 29, 798, 371, 372, 373, 374, 375, 376, 377, 378, 799, 800, 801, 802, 379, 380] (by decide +kernel)
set_option maxRecDepth 20000 in
theorem in_wsL_law_r13 : ∀ w ∈ wsL_law_r13, w ∈ lw_tbl := zmem_r _ [381, 382, 385, 80, 83, 133, 431, 135, 137, 139, 383, 384, 386, 387, 388, 389, 86, 390, 391, 392, 393, 394, 79, 89] (by decide +kernel)
set_option maxRecDepth 20000 in
theorem in_wsL_law_r14 : ∀ w ∈ wsL_law_r14, w ∈ lw_tbl := zmem_r _ [395, 396, 397, 398, 399, 400, 61, 401, 402, 403, 404, 405, 406, 407, 408, 409, 411, 4, 412, 414, 415, 416, 417, 419] (by decide +kernel)
set_option maxRecDepth 20000 in
theorem in_wsL_law_r15 : ∀ w ∈ wsL_law_r15, w ∈ lw_tbl := zmem_r _ [420, 421, 422, 423, 424, 425, 426, 427, 428, 429, 430, 432, 433, 434, 435, 803, 804, 805, 806, 672, 670, 671, 669, 807] (by decide +kernel)
set_option maxRecDepth 20000 in
theorem in_wsL_law_r16 : ∀ w ∈ wsL_law_r16, w ∈ lw_tbl := zmem_r _ [809, 30, 810, 811, 813, 31, 814, 815, 816, 817, 818, 820, 32, 821, 822, 823, 824, 825, 827, 33, 828, 436, 437, 438] (by decide +kernel)
set_option maxRecDepth 20000 in
theorem in_wsL_law_r17 : ∀ w ∈ wsL_law_r17, w ∈ lw_tbl := zmem_r _ [439, 90, 92, 94, 96, 440, 441, 443, 5, 444, 98, 445, 446, 447, 448, 449, 450, 451, 452, 453, 84, 829, 830, 831] (by decide +kernel)
set_option maxRecDepth 20000 in
theorem in_wsL_law_r18 : ∀ w ∈ wsL_law_r18, w ∈ lw_tbl := zmem_r _ [832, 833, 835, 34, 836, 837, 839, 35, 840, 454, 455, 456, 457, 458, 460, 6, 461, 462, 841, 842, 843, 844, 463, 464] (by decide +kernel)
set_option maxRecDepth 20000 in
theorem in_wsL_law_r19 : ∀ w ∈ wsL_law_r19, w ∈ lw_tbl := zmem_r _ [465, 466, 467, 468, 469, 470, 132, 82, 471, 472, 473, 474, 476, 7, 477, 478, 480, 8, 481, 482, 483, 484, 485, 486] (by decide +kernel)
set_option maxRecDepth 20000 in
theorem in_wsL_law_r20 : ∀ w ∈ wsL_law_r20, w ∈ lw_tbl := zmem_r _ [487, 488, 489, 845, 846, 847, 848, 849, 851, 36, 852, 853, 855, 37, 856, 490, 491, 492, 493, 159, 161, 163, 494, 495] (by decide +kernel)
set_option maxRecDepth 20000 in
theorem in_wsL_law_r21 : ∀ w ∈ wsL_law_r21, w ∈ lw_tbl := zmem_r _ [496, 497, 498, 500, 9, 501, 502, 857, 858, 859, 860, 861, 863, 38, 864, 865, 867, 39, 868, 503, 504, 505, 506, 507] (by decide +kernel)
set_option maxRecDepth 20000 in
theorem in_wsL_law_r22 : ∀ w ∈ wsL_law_r22, w ∈ lw_tbl := zmem_r _ [869, 870, 871, 872, 508, 509, 510, 511, 182, 184, 186, 512, 513, 514, 515, 516, 517, 519, 10, 520, 521, 523, 11, 524] (by decide +kernel)
set_option maxRecDepth 20000 in
theorem in_wsL_law_r23 : ∀ w ∈ wsL_law_r23, w ∈ lw_tbl := zmem_r _ [525, 526, 527, 528, 529, 530, 531, 532, 533, 534, 62, 535, 536, 537, 538, 539, 540, 541, 542, 543, 544, 61, 545, 546] (by decide +kernel)
set_option maxRecDepth 20000 in
theorem in_wsL_law_r24 : ∀ w ∈ wsL_law_r24, w ∈ lw_tbl := zmem_r _ [547, 548, 549, 550, 551, 552, 873, 874, 875, 876, 877, 878, 879, 880, 881, 882, 883, 885, 40, 886, 553, 554, 555, 556] (by decide +kernel)
set_option maxRecDepth 20000 in
theorem in_wsL_law_r25 : ∀ w ∈ wsL_law_r25, w ∈ lw_tbl := zmem_r _ [557, 887, 888, 889, 890, 558, 559, 560, 561, 891, 892, 893, 894, 562, 563, 564, 565, 566, 567, 568, 569, 570, 571, 572] (by decide +kernel)
set_option maxRecDepth 20000 in
theorem in_wsL_law_r26 : ∀ w ∈ wsL_law_r26, w ∈ lw_tbl := zmem_r _ [573, 574, 575, 576, 577, 895, 896, 897, 898, 899, 901, 41, 902, 903, 904, 63, 905, 909, 911, 910, 63, 912, 906, 907] (by decide +kernel)
set_option maxRecDepth 20000 in
theorem in_wsL_law_r27 : ∀ w ∈ wsL_law_r27, w ∈ lw_tbl := zmem_r _ [908, 578, 579, 580, 581, 87, 100, 204, 218, 102, 582, 584, 12, 585, 165, 586, 588, 13, 589, 590, 591, 592, 593, 913] (by decide +kernel)
set_option maxRecDepth 20000 in
theorem in_wsL_law_r28 : ∀ w ∈ wsL_law_r28, w ∈ lw_tbl := zmem_r _ [914, 915, 916, 668, 917, 919, 42, 920, 921, 923, 43, 924, 925, 927, 44, 928, 594, 595, 596, 597, 598, 599, 600, 601] (by decide +kernel)
set_option maxRecDepth 20000 in
theorem in_wsL_law_r29 : ∀ w ∈ wsL_law_r29, w ∈ lw_tbl := zmem_r _ [929, 930, 931, 932, 602, 603, 604, 605, 610, 606, 607, 608, 609, 933, 934, 935, 936, 611, 612, 613, 614, 937, 938, 939] (by decide +kernel)
set_option maxRecDepth 20000 in
theorem in_wsL_law_r30 : ∀ w ∈ wsL_law_r30, w ∈ lw_tbl := zmem_r _ [940, 615, 616, 617, 618, 245, 244, 246, 619, 621, 14, 622, 247, 224, 623, 624, 625, 626, 627, 629, 15, 630, 631, 632] (by decide +kernel)
set_option maxRecDepth 20000 in
theorem in_wsL_law_r31 : ∀ w ∈ wsL_law_r31, w ∈ lw_tbl := zmem_r _ [633, 634, 636, 16, 637, 639, 641, 17, 642, 643, 645, 18, 646, 647, 649, 19, 650, 222, 220, 941, 942, 943, 944, 676] (by decide +kernel)
set_option maxRecDepth 20000 in
theorem in_wsL_law_r32 : ∀ w ∈ wsL_law_r32, w ∈ lw_tbl := zmem_r _ [677, 678, 945, 947, 45, 948, 675, 679, 949, 951, 46, 952, 680, 953, 955, 47, 956, 957, 958, 959, 960, 962, 48, 963] (by decide +kernel)
set_option maxRecDepth 20000 in
theorem in_wsL_law_r33 : ∀ w ∈ wsL_law_r33, w ∈ lw_tbl := zmem_r _ [964, 966, 49, 967, 968, 970, 50, 971, 972, 973, 974, 975, 651, 652, 653, 654, 976, 977, 978, 979] (by decide +kernel)
set_option maxRecDepth 20000 in
theorem in_uX6 : ∀ w ∈ wsX60, w ∈ lw_tbl := by decide +kernel
set_option maxRecDepth 20000 in
theorem in_uX7 : ∀ w ∈ wsX70, w ∈ lw_tbl := by decide +kernel
set_option maxRecDepth 20000 in
theorem in_uX0 : ∀ w ∈ wsX00, w ∈ lw_tbl := by decide +kernel
set_option maxRecDepth 20000 in
theorem in_uX4 : ∀ w ∈ wsX40, w ∈ lw_tbl := by decide +kernel
set_option maxRecDepth 20000 in
theorem in_uX1 : ∀ w ∈ wsX10, w ∈ lw_tbl := by decide +kernel
set_option maxRecDepth 20000 in
theorem in_uX2 : ∀ w ∈ wsX20, w ∈ lw_tbl := by decide +kernel
set_option maxRecDepth 20000 in
theorem in_uX3 : ∀ w ∈ wsX30, w ∈ lw_tbl := by decide +kernel
set_option maxRecDepth 20000 in
theorem in_uX5 : ∀ w ∈ wsX50, w ∈ lw_tbl := by decide +kernel
theorem wsL_law_in : ∀ w ∈ wsL_law, w ∈ lw_tbl := (zor (zor (zor (zor (zor (zor (zor (zor (zor (zor in_wsL_law_r1 (zor in_wsL_law_r2 (zor in_wsL_law_r3 (zor in_wsL_law_r4 (zor in_wsL_law_r5 (zor in_wsL_law_r6 (zor in_wsL_law_r7 (zor in_wsL_law_r8 (zor in_wsL_law_r9 (zor in_wsL_law_r10 (zor in_wsL_law_r11 (zor in_wsL_law_r12 (zor in_wsL_law_r13 (zor in_wsL_law_r14 (zor in_wsL_law_r15 (zor in_wsL_law_r16 (zor in_wsL_law_r17 (zor in_wsL_law_r18 (zor in_wsL_law_r19 (zor in_wsL_law_r20 (zor in_wsL_law_r21 (zor in_wsL_law_r22 (zor in_wsL_law_r23 (zor in_wsL_law_r24 (zor in_wsL_law_r25 (zor in_wsL_law_r26 (zor in_wsL_law_r27 (zor in_wsL_law_r28 (zor in_wsL_law_r29 (zor in_wsL_law_r30 (zor in_wsL_law_r31 (zor in_wsL_law_r32 in_wsL_law_r33)))))))))))))))))))))))))))))))) in_uX6) in_uX7) in_uX0) in_uX4) in_uX1) in_uX2) in_uX3) in_uX5) (fun w h => absurd h List.not_mem_nil))
theorem inlX0 : ∀ w ∈ wsX00, w ∈ wsL_law := fun _ h => List.mem_append_left _ (List.mem_append_left _ (List.mem_append_left _ (List.mem_append_left _ (List.mem_append_left _ (List.mem_append_left _ (List.mem_append_right _ h))))))
theorem inX0 : ∀ w ∈ wsX00, w ∈ lw_tbl := fun w h => wsL_law_in w (inlX0 w h)
theorem inlX1 : ∀ w ∈ wsX10, w ∈ wsL_law := fun _ h => List.mem_append_left _ (List.mem_append_left _ (List.mem_append_left _ (List.mem_append_left _ (List.mem_append_right _ h))))
theorem inX1 : ∀ w ∈ wsX10, w ∈ lw_tbl := fun w h => wsL_law_in w (inlX1 w h)
theorem inlX2 : ∀ w ∈ wsX20, w ∈ wsL_law := fun _ h => List.mem_append_left _ (List.mem_append_left _ (List.mem_append_left _ (List.mem_append_right _ h)))
theorem inX2 : ∀ w ∈ wsX20, w ∈ lw_tbl := fun w h => wsL_law_in w (inlX2 w h)
theorem inlX3 : ∀ w ∈ wsX30, w ∈ wsL_law := fun _ h => List.mem_append_left _ (List.mem_append_left _ (List.mem_append_right _ h))
theorem inX3 : ∀ w ∈ wsX30, w ∈ lw_tbl := fun w h => wsL_law_in w (inlX3 w h)
theorem inlX4 : ∀ w ∈ wsX40, w ∈ wsL_law := fun _ h => List.mem_append_left _ (List.mem_append_left _ (List.mem_append_left _ (List.mem_append_left _ (List.mem_append_left _ (List.mem_append_right _ h)))))
theorem inX4 : ∀ w ∈ wsX40, w ∈ lw_tbl := fun w h => wsL_law_in w (inlX4 w h)
theorem inlX5 : ∀ w ∈ wsX50, w ∈ wsL_law := fun _ h => List.mem_append_left _ (List.mem_append_right _ h)
theorem inX5 : ∀ w ∈ wsX50, w ∈ lw_tbl := fun w h => wsL_law_in w (inlX5 w h)
theorem inlX6 : ∀ w ∈ wsX60, w ∈ wsL_law := fun _ h => List.mem_append_left _ (List.mem_append_left _ (List.mem_append_left _ (List.mem_append_left _ (List.mem_append_left _ (List.mem_append_left _ (List.mem_append_left _ (List.mem_append_left _ (List.mem_append_right _ h))))))))
theorem inX6 : ∀ w ∈ wsX60, w ∈ lw_tbl := fun w h => wsL_law_in w (inlX6 w h)
theorem inlX7 : ∀ w ∈ wsX70, w ∈ wsL_law := fun _ h => List.mem_append_left _ (List.mem_append_left _ (List.mem_append_left _ (List.mem_append_left _ (List.mem_append_left _ (List.mem_append_left _ (List.mem_append_left _ (List.mem_append_right _ h)))))))
theorem inX7 : ∀ w ∈ wsX70, w ∈ lw_tbl := fun w h => wsL_law_in w (inlX7 w h)
