theorem dX7_init_0 : decode cX7_init 0 = .ok (.aload_n 0, 1) := by decide +kernel
theorem dX7_init_1 : decode cX7_init 1 = .ok (.invokespecial 1, 3) := by decide +kernel
theorem dX7_init_4 : decode cX7_init 4 = .ok (.aload_n 0, 1) := by decide +kernel
theorem dX7_init_5 : decode cX7_init 5 = .ok (.bipush 59, 2) := by decide +kernel
theorem dX7_init_7 : decode cX7_init 7 = .ok (.newarray .int, 2) := by decide +kernel
theorem dX7_init_9 : decode cX7_init 9 = .ok (.putfield 7, 3) := by decide +kernel
theorem dX7_init_12 : decode cX7_init 12 = .ok (.aload_n 0, 1) := by decide +kernel
theorem dX7_init_13 : decode cX7_init 13 = .ok (.sipush 236, 3) := by decide +kernel
theorem dX7_init_16 : decode cX7_init 16 = .ok (.newarray .int, 2) := by decide +kernel
theorem dX7_init_18 : decode cX7_init 18 = .ok (.putfield 13, 3) := by decide +kernel
theorem dX7_init_21 : decode cX7_init 21 = .ok (.aload_n 0, 1) := by decide +kernel
theorem dX7_init_22 : decode cX7_init 22 = .ok (.bipush 59, 2) := by decide +kernel
theorem dX7_init_24 : decode cX7_init 24 = .ok (.newarray .int, 2) := by decide +kernel
theorem dX7_init_26 : decode cX7_init 26 = .ok (.putfield 16, 3) := by decide +kernel
theorem dX7_init_29 : decode cX7_init 29 = .ok (.aload_n 0, 1) := by decide +kernel
theorem dX7_init_30 : decode cX7_init 30 = .ok (.bipush 59, 2) := by decide +kernel
theorem dX7_init_32 : decode cX7_init 32 = .ok (.newarray .int, 2) := by decide +kernel
theorem dX7_init_34 : decode cX7_init 34 = .ok (.putfield 19, 3) := by decide +kernel
theorem dX7_init_37 : decode cX7_init 37 = .ok (.aload_n 0, 1) := by decide +kernel
theorem dX7_init_38 : decode cX7_init 38 = .ok (.bipush 60, 2) := by decide +kernel
theorem dX7_init_40 : decode cX7_init 40 = .ok (.newarray .int, 2) := by decide +kernel
theorem dX7_init_42 : decode cX7_init 42 = .ok (.putfield 22, 3) := by decide +kernel
theorem dX7_init_45 : decode cX7_init 45 = .ok (.aload_n 0, 1) := by decide +kernel
theorem dX7_init_46 : decode cX7_init 46 = .ok (.bipush 8, 2) := by decide +kernel
theorem dX7_init_48 : decode cX7_init 48 = .ok (.newarray .int, 2) := by decide +kernel
theorem dX7_init_50 : decode cX7_init 50 = .ok (.putfield 25, 3) := by decide +kernel
theorem dX7_init_53 : decode cX7_init 53 = .ok (.aload_n 0, 1) := by decide +kernel
theorem dX7_init_54 : decode cX7_init 54 = .ok (.bipush 8, 2) := by decide +kernel
theorem dX7_init_56 : decode cX7_init 56 = .ok (.newarray .int, 2) := by decide +kernel
theorem dX7_init_58 : decode cX7_init 58 = .ok (.putfield 28, 3) := by decide +kernel
theorem dX7_init_61 : decode cX7_init 61 = .ok (.aload_n 0, 1) := by decide +kernel
theorem dX7_init_62 : decode cX7_init 62 = .ok (.iconst 3, 1) := by decide +kernel
theorem dX7_init_63 : decode cX7_init 63 = .ok (.newarray .int, 2) := by decide +kernel
theorem dX7_init_65 : decode cX7_init 65 = .ok (.putfield 31, 3) := by decide +kernel
theorem dX7_init_68 : decode cX7_init 68 = .ok (.aload_n 0, 1) := by decide +kernel
theorem dX7_init_69 : decode cX7_init 69 = .ok (.getfield 7, 3) := by decide +kernel
theorem dX7_init_72 : decode cX7_init 72 = .ok (.iconst 2, 1) := by decide +kernel
theorem dX7_init_73 : decode cX7_init 73 = .ok (.bipush 20, 2) := by decide +kernel
theorem dX7_init_75 : decode cX7_init 75 = .ok (.iastore, 1) := by decide +kernel
theorem dX7_init_76 : decode cX7_init 76 = .ok (.return_, 1) := by decide +kernel
theorem dX7_in_0 : decode cX7_in 0 = .ok (.iload_n 0, 1) := by decide +kernel
theorem dX7_in_1 : decode cX7_in 1 = .ok (.iload_n 1, 1) := by decide +kernel
theorem dX7_in_2 : decode cX7_in 2 = .ok (.if_icmp .lt 12, 3) := by decide +kernel
theorem dX7_in_5 : decode cX7_in 5 = .ok (.iload_n 0, 1) := by decide +kernel
theorem dX7_in_6 : decode cX7_in 6 = .ok (.iload_n 2, 1) := by decide +kernel
theorem dX7_in_7 : decode cX7_in 7 = .ok (.if_icmp .gt 7, 3) := by decide +kernel
theorem dX7_in_10 : decode cX7_in 10 = .ok (.iconst 1, 1) := by decide +kernel
theorem dX7_in_11 : decode cX7_in 11 = .ok (.goto 4, 3) := by decide +kernel
theorem dX7_in_14 : decode cX7_in 14 = .ok (.iconst 0, 1) := by decide +kernel
theorem dX7_in_15 : decode cX7_in 15 = .ok (.ireturn, 1) := by decide +kernel
theorem dX7_floor_0 : decode cX7_floor 0 = .ok (.iload_n 0, 1) := by decide +kernel
theorem dX7_floor_1 : decode cX7_floor 1 = .ok (.ifCond .lt 9, 3) := by decide +kernel
theorem dX7_floor_4 : decode cX7_floor 4 = .ok (.iload_n 0, 1) := by decide +kernel
theorem dX7_floor_5 : decode cX7_floor 5 = .ok (.iload_n 1, 1) := by decide +kernel
theorem dX7_floor_6 : decode cX7_floor 6 = .ok (.idiv, 1) := by decide +kernel
theorem dX7_floor_7 : decode cX7_floor 7 = .ok (.goto 11, 3) := by decide +kernel
theorem dX7_floor_10 : decode cX7_floor 10 = .ok (.iload_n 1, 1) := by decide +kernel
theorem dX7_floor_11 : decode cX7_floor 11 = .ok (.iconst 1, 1) := by decide +kernel
theorem dX7_floor_12 : decode cX7_floor 12 = .ok (.isub, 1) := by decide +kernel
theorem dX7_floor_13 : decode cX7_floor 13 = .ok (.iload_n 0, 1) := by decide +kernel
theorem dX7_floor_14 : decode cX7_floor 14 = .ok (.isub, 1) := by decide +kernel
theorem dX7_floor_15 : decode cX7_floor 15 = .ok (.iload_n 1, 1) := by decide +kernel
theorem dX7_floor_16 : decode cX7_floor 16 = .ok (.idiv, 1) := by decide +kernel
theorem dX7_floor_17 : decode cX7_floor 17 = .ok (.ineg, 1) := by decide +kernel
theorem dX7_floor_18 : decode cX7_floor 18 = .ok (.ireturn, 1) := by decide +kernel
theorem dX7_copies_0 : decode cX7_copies 0 = .ok (.iconst 0, 1) := by decide +kernel
theorem dX7_copies_1 : decode cX7_copies 1 = .ok (.istore_n 2, 1) := by decide +kernel
theorem dX7_copies_2 : decode cX7_copies 2 = .ok (.iload_n 2, 1) := by decide +kernel
theorem dX7_copies_3 : decode cX7_copies 3 = .ok (.bipush 59, 2) := by decide +kernel
theorem dX7_copies_5 : decode cX7_copies 5 = .ok (.if_icmp .ge 15, 3) := by decide +kernel
theorem dX7_copies_8 : decode cX7_copies 8 = .ok (.aload_n 1, 1) := by decide +kernel
theorem dX7_copies_9 : decode cX7_copies 9 = .ok (.iload_n 2, 1) := by decide +kernel
theorem dX7_copies_10 : decode cX7_copies 10 = .ok (.aload_n 0, 1) := by decide +kernel
theorem dX7_copies_11 : decode cX7_copies 11 = .ok (.iload_n 2, 1) := by decide +kernel
theorem dX7_copies_12 : decode cX7_copies 12 = .ok (.iaload, 1) := by decide +kernel
theorem dX7_copies_13 : decode cX7_copies 13 = .ok (.iastore, 1) := by decide +kernel
theorem dX7_copies_14 : decode cX7_copies 14 = .ok (.iinc 2 1, 3) := by decide +kernel
theorem dX7_copies_17 : decode cX7_copies 17 = .ok (.goto (-15), 3) := by decide +kernel
theorem dX7_copies_20 : decode cX7_copies 20 = .ok (.return_, 1) := by decide +kernel
theorem dX7_changes_0 : decode cX7_changes 0 = .ok (.aload_n 0, 1) := by decide +kernel
theorem dX7_changes_1 : decode cX7_changes 1 = .ok (.getfield 34, 3) := by decide +kernel
theorem dX7_changes_4 : decode cX7_changes 4 = .ok (.ifCond .eq 4, 3) := by decide +kernel
theorem dX7_changes_7 : decode cX7_changes 7 = .ok (.return_, 1) := by decide +kernel
theorem dX7_changes_8 : decode cX7_changes 8 = .ok (.aload_n 0, 1) := by decide +kernel
theorem dX7_changes_9 : decode cX7_changes 9 = .ok (.getfield 38, 3) := by decide +kernel
theorem dX7_changes_12 : decode cX7_changes 12 = .ok (.iconst 4, 1) := by decide +kernel
theorem dX7_changes_13 : decode cX7_changes 13 = .ok (.if_icmp .ne 43, 3) := by decide +kernel
theorem dX7_changes_16 : decode cX7_changes 16 = .ok (.iconst 0, 1) := by decide +kernel
theorem dX7_changes_17 : decode cX7_changes 17 = .ok (.istore_n 1, 1) := by decide +kernel
theorem dX7_changes_18 : decode cX7_changes 18 = .ok (.iload_n 1, 1) := by decide +kernel
theorem dX7_changes_19 : decode cX7_changes 19 = .ok (.sipush 177, 3) := by decide +kernel
theorem dX7_changes_22 : decode cX7_changes 22 = .ok (.if_icmp .ge 24, 3) := by decide +kernel
theorem dX7_changes_25 : decode cX7_changes 25 = .ok (.aload_n 0, 1) := by decide +kernel
theorem dX7_changes_26 : decode cX7_changes 26 = .ok (.getfield 13, 3) := by decide +kernel
theorem dX7_changes_29 : decode cX7_changes 29 = .ok (.iload_n 1, 1) := by decide +kernel
theorem dX7_changes_30 : decode cX7_changes 30 = .ok (.aload_n 0, 1) := by decide +kernel
theorem dX7_changes_31 : decode cX7_changes 31 = .ok (.getfield 13, 3) := by decide +kernel
theorem dX7_changes_34 : decode cX7_changes 34 = .ok (.iload_n 1, 1) := by decide +kernel
theorem dX7_changes_35 : decode cX7_changes 35 = .ok (.bipush 59, 2) := by decide +kernel
theorem dX7_changes_37 : decode cX7_changes 37 = .ok (.iadd, 1) := by decide +kernel
theorem dX7_changes_38 : decode cX7_changes 38 = .ok (.iaload, 1) := by decide +kernel
theorem dX7_changes_39 : decode cX7_changes 39 = .ok (.iastore, 1) := by decide +kernel
theorem dX7_changes_40 : decode cX7_changes 40 = .ok (.iinc 1 1, 3) := by decide +kernel
theorem dX7_changes_43 : decode cX7_changes 43 = .ok (.goto (-25), 3) := by decide +kernel
theorem dX7_changes_46 : decode cX7_changes 46 = .ok (.aload_n 0, 1) := by decide +kernel
theorem dX7_changes_47 : decode cX7_changes 47 = .ok (.dup, 1) := by decide +kernel
theorem dX7_changes_48 : decode cX7_changes 48 = .ok (.getfield 38, 3) := by decide +kernel
theorem dX7_changes_51 : decode cX7_changes 51 = .ok (.iconst 1, 1) := by decide +kernel
theorem dX7_changes_52 : decode cX7_changes 52 = .ok (.isub, 1) := by decide +kernel
theorem dX7_changes_53 : decode cX7_changes 53 = .ok (.putfield 38, 3) := by decide +kernel
theorem dX7_changes_56 : decode cX7_changes 56 = .ok (.iconst 0, 1) := by decide +kernel
theorem dX7_changes_57 : decode cX7_changes 57 = .ok (.istore_n 1, 1) := by decide +kernel
theorem dX7_changes_58 : decode cX7_changes 58 = .ok (.iload_n 1, 1) := by decide +kernel
theorem dX7_changes_59 : decode cX7_changes 59 = .ok (.bipush 59, 2) := by decide +kernel
theorem dX7_changes_61 : decode cX7_changes 61 = .ok (.if_icmp .ge 29, 3) := by decide +kernel
theorem dX7_changes_64 : decode cX7_changes 64 = .ok (.aload_n 0, 1) := by decide +kernel
theorem dX7_changes_65 : decode cX7_changes 65 = .ok (.getfield 13, 3) := by decide +kernel
theorem dX7_changes_68 : decode cX7_changes 68 = .ok (.bipush 59, 2) := by decide +kernel
theorem dX7_changes_70 : decode cX7_changes 70 = .ok (.aload_n 0, 1) := by decide +kernel
theorem dX7_changes_71 : decode cX7_changes 71 = .ok (.getfield 38, 3) := by decide +kernel
theorem dX7_changes_74 : decode cX7_changes 74 = .ok (.imul, 1) := by decide +kernel
theorem dX7_changes_75 : decode cX7_changes 75 = .ok (.iload_n 1, 1) := by decide +kernel
theorem dX7_changes_76 : decode cX7_changes 76 = .ok (.iadd, 1) := by decide +kernel
theorem dX7_changes_77 : decode cX7_changes 77 = .ok (.aload_n 0, 1) := by decide +kernel
theorem dX7_changes_78 : decode cX7_changes 78 = .ok (.getfield 7, 3) := by decide +kernel
theorem dX7_changes_81 : decode cX7_changes 81 = .ok (.iload_n 1, 1) := by decide +kernel
theorem dX7_changes_82 : decode cX7_changes 82 = .ok (.iaload, 1) := by decide +kernel
theorem dX7_changes_83 : decode cX7_changes 83 = .ok (.iastore, 1) := by decide +kernel
theorem dX7_changes_84 : decode cX7_changes 84 = .ok (.iinc 1 1, 3) := by decide +kernel
theorem dX7_changes_87 : decode cX7_changes 87 = .ok (.goto (-29), 3) := by decide +kernel
theorem dX7_changes_90 : decode cX7_changes 90 = .ok (.aload_n 0, 1) := by decide +kernel
theorem dX7_changes_91 : decode cX7_changes 91 = .ok (.dup, 1) := by decide +kernel
theorem dX7_changes_92 : decode cX7_changes 92 = .ok (.getfield 38, 3) := by decide +kernel
theorem dX7_changes_95 : decode cX7_changes 95 = .ok (.iconst 1, 1) := by decide +kernel
theorem dX7_changes_96 : decode cX7_changes 96 = .ok (.iadd, 1) := by decide +kernel
theorem dX7_changes_97 : decode cX7_changes 97 = .ok (.putfield 38, 3) := by decide +kernel
theorem dX7_changes_100 : decode cX7_changes 100 = .ok (.return_, 1) := by decide +kernel
theorem dX7_ones_0 : decode cX7_ones 0 = .ok (.iconst 0, 1) := by decide +kernel
theorem dX7_ones_1 : decode cX7_ones 1 = .ok (.istore_n 1, 1) := by decide +kernel
theorem dX7_ones_2 : decode cX7_ones 2 = .ok (.iload_n 0, 1) := by decide +kernel
theorem dX7_ones_3 : decode cX7_ones 3 = .ok (.istore_n 2, 1) := by decide +kernel
theorem dX7_ones_4 : decode cX7_ones 4 = .ok (.iload_n 2, 1) := by decide +kernel
theorem dX7_ones_5 : decode cX7_ones 5 = .ok (.ifCond .eq 15, 3) := by decide +kernel
theorem dX7_ones_8 : decode cX7_ones 8 = .ok (.iinc 1 1, 3) := by decide +kernel
theorem dX7_ones_11 : decode cX7_ones 11 = .ok (.iload_n 2, 1) := by decide +kernel
theorem dX7_ones_12 : decode cX7_ones 12 = .ok (.iload_n 2, 1) := by decide +kernel
theorem dX7_ones_13 : decode cX7_ones 13 = .ok (.iconst 1, 1) := by decide +kernel
theorem dX7_ones_14 : decode cX7_ones 14 = .ok (.isub, 1) := by decide +kernel
theorem dX7_ones_15 : decode cX7_ones 15 = .ok (.iand, 1) := by decide +kernel
theorem dX7_ones_16 : decode cX7_ones 16 = .ok (.istore_n 2, 1) := by decide +kernel
theorem dX7_ones_17 : decode cX7_ones 17 = .ok (.goto (-13), 3) := by decide +kernel
theorem dX7_ones_20 : decode cX7_ones 20 = .ok (.iload_n 1, 1) := by decide +kernel
theorem dX7_ones_21 : decode cX7_ones 21 = .ok (.ireturn, 1) := by decide +kernel
theorem dX7_isLine_0 : decode cX7_isLine 0 = .ok (.iload_n 1, 1) := by decide +kernel
theorem dX7_isLine_1 : decode cX7_isLine 1 = .ok (.ifCond .lt 17, 3) := by decide +kernel
theorem dX7_isLine_4 : decode cX7_isLine 4 = .ok (.iload_n 1, 1) := by decide +kernel
theorem dX7_isLine_5 : decode cX7_isLine 5 = .ok (.aload_n 0, 1) := by decide +kernel
theorem dX7_isLine_6 : decode cX7_isLine 6 = .ok (.getfield 7, 3) := by decide +kernel
theorem dX7_isLine_9 : decode cX7_isLine 9 = .ok (.iconst 0, 1) := by decide +kernel
theorem dX7_isLine_10 : decode cX7_isLine 10 = .ok (.iaload, 1) := by decide +kernel
theorem dX7_isLine_11 : decode cX7_isLine 11 = .ok (.if_icmp .ge 7, 3) := by decide +kernel
theorem dX7_isLine_14 : decode cX7_isLine 14 = .ok (.iconst 1, 1) := by decide +kernel
theorem dX7_isLine_15 : decode cX7_isLine 15 = .ok (.goto 4, 3) := by decide +kernel
theorem dX7_isLine_18 : decode cX7_isLine 18 = .ok (.iconst 0, 1) := by decide +kernel
theorem dX7_isLine_19 : decode cX7_isLine 19 = .ok (.ireturn, 1) := by decide +kernel
theorem dX7_colour_0 : decode cX7_colour 0 = .ok (.aload_n 0, 1) := by decide +kernel
theorem dX7_colour_1 : decode cX7_colour 1 = .ok (.getfield 7, 3) := by decide +kernel
theorem dX7_colour_4 : decode cX7_colour 4 = .ok (.iconst 3, 1) := by decide +kernel
theorem dX7_colour_5 : decode cX7_colour 5 = .ok (.iconst 2, 1) := by decide +kernel
theorem dX7_colour_6 : decode cX7_colour 6 = .ok (.iload_n 1, 1) := by decide +kernel
theorem dX7_colour_7 : decode cX7_colour 7 = .ok (.imul, 1) := by decide +kernel
theorem dX7_colour_8 : decode cX7_colour 8 = .ok (.iadd, 1) := by decide +kernel
theorem dX7_colour_9 : decode cX7_colour 9 = .ok (.iaload, 1) := by decide +kernel
theorem dX7_colour_10 : decode cX7_colour 10 = .ok (.ireturn, 1) := by decide +kernel
theorem dX7_lightOf_0 : decode cX7_lightOf 0 = .ok (.aload_n 0, 1) := by decide +kernel
theorem dX7_lightOf_1 : decode cX7_lightOf 1 = .ok (.getfield 7, 3) := by decide +kernel
theorem dX7_lightOf_4 : decode cX7_lightOf 4 = .ok (.iconst 3, 1) := by decide +kernel
theorem dX7_lightOf_5 : decode cX7_lightOf 5 = .ok (.iconst 2, 1) := by decide +kernel
theorem dX7_lightOf_6 : decode cX7_lightOf 6 = .ok (.iload_n 1, 1) := by decide +kernel
theorem dX7_lightOf_7 : decode cX7_lightOf 7 = .ok (.imul, 1) := by decide +kernel
theorem dX7_lightOf_8 : decode cX7_lightOf 8 = .ok (.iadd, 1) := by decide +kernel
theorem dX7_lightOf_9 : decode cX7_lightOf 9 = .ok (.iconst 1, 1) := by decide +kernel
theorem dX7_lightOf_10 : decode cX7_lightOf 10 = .ok (.iadd, 1) := by decide +kernel
theorem dX7_lightOf_11 : decode cX7_lightOf 11 = .ok (.iaload, 1) := by decide +kernel
theorem dX7_lightOf_12 : decode cX7_lightOf 12 = .ok (.ireturn, 1) := by decide +kernel
theorem dX7_of_0 : decode cX7_of 0 = .ok (.aload_n 0, 1) := by decide +kernel
theorem dX7_of_1 : decode cX7_of 1 = .ok (.getfield 7, 3) := by decide +kernel
theorem dX7_of_4 : decode cX7_of 4 = .ok (.bipush 19, 2) := by decide +kernel
theorem dX7_of_6 : decode cX7_of 6 = .ok (.iconst 5, 1) := by decide +kernel
theorem dX7_of_7 : decode cX7_of 7 = .ok (.iload_n 1, 1) := by decide +kernel
theorem dX7_of_8 : decode cX7_of 8 = .ok (.imul, 1) := by decide +kernel
theorem dX7_of_9 : decode cX7_of 9 = .ok (.iadd, 1) := by decide +kernel
theorem dX7_of_10 : decode cX7_of 10 = .ok (.iload_n 2, 1) := by decide +kernel
theorem dX7_of_11 : decode cX7_of 11 = .ok (.iadd, 1) := by decide +kernel
theorem dX7_of_12 : decode cX7_of 12 = .ok (.iaload, 1) := by decide +kernel
theorem dX7_of_13 : decode cX7_of 13 = .ok (.ireturn, 1) := by decide +kernel
set_option maxRecDepth 20000 in
theorem ggX7_at_X7_of : GoodIn wsX7_at wsX7_of := goodIn_r _ [7, 1, 8, 9, 10, 11, 12, 13, 14, 15, 16, 17, 18, 19, 20, 21, 22, 23, 24, 25, 26, 27, 28] (by decide +kernel) (by decide +kernel)
set_option maxRecDepth 20000 in
theorem gX7_at_X7_of : GoodIn wsX7_at (wsV RX7 42 RX7 yX7_of wsX7_of) := goodIn_app (goodIn_of _ (by decide +kernel)) ggX7_at_X7_of
theorem dX7_at_0 : decode cX7_at 0 = .ok (.iconst 0, 1) := by decide +kernel
theorem dX7_at_1 : decode cX7_at 1 = .ok (.istore_n 2, 1) := by decide +kernel
theorem dX7_at_2 : decode cX7_at 2 = .ok (.iload_n 2, 1) := by decide +kernel
theorem dX7_at_3 : decode cX7_at 3 = .ok (.aload_n 0, 1) := by decide +kernel
theorem dX7_at_4 : decode cX7_at 4 = .ok (.getfield 7, 3) := by decide +kernel
theorem dX7_at_7 : decode cX7_at 7 = .ok (.iconst 1, 1) := by decide +kernel
theorem dX7_at_8 : decode cX7_at 8 = .ok (.iaload, 1) := by decide +kernel
theorem dX7_at_9 : decode cX7_at 9 = .ok (.if_icmp .ge 21, 3) := by decide +kernel
theorem dX7_at_12 : decode cX7_at 12 = .ok (.aload_n 0, 1) := by decide +kernel
theorem dX7_at_13 : decode cX7_at 13 = .ok (.iload_n 2, 1) := by decide +kernel
theorem dX7_at_14 : decode cX7_at 14 = .ok (.iconst 0, 1) := by decide +kernel
theorem dX7_at_15 : decode cX7_at 15 = .ok (.invokevirtual 42, 3) := by decide +kernel
theorem dX7_at_18 : decode cX7_at 18 = .ok (.iload_n 1, 1) := by decide +kernel
theorem dX7_at_19 : decode cX7_at 19 = .ok (.if_icmp .ne 5, 3) := by decide +kernel
theorem dX7_at_22 : decode cX7_at 22 = .ok (.iload_n 2, 1) := by decide +kernel
theorem dX7_at_23 : decode cX7_at 23 = .ok (.ireturn, 1) := by decide +kernel
theorem dX7_at_24 : decode cX7_at 24 = .ok (.iinc 2 1, 3) := by decide +kernel
theorem dX7_at_27 : decode cX7_at 27 = .ok (.goto (-25), 3) := by decide +kernel
theorem dX7_at_30 : decode cX7_at 30 = .ok (.ldc 46, 2) := by decide +kernel
theorem dX7_at_32 : decode cX7_at 32 = .ok (.ireturn, 1) := by decide +kernel
set_option maxRecDepth 20000 in
theorem ggX7_line_X7_in : GoodIn wsX7_line wsX7_in := goodIn_r _ [7] (by decide +kernel) (by decide +kernel)
set_option maxRecDepth 20000 in
theorem gX7_line_X7_in : GoodIn wsX7_line (va_wsS RX7 47 yX7_in wsX7_in) := goodIn_app (goodIn_of _ (by decide +kernel)) ggX7_line_X7_in
set_option maxRecDepth 20000 in
theorem ggX7_line_X7_changes : GoodIn wsX7_line wsX7_changes := goodIn_r _ [11, 12, 13, 14, 2, 15, 16, 17, 18, 19, 20, 21, 22, 23, 24, 25, 26, 27, 28, 29, 30, 31, 32, 33, 34, 35] (by decide +kernel) (by decide +kernel)
set_option maxRecDepth 20000 in
theorem gX7_line_X7_changes : GoodIn wsX7_line (wsV RX7 53 RX7 yX7_changes wsX7_changes) := goodIn_app (goodIn_of _ (by decide +kernel)) ggX7_line_X7_changes
theorem dX7_line_0 : decode cX7_line 0 = .ok (.iload_n 1, 1) := by decide +kernel
theorem dX7_line_1 : decode cX7_line 1 = .ok (.sipush 380, 3) := by decide +kernel
theorem dX7_line_4 : decode cX7_line 4 = .ok (.sipush 780, 3) := by decide +kernel
theorem dX7_line_7 : decode cX7_line 7 = .ok (.invokestatic 47, 3) := by decide +kernel
theorem dX7_line_10 : decode cX7_line 10 = .ok (.ifCond .eq 14, 3) := by decide +kernel
theorem dX7_line_13 : decode cX7_line 13 = .ok (.iload_n 2, 1) := by decide +kernel
theorem dX7_line_14 : decode cX7_line 14 = .ok (.iconst 1, 1) := by decide +kernel
theorem dX7_line_15 : decode cX7_line 15 = .ok (.sipush 999, 3) := by decide +kernel
theorem dX7_line_18 : decode cX7_line 18 = .ok (.invokestatic 47, 3) := by decide +kernel
theorem dX7_line_21 : decode cX7_line 21 = .ok (.ifCond .ne 6, 3) := by decide +kernel
theorem dX7_line_24 : decode cX7_line 24 = .ok (.ldc 51, 2) := by decide +kernel
theorem dX7_line_26 : decode cX7_line 26 = .ok (.ireturn, 1) := by decide +kernel
theorem dX7_line_27 : decode cX7_line 27 = .ok (.aload_n 0, 1) := by decide +kernel
theorem dX7_line_28 : decode cX7_line 28 = .ok (.getfield 7, 3) := by decide +kernel
theorem dX7_line_31 : decode cX7_line 31 = .ok (.iconst 0, 1) := by decide +kernel
theorem dX7_line_32 : decode cX7_line 32 = .ok (.iaload, 1) := by decide +kernel
theorem dX7_line_33 : decode cX7_line 33 = .ok (.istore_n 3, 1) := by decide +kernel
theorem dX7_line_34 : decode cX7_line 34 = .ok (.iload_n 3, 1) := by decide +kernel
theorem dX7_line_35 : decode cX7_line 35 = .ok (.bipush 8, 2) := by decide +kernel
theorem dX7_line_37 : decode cX7_line 37 = .ok (.if_icmp .ne 6, 3) := by decide +kernel
theorem dX7_line_40 : decode cX7_line 40 = .ok (.ldc 52, 2) := by decide +kernel
theorem dX7_line_42 : decode cX7_line 42 = .ok (.ireturn, 1) := by decide +kernel
theorem dX7_line_43 : decode cX7_line 43 = .ok (.aload_n 0, 1) := by decide +kernel
theorem dX7_line_44 : decode cX7_line 44 = .ok (.invokevirtual 53, 3) := by decide +kernel
theorem dX7_line_47 : decode cX7_line 47 = .ok (.aload_n 0, 1) := by decide +kernel
theorem dX7_line_48 : decode cX7_line 48 = .ok (.getfield 7, 3) := by decide +kernel
theorem dX7_line_51 : decode cX7_line 51 = .ok (.iconst 3, 1) := by decide +kernel
theorem dX7_line_52 : decode cX7_line 52 = .ok (.iconst 2, 1) := by decide +kernel
theorem dX7_line_53 : decode cX7_line 53 = .ok (.iload_n 3, 1) := by decide +kernel
theorem dX7_line_54 : decode cX7_line 54 = .ok (.imul, 1) := by decide +kernel
theorem dX7_line_55 : decode cX7_line 55 = .ok (.iadd, 1) := by decide +kernel
theorem dX7_line_56 : decode cX7_line 56 = .ok (.iload_n 1, 1) := by decide +kernel
theorem dX7_line_57 : decode cX7_line 57 = .ok (.iastore, 1) := by decide +kernel
theorem dX7_line_58 : decode cX7_line 58 = .ok (.aload_n 0, 1) := by decide +kernel
theorem dX7_line_59 : decode cX7_line 59 = .ok (.getfield 7, 3) := by decide +kernel
theorem dX7_line_62 : decode cX7_line 62 = .ok (.iconst 3, 1) := by decide +kernel
theorem dX7_line_63 : decode cX7_line 63 = .ok (.iconst 2, 1) := by decide +kernel
theorem dX7_line_64 : decode cX7_line 64 = .ok (.iload_n 3, 1) := by decide +kernel
theorem dX7_line_65 : decode cX7_line 65 = .ok (.imul, 1) := by decide +kernel
theorem dX7_line_66 : decode cX7_line 66 = .ok (.iadd, 1) := by decide +kernel
theorem dX7_line_67 : decode cX7_line 67 = .ok (.iconst 1, 1) := by decide +kernel
theorem dX7_line_68 : decode cX7_line 68 = .ok (.iadd, 1) := by decide +kernel
theorem dX7_line_69 : decode cX7_line 69 = .ok (.iload_n 2, 1) := by decide +kernel
theorem dX7_line_70 : decode cX7_line 70 = .ok (.iastore, 1) := by decide +kernel
theorem dX7_line_71 : decode cX7_line 71 = .ok (.aload_n 0, 1) := by decide +kernel
theorem dX7_line_72 : decode cX7_line 72 = .ok (.getfield 7, 3) := by decide +kernel
theorem dX7_line_75 : decode cX7_line 75 = .ok (.iconst 0, 1) := by decide +kernel
theorem dX7_line_76 : decode cX7_line 76 = .ok (.dup2, 1) := by decide +kernel
theorem dX7_line_77 : decode cX7_line 77 = .ok (.iaload, 1) := by decide +kernel
theorem dX7_line_78 : decode cX7_line 78 = .ok (.iconst 1, 1) := by decide +kernel
theorem dX7_line_79 : decode cX7_line 79 = .ok (.iadd, 1) := by decide +kernel
theorem dX7_line_80 : decode cX7_line 80 = .ok (.iastore, 1) := by decide +kernel
theorem dX7_line_81 : decode cX7_line 81 = .ok (.iload_n 3, 1) := by decide +kernel
theorem dX7_line_82 : decode cX7_line 82 = .ok (.ireturn, 1) := by decide +kernel
set_option maxRecDepth 20000 in
theorem ggX7_dim_X7_isLine : GoodIn wsX7_dim wsX7_isLine := goodIn_r _ [7, 2, 22, 23, 24, 25, 26, 27, 28, 29, 30, 31, 32, 33, 34, 35, 36, 37, 38, 39, 40, 41, 42] (by decide +kernel) (by decide +kernel)
set_option maxRecDepth 20000 in
theorem gX7_dim_X7_isLine : GoodIn wsX7_dim (wsV RX7 56 RX7 yX7_isLine wsX7_isLine) := goodIn_app (goodIn_of _ (by decide +kernel)) ggX7_dim_X7_isLine
set_option maxRecDepth 20000 in
theorem ggX7_dim_X7_in : GoodIn wsX7_dim wsX7_in := goodIn_r _ [10] (by decide +kernel) (by decide +kernel)
set_option maxRecDepth 20000 in
theorem gX7_dim_X7_in : GoodIn wsX7_dim (va_wsS RX7 47 yX7_in wsX7_in) := goodIn_app (goodIn_of _ (by decide +kernel)) ggX7_dim_X7_in
set_option maxRecDepth 20000 in
theorem ggX7_dim_X7_changes : GoodIn wsX7_dim wsX7_changes := goodIn_r _ [14, 15, 16, 17, 2, 22, 23, 24, 25, 26, 27, 28, 29, 30, 31, 32, 33, 34, 35, 36, 37, 38, 39, 40, 41, 42] (by decide +kernel) (by decide +kernel)
set_option maxRecDepth 20000 in
theorem gX7_dim_X7_changes : GoodIn wsX7_dim (wsV RX7 53 RX7 yX7_changes wsX7_changes) := goodIn_app (goodIn_of _ (by decide +kernel)) ggX7_dim_X7_changes
set_option maxRecDepth 20000 in
theorem ggX7_dim_X7_lightOf : GoodIn wsX7_dim wsX7_lightOf := goodIn_r _ [21, 2, 22, 23, 24, 25, 26, 27, 28, 29, 30, 31, 32, 33, 34, 35, 36, 37, 38, 39, 40, 41, 42] (by decide +kernel) (by decide +kernel)
set_option maxRecDepth 20000 in
theorem gX7_dim_X7_lightOf : GoodIn wsX7_dim (wsV RX7 60 RX7 yX7_lightOf wsX7_lightOf) := goodIn_app (goodIn_of _ (by decide +kernel)) ggX7_dim_X7_lightOf
theorem dX7_dim_0 : decode cX7_dim 0 = .ok (.aload_n 0, 1) := by decide +kernel
theorem dX7_dim_1 : decode cX7_dim 1 = .ok (.iload_n 1, 1) := by decide +kernel
theorem dX7_dim_2 : decode cX7_dim 2 = .ok (.invokevirtual 56, 3) := by decide +kernel
theorem dX7_dim_5 : decode cX7_dim 5 = .ok (.ifCond .eq 14, 3) := by decide +kernel
theorem dX7_dim_8 : decode cX7_dim 8 = .ok (.iload_n 2, 1) := by decide +kernel
theorem dX7_dim_9 : decode cX7_dim 9 = .ok (.iconst 1, 1) := by decide +kernel
theorem dX7_dim_10 : decode cX7_dim 10 = .ok (.sipush 999, 3) := by decide +kernel
theorem dX7_dim_13 : decode cX7_dim 13 = .ok (.invokestatic 47, 3) := by decide +kernel
theorem dX7_dim_16 : decode cX7_dim 16 = .ok (.ifCond .ne 6, 3) := by decide +kernel
theorem dX7_dim_19 : decode cX7_dim 19 = .ok (.ldc 51, 2) := by decide +kernel
theorem dX7_dim_21 : decode cX7_dim 21 = .ok (.ireturn, 1) := by decide +kernel
theorem dX7_dim_22 : decode cX7_dim 22 = .ok (.aload_n 0, 1) := by decide +kernel
theorem dX7_dim_23 : decode cX7_dim 23 = .ok (.invokevirtual 53, 3) := by decide +kernel
theorem dX7_dim_26 : decode cX7_dim 26 = .ok (.aload_n 0, 1) := by decide +kernel
theorem dX7_dim_27 : decode cX7_dim 27 = .ok (.iload_n 1, 1) := by decide +kernel
theorem dX7_dim_28 : decode cX7_dim 28 = .ok (.invokevirtual 60, 3) := by decide +kernel
theorem dX7_dim_31 : decode cX7_dim 31 = .ok (.istore_n 3, 1) := by decide +kernel
theorem dX7_dim_32 : decode cX7_dim 32 = .ok (.aload_n 0, 1) := by decide +kernel
theorem dX7_dim_33 : decode cX7_dim 33 = .ok (.getfield 7, 3) := by decide +kernel
theorem dX7_dim_36 : decode cX7_dim 36 = .ok (.iconst 3, 1) := by decide +kernel
theorem dX7_dim_37 : decode cX7_dim 37 = .ok (.iconst 2, 1) := by decide +kernel
theorem dX7_dim_38 : decode cX7_dim 38 = .ok (.iload_n 1, 1) := by decide +kernel
theorem dX7_dim_39 : decode cX7_dim 39 = .ok (.imul, 1) := by decide +kernel
theorem dX7_dim_40 : decode cX7_dim 40 = .ok (.iadd, 1) := by decide +kernel
theorem dX7_dim_41 : decode cX7_dim 41 = .ok (.iconst 1, 1) := by decide +kernel
theorem dX7_dim_42 : decode cX7_dim 42 = .ok (.iadd, 1) := by decide +kernel
theorem dX7_dim_43 : decode cX7_dim 43 = .ok (.iload_n 2, 1) := by decide +kernel
theorem dX7_dim_44 : decode cX7_dim 44 = .ok (.iastore, 1) := by decide +kernel
theorem dX7_dim_45 : decode cX7_dim 45 = .ok (.iload_n 3, 1) := by decide +kernel
theorem dX7_dim_46 : decode cX7_dim 46 = .ok (.ireturn, 1) := by decide +kernel
set_option maxRecDepth 20000 in
theorem ggX7_opens_X7_of : GoodIn wsX7_opens wsX7_of := goodIn_r _ [6, 1, 7, 8, 9, 10, 11, 12, 13, 14, 15, 16, 17, 18, 19, 20, 21, 22, 23, 24, 25, 26, 27] (by decide +kernel) (by decide +kernel)
set_option maxRecDepth 20000 in
theorem gX7_opens_X7_of : GoodIn wsX7_opens (wsV RX7 42 RX7 yX7_of wsX7_of) := goodIn_app (goodIn_of _ (by decide +kernel)) ggX7_opens_X7_of
theorem dX7_opens_0 : decode cX7_opens 0 = .ok (.aload_n 0, 1) := by decide +kernel
theorem dX7_opens_1 : decode cX7_opens 1 = .ok (.getfield 7, 3) := by decide +kernel
theorem dX7_opens_4 : decode cX7_opens 4 = .ok (.iconst 1, 1) := by decide +kernel
theorem dX7_opens_5 : decode cX7_opens 5 = .ok (.iaload, 1) := by decide +kernel
theorem dX7_opens_6 : decode cX7_opens 6 = .ok (.istore_n 2, 1) := by decide +kernel
theorem dX7_opens_7 : decode cX7_opens 7 = .ok (.iload_n 2, 1) := by decide +kernel
theorem dX7_opens_8 : decode cX7_opens 8 = .ok (.ifCond .le 21, 3) := by decide +kernel
theorem dX7_opens_11 : decode cX7_opens 11 = .ok (.aload_n 0, 1) := by decide +kernel
theorem dX7_opens_12 : decode cX7_opens 12 = .ok (.iload_n 2, 1) := by decide +kernel
theorem dX7_opens_13 : decode cX7_opens 13 = .ok (.iconst 1, 1) := by decide +kernel
theorem dX7_opens_14 : decode cX7_opens 14 = .ok (.isub, 1) := by decide +kernel
theorem dX7_opens_15 : decode cX7_opens 15 = .ok (.iconst 0, 1) := by decide +kernel
theorem dX7_opens_16 : decode cX7_opens 16 = .ok (.invokevirtual 42, 3) := by decide +kernel
theorem dX7_opens_19 : decode cX7_opens 19 = .ok (.iload_n 1, 1) := by decide +kernel
theorem dX7_opens_20 : decode cX7_opens 20 = .ok (.if_icmp .le 9, 3) := by decide +kernel
theorem dX7_opens_23 : decode cX7_opens 23 = .ok (.iinc 2 (-1), 3) := by decide +kernel
theorem dX7_opens_26 : decode cX7_opens 26 = .ok (.goto (-19), 3) := by decide +kernel
theorem dX7_opens_29 : decode cX7_opens 29 = .ok (.bipush 19, 2) := by decide +kernel
theorem dX7_opens_31 : decode cX7_opens 31 = .ok (.iconst 5, 1) := by decide +kernel
theorem dX7_opens_32 : decode cX7_opens 32 = .ok (.aload_n 0, 1) := by decide +kernel
theorem dX7_opens_33 : decode cX7_opens 33 = .ok (.getfield 7, 3) := by decide +kernel
theorem dX7_opens_36 : decode cX7_opens 36 = .ok (.iconst 1, 1) := by decide +kernel
theorem dX7_opens_37 : decode cX7_opens 37 = .ok (.iaload, 1) := by decide +kernel
theorem dX7_opens_38 : decode cX7_opens 38 = .ok (.imul, 1) := by decide +kernel
theorem dX7_opens_39 : decode cX7_opens 39 = .ok (.iadd, 1) := by decide +kernel
theorem dX7_opens_40 : decode cX7_opens 40 = .ok (.iconst 1, 1) := by decide +kernel
theorem dX7_opens_41 : decode cX7_opens 41 = .ok (.isub, 1) := by decide +kernel
theorem dX7_opens_42 : decode cX7_opens 42 = .ok (.istore_n 3, 1) := by decide +kernel
theorem dX7_opens_43 : decode cX7_opens 43 = .ok (.iload_n 3, 1) := by decide +kernel
theorem dX7_opens_44 : decode cX7_opens 44 = .ok (.bipush 19, 2) := by decide +kernel
theorem dX7_opens_46 : decode cX7_opens 46 = .ok (.iconst 5, 1) := by decide +kernel
theorem dX7_opens_47 : decode cX7_opens 47 = .ok (.iload_n 2, 1) := by decide +kernel
theorem dX7_opens_48 : decode cX7_opens 48 = .ok (.imul, 1) := by decide +kernel
theorem dX7_opens_49 : decode cX7_opens 49 = .ok (.iadd, 1) := by decide +kernel
theorem dX7_opens_50 : decode cX7_opens 50 = .ok (.if_icmp .lt 23, 3) := by decide +kernel
theorem dX7_opens_53 : decode cX7_opens 53 = .ok (.aload_n 0, 1) := by decide +kernel
theorem dX7_opens_54 : decode cX7_opens 54 = .ok (.getfield 7, 3) := by decide +kernel
theorem dX7_opens_57 : decode cX7_opens 57 = .ok (.iload_n 3, 1) := by decide +kernel
theorem dX7_opens_58 : decode cX7_opens 58 = .ok (.iconst 5, 1) := by decide +kernel
theorem dX7_opens_59 : decode cX7_opens 59 = .ok (.iadd, 1) := by decide +kernel
theorem dX7_opens_60 : decode cX7_opens 60 = .ok (.aload_n 0, 1) := by decide +kernel
theorem dX7_opens_61 : decode cX7_opens 61 = .ok (.getfield 7, 3) := by decide +kernel
theorem dX7_opens_64 : decode cX7_opens 64 = .ok (.iload_n 3, 1) := by decide +kernel
theorem dX7_opens_65 : decode cX7_opens 65 = .ok (.iaload, 1) := by decide +kernel
theorem dX7_opens_66 : decode cX7_opens 66 = .ok (.iastore, 1) := by decide +kernel
theorem dX7_opens_67 : decode cX7_opens 67 = .ok (.iinc 3 (-1), 3) := by decide +kernel
theorem dX7_opens_70 : decode cX7_opens 70 = .ok (.goto (-27), 3) := by decide +kernel
theorem dX7_opens_73 : decode cX7_opens 73 = .ok (.aload_n 0, 1) := by decide +kernel
theorem dX7_opens_74 : decode cX7_opens 74 = .ok (.getfield 7, 3) := by decide +kernel
theorem dX7_opens_77 : decode cX7_opens 77 = .ok (.iconst 1, 1) := by decide +kernel
theorem dX7_opens_78 : decode cX7_opens 78 = .ok (.dup2, 1) := by decide +kernel
theorem dX7_opens_79 : decode cX7_opens 79 = .ok (.iaload, 1) := by decide +kernel
theorem dX7_opens_80 : decode cX7_opens 80 = .ok (.iconst 1, 1) := by decide +kernel
theorem dX7_opens_81 : decode cX7_opens 81 = .ok (.iadd, 1) := by decide +kernel
theorem dX7_opens_82 : decode cX7_opens 82 = .ok (.iastore, 1) := by decide +kernel
theorem dX7_opens_83 : decode cX7_opens 83 = .ok (.iload_n 2, 1) := by decide +kernel
theorem dX7_opens_84 : decode cX7_opens 84 = .ok (.ireturn, 1) := by decide +kernel
theorem dX7_takesOut_0 : decode cX7_takesOut 0 = .ok (.aload_n 0, 1) := by decide +kernel
theorem dX7_takesOut_1 : decode cX7_takesOut 1 = .ok (.getfield 7, 3) := by decide +kernel
theorem dX7_takesOut_4 : decode cX7_takesOut 4 = .ok (.iconst 1, 1) := by decide +kernel
theorem dX7_takesOut_5 : decode cX7_takesOut 5 = .ok (.dup2, 1) := by decide +kernel
theorem dX7_takesOut_6 : decode cX7_takesOut 6 = .ok (.iaload, 1) := by decide +kernel
theorem dX7_takesOut_7 : decode cX7_takesOut 7 = .ok (.iconst 1, 1) := by decide +kernel
theorem dX7_takesOut_8 : decode cX7_takesOut 8 = .ok (.isub, 1) := by decide +kernel
theorem dX7_takesOut_9 : decode cX7_takesOut 9 = .ok (.iastore, 1) := by decide +kernel
theorem dX7_takesOut_10 : decode cX7_takesOut 10 = .ok (.bipush 19, 2) := by decide +kernel
theorem dX7_takesOut_12 : decode cX7_takesOut 12 = .ok (.iconst 5, 1) := by decide +kernel
theorem dX7_takesOut_13 : decode cX7_takesOut 13 = .ok (.iload_n 1, 1) := by decide +kernel
theorem dX7_takesOut_14 : decode cX7_takesOut 14 = .ok (.imul, 1) := by decide +kernel
theorem dX7_takesOut_15 : decode cX7_takesOut 15 = .ok (.iadd, 1) := by decide +kernel
theorem dX7_takesOut_16 : decode cX7_takesOut 16 = .ok (.istore_n 2, 1) := by decide +kernel
theorem dX7_takesOut_17 : decode cX7_takesOut 17 = .ok (.iload_n 2, 1) := by decide +kernel
theorem dX7_takesOut_18 : decode cX7_takesOut 18 = .ok (.bipush 19, 2) := by decide +kernel
theorem dX7_takesOut_20 : decode cX7_takesOut 20 = .ok (.iconst 5, 1) := by decide +kernel
theorem dX7_takesOut_21 : decode cX7_takesOut 21 = .ok (.aload_n 0, 1) := by decide +kernel
theorem dX7_takesOut_22 : decode cX7_takesOut 22 = .ok (.getfield 7, 3) := by decide +kernel
theorem dX7_takesOut_25 : decode cX7_takesOut 25 = .ok (.iconst 1, 1) := by decide +kernel
theorem dX7_takesOut_26 : decode cX7_takesOut 26 = .ok (.iaload, 1) := by decide +kernel
theorem dX7_takesOut_27 : decode cX7_takesOut 27 = .ok (.imul, 1) := by decide +kernel
theorem dX7_takesOut_28 : decode cX7_takesOut 28 = .ok (.iadd, 1) := by decide +kernel
theorem dX7_takesOut_29 : decode cX7_takesOut 29 = .ok (.if_icmp .ge 23, 3) := by decide +kernel
theorem dX7_takesOut_32 : decode cX7_takesOut 32 = .ok (.aload_n 0, 1) := by decide +kernel
theorem dX7_takesOut_33 : decode cX7_takesOut 33 = .ok (.getfield 7, 3) := by decide +kernel
theorem dX7_takesOut_36 : decode cX7_takesOut 36 = .ok (.iload_n 2, 1) := by decide +kernel
theorem dX7_takesOut_37 : decode cX7_takesOut 37 = .ok (.aload_n 0, 1) := by decide +kernel
theorem dX7_takesOut_38 : decode cX7_takesOut 38 = .ok (.getfield 7, 3) := by decide +kernel
theorem dX7_takesOut_41 : decode cX7_takesOut 41 = .ok (.iload_n 2, 1) := by decide +kernel
theorem dX7_takesOut_42 : decode cX7_takesOut 42 = .ok (.iconst 5, 1) := by decide +kernel
theorem dX7_takesOut_43 : decode cX7_takesOut 43 = .ok (.iadd, 1) := by decide +kernel
theorem dX7_takesOut_44 : decode cX7_takesOut 44 = .ok (.iaload, 1) := by decide +kernel
theorem dX7_takesOut_45 : decode cX7_takesOut 45 = .ok (.iastore, 1) := by decide +kernel
theorem dX7_takesOut_46 : decode cX7_takesOut 46 = .ok (.iinc 2 1, 3) := by decide +kernel
theorem dX7_takesOut_49 : decode cX7_takesOut 49 = .ok (.goto (-32), 3) := by decide +kernel
theorem dX7_takesOut_52 : decode cX7_takesOut 52 = .ok (.return_, 1) := by decide +kernel
theorem dX7_sets_0 : decode cX7_sets 0 = .ok (.aload_n 0, 1) := by decide +kernel
theorem dX7_sets_1 : decode cX7_sets 1 = .ok (.getfield 7, 3) := by decide +kernel
theorem dX7_sets_4 : decode cX7_sets 4 = .ok (.bipush 19, 2) := by decide +kernel
theorem dX7_sets_6 : decode cX7_sets 6 = .ok (.iconst 5, 1) := by decide +kernel
theorem dX7_sets_7 : decode cX7_sets 7 = .ok (.iload_n 1, 1) := by decide +kernel
theorem dX7_sets_8 : decode cX7_sets 8 = .ok (.imul, 1) := by decide +kernel
theorem dX7_sets_9 : decode cX7_sets 9 = .ok (.iadd, 1) := by decide +kernel
theorem dX7_sets_10 : decode cX7_sets 10 = .ok (.iconst 0, 1) := by decide +kernel
theorem dX7_sets_11 : decode cX7_sets 11 = .ok (.iadd, 1) := by decide +kernel
theorem dX7_sets_12 : decode cX7_sets 12 = .ok (.iload_n 2, 1) := by decide +kernel
theorem dX7_sets_13 : decode cX7_sets 13 = .ok (.iastore, 1) := by decide +kernel
theorem dX7_sets_14 : decode cX7_sets 14 = .ok (.aload_n 0, 1) := by decide +kernel
theorem dX7_sets_15 : decode cX7_sets 15 = .ok (.getfield 7, 3) := by decide +kernel
theorem dX7_sets_18 : decode cX7_sets 18 = .ok (.bipush 19, 2) := by decide +kernel
theorem dX7_sets_20 : decode cX7_sets 20 = .ok (.iconst 5, 1) := by decide +kernel
theorem dX7_sets_21 : decode cX7_sets 21 = .ok (.iload_n 1, 1) := by decide +kernel
theorem dX7_sets_22 : decode cX7_sets 22 = .ok (.imul, 1) := by decide +kernel
theorem dX7_sets_23 : decode cX7_sets 23 = .ok (.iadd, 1) := by decide +kernel
theorem dX7_sets_24 : decode cX7_sets 24 = .ok (.iconst 1, 1) := by decide +kernel
theorem dX7_sets_25 : decode cX7_sets 25 = .ok (.iadd, 1) := by decide +kernel
theorem dX7_sets_26 : decode cX7_sets 26 = .ok (.iload_n 3, 1) := by decide +kernel
theorem dX7_sets_27 : decode cX7_sets 27 = .ok (.iastore, 1) := by decide +kernel
theorem dX7_sets_28 : decode cX7_sets 28 = .ok (.aload_n 0, 1) := by decide +kernel
theorem dX7_sets_29 : decode cX7_sets 29 = .ok (.getfield 7, 3) := by decide +kernel
theorem dX7_sets_32 : decode cX7_sets 32 = .ok (.bipush 19, 2) := by decide +kernel
theorem dX7_sets_34 : decode cX7_sets 34 = .ok (.iconst 5, 1) := by decide +kernel
theorem dX7_sets_35 : decode cX7_sets 35 = .ok (.iload_n 1, 1) := by decide +kernel
theorem dX7_sets_36 : decode cX7_sets 36 = .ok (.imul, 1) := by decide +kernel
theorem dX7_sets_37 : decode cX7_sets 37 = .ok (.iadd, 1) := by decide +kernel
theorem dX7_sets_38 : decode cX7_sets 38 = .ok (.iconst 2, 1) := by decide +kernel
theorem dX7_sets_39 : decode cX7_sets 39 = .ok (.iadd, 1) := by decide +kernel
theorem dX7_sets_40 : decode cX7_sets 40 = .ok (.iload 4, 2) := by decide +kernel
theorem dX7_sets_42 : decode cX7_sets 42 = .ok (.iastore, 1) := by decide +kernel
theorem dX7_sets_43 : decode cX7_sets 43 = .ok (.aload_n 0, 1) := by decide +kernel
theorem dX7_sets_44 : decode cX7_sets 44 = .ok (.getfield 7, 3) := by decide +kernel
theorem dX7_sets_47 : decode cX7_sets 47 = .ok (.bipush 19, 2) := by decide +kernel
theorem dX7_sets_49 : decode cX7_sets 49 = .ok (.iconst 5, 1) := by decide +kernel
theorem dX7_sets_50 : decode cX7_sets 50 = .ok (.iload_n 1, 1) := by decide +kernel
theorem dX7_sets_51 : decode cX7_sets 51 = .ok (.imul, 1) := by decide +kernel
theorem dX7_sets_52 : decode cX7_sets 52 = .ok (.iadd, 1) := by decide +kernel
theorem dX7_sets_53 : decode cX7_sets 53 = .ok (.iconst 3, 1) := by decide +kernel
theorem dX7_sets_54 : decode cX7_sets 54 = .ok (.iadd, 1) := by decide +kernel
theorem dX7_sets_55 : decode cX7_sets 55 = .ok (.iload 5, 2) := by decide +kernel
theorem dX7_sets_57 : decode cX7_sets 57 = .ok (.iastore, 1) := by decide +kernel
theorem dX7_sets_58 : decode cX7_sets 58 = .ok (.aload_n 0, 1) := by decide +kernel
theorem dX7_sets_59 : decode cX7_sets 59 = .ok (.getfield 7, 3) := by decide +kernel
theorem dX7_sets_62 : decode cX7_sets 62 = .ok (.bipush 19, 2) := by decide +kernel
theorem dX7_sets_64 : decode cX7_sets 64 = .ok (.iconst 5, 1) := by decide +kernel
theorem dX7_sets_65 : decode cX7_sets 65 = .ok (.iload_n 1, 1) := by decide +kernel
theorem dX7_sets_66 : decode cX7_sets 66 = .ok (.imul, 1) := by decide +kernel
theorem dX7_sets_67 : decode cX7_sets 67 = .ok (.iadd, 1) := by decide +kernel
theorem dX7_sets_68 : decode cX7_sets 68 = .ok (.iconst 4, 1) := by decide +kernel
theorem dX7_sets_69 : decode cX7_sets 69 = .ok (.iadd, 1) := by decide +kernel
theorem dX7_sets_70 : decode cX7_sets 70 = .ok (.iload 6, 2) := by decide +kernel
theorem dX7_sets_72 : decode cX7_sets 72 = .ok (.iastore, 1) := by decide +kernel
theorem dX7_sets_73 : decode cX7_sets 73 = .ok (.return_, 1) := by decide +kernel
set_option maxRecDepth 20000 in
theorem ggX7_lays_X7_at : GoodIn wsX7_lays wsX7_at := goodIn_r _ [8, 2, 9, 10, 11, 12, 7, 13, 29, 30, 31, 32, 33, 34, 35, 36, 37, 38, 39, 40, 41, 42, 43, 44, 45, 46, 47, 48, 49] (by decide +kernel) (by decide +kernel)
set_option maxRecDepth 20000 in
theorem gX7_lays_X7_at : GoodIn wsX7_lays (wsV RX7 64 RX7 yX7_at wsX7_at) := goodIn_app (goodIn_of _ (by decide +kernel)) ggX7_lays_X7_at
set_option maxRecDepth 20000 in
theorem ggX7_lays_X7_changes : GoodIn wsX7_lays wsX7_changes := goodIn_r _ [17, 18, 19, 20, 2, 29, 30, 31, 32, 33, 34, 35, 36, 37, 38, 39, 40, 41, 42, 43, 44, 45, 46, 47, 48, 49] (by decide +kernel) (by decide +kernel)
set_option maxRecDepth 20000 in
theorem gX7_lays_X7_changes : GoodIn wsX7_lays (wsV RX7 53 RX7 yX7_changes wsX7_changes) := goodIn_app (goodIn_of _ (by decide +kernel)) ggX7_lays_X7_changes
set_option maxRecDepth 20000 in
theorem ggX7_lays_X7_opens : GoodIn wsX7_lays wsX7_opens := goodIn_r _ [24, 2, 10, 11, 12, 7, 13, 29, 30, 31, 32, 33, 34, 35, 36, 37, 38, 39, 40, 41, 42, 43, 44, 45, 46, 47, 48, 49] (by decide +kernel) (by decide +kernel)
set_option maxRecDepth 20000 in
theorem gX7_lays_X7_opens : GoodIn wsX7_lays (wsV RX7 68 RX7 yX7_opens wsX7_opens) := goodIn_app (goodIn_of _ (by decide +kernel)) ggX7_lays_X7_opens
set_option maxRecDepth 20000 in
theorem ggX7_lays_X7_sets : GoodIn wsX7_lays wsX7_sets := goodIn_r _ [28, 2, 29, 30, 31, 32, 33, 34, 35, 36, 37, 38, 39, 40, 41, 42, 43, 44, 45, 46, 47, 48, 49] (by decide +kernel) (by decide +kernel)
set_option maxRecDepth 20000 in
theorem gX7_lays_X7_sets : GoodIn wsX7_lays (wsV RX7 71 RX7 yX7_sets wsX7_sets) := goodIn_app (goodIn_of _ (by decide +kernel)) ggX7_lays_X7_sets
theorem dX7_lays_0 : decode cX7_lays 0 = .ok (.aload_n 0, 1) := by decide +kernel
theorem dX7_lays_1 : decode cX7_lays 1 = .ok (.iload_n 1, 1) := by decide +kernel
theorem dX7_lays_2 : decode cX7_lays 2 = .ok (.invokevirtual 64, 3) := by decide +kernel
theorem dX7_lays_5 : decode cX7_lays 5 = .ok (.ifCond .lt 6, 3) := by decide +kernel
theorem dX7_lays_8 : decode cX7_lays 8 = .ok (.ldc 67, 2) := by decide +kernel
theorem dX7_lays_10 : decode cX7_lays 10 = .ok (.ireturn, 1) := by decide +kernel
theorem dX7_lays_11 : decode cX7_lays 11 = .ok (.aload_n 0, 1) := by decide +kernel
theorem dX7_lays_12 : decode cX7_lays 12 = .ok (.getfield 7, 3) := by decide +kernel
theorem dX7_lays_15 : decode cX7_lays 15 = .ok (.iconst 1, 1) := by decide +kernel
theorem dX7_lays_16 : decode cX7_lays 16 = .ok (.iaload, 1) := by decide +kernel
theorem dX7_lays_17 : decode cX7_lays 17 = .ok (.bipush 8, 2) := by decide +kernel
theorem dX7_lays_19 : decode cX7_lays 19 = .ok (.if_icmp .ne 6, 3) := by decide +kernel
theorem dX7_lays_22 : decode cX7_lays 22 = .ok (.ldc 52, 2) := by decide +kernel
theorem dX7_lays_24 : decode cX7_lays 24 = .ok (.ireturn, 1) := by decide +kernel
theorem dX7_lays_25 : decode cX7_lays 25 = .ok (.aload_n 0, 1) := by decide +kernel
theorem dX7_lays_26 : decode cX7_lays 26 = .ok (.invokevirtual 53, 3) := by decide +kernel
theorem dX7_lays_29 : decode cX7_lays 29 = .ok (.aload_n 0, 1) := by decide +kernel
theorem dX7_lays_30 : decode cX7_lays 30 = .ok (.aload_n 0, 1) := by decide +kernel
theorem dX7_lays_31 : decode cX7_lays 31 = .ok (.iload_n 1, 1) := by decide +kernel
theorem dX7_lays_32 : decode cX7_lays 32 = .ok (.invokevirtual 68, 3) := by decide +kernel
theorem dX7_lays_35 : decode cX7_lays 35 = .ok (.iload_n 1, 1) := by decide +kernel
theorem dX7_lays_36 : decode cX7_lays 36 = .ok (.iload_n 2, 1) := by decide +kernel
theorem dX7_lays_37 : decode cX7_lays 37 = .ok (.iload_n 3, 1) := by decide +kernel
theorem dX7_lays_38 : decode cX7_lays 38 = .ok (.iload 4, 2) := by decide +kernel
theorem dX7_lays_40 : decode cX7_lays 40 = .ok (.iload 5, 2) := by decide +kernel
theorem dX7_lays_42 : decode cX7_lays 42 = .ok (.invokevirtual 71, 3) := by decide +kernel
theorem dX7_lays_45 : decode cX7_lays 45 = .ok (.aload_n 0, 1) := by decide +kernel
theorem dX7_lays_46 : decode cX7_lays 46 = .ok (.getfield 7, 3) := by decide +kernel
theorem dX7_lays_49 : decode cX7_lays 49 = .ok (.iconst 1, 1) := by decide +kernel
theorem dX7_lays_50 : decode cX7_lays 50 = .ok (.iaload, 1) := by decide +kernel
theorem dX7_lays_51 : decode cX7_lays 51 = .ok (.ireturn, 1) := by decide +kernel
set_option maxRecDepth 20000 in
theorem ggX7_isPlace_X7_in : GoodIn wsX7_isPlace wsX7_in := goodIn_r _ [4] (by decide +kernel) (by decide +kernel)
set_option maxRecDepth 20000 in
theorem gX7_isPlace_X7_in : GoodIn wsX7_isPlace (va_wsS RX7 47 yX7_in wsX7_in) := goodIn_app (goodIn_of _ (by decide +kernel)) ggX7_isPlace_X7_in
theorem dX7_isPlace_0 : decode cX7_isPlace 0 = .ok (.iload_n 0, 1) := by decide +kernel
theorem dX7_isPlace_1 : decode cX7_isPlace 1 = .ok (.iconst 1, 1) := by decide +kernel
theorem dX7_isPlace_2 : decode cX7_isPlace 2 = .ok (.sipush 999, 3) := by decide +kernel
theorem dX7_isPlace_5 : decode cX7_isPlace 5 = .ok (.invokestatic 47, 3) := by decide +kernel
theorem dX7_isPlace_8 : decode cX7_isPlace 8 = .ok (.ireturn, 1) := by decide +kernel
set_option maxRecDepth 20000 in
theorem ggX7_prism_X7_isPlace : GoodIn wsX7_prism wsX7_isPlace := goodIn_r _ [5, 6, 7, 4, 8] (by decide +kernel) (by decide +kernel)
set_option maxRecDepth 20000 in
theorem gX7_prism_X7_isPlace : GoodIn wsX7_prism (va_wsS RX7 74 yX7_isPlace wsX7_isPlace) := goodIn_app (goodIn_of _ (by decide +kernel)) ggX7_prism_X7_isPlace
set_option maxRecDepth 20000 in
theorem ggX7_prism_X7_in : GoodIn wsX7_prism wsX7_in := goodIn_r _ [8] (by decide +kernel) (by decide +kernel)
set_option maxRecDepth 20000 in
theorem gX7_prism_X7_in : GoodIn wsX7_prism (va_wsS RX7 47 yX7_in wsX7_in) := goodIn_app (goodIn_of _ (by decide +kernel)) ggX7_prism_X7_in
set_option maxRecDepth 20000 in
theorem ggX7_prism_X7_lays : GoodIn wsX7_prism wsX7_lays := goodIn_r _ [12, 13, 14, 15, 16, 17, 18, 4, 19, 20, 21, 22, 23, 24, 25, 26, 27, 28, 29, 30, 31, 32, 33, 34, 35, 36, 37, 38, 39, 40, 41, 42, 43, 44, 45, 46, 47, 48, 49, 50, 51, 52, 53, 54, 55, 56, 57, 58, 59, 60] (by decide +kernel) (by decide +kernel)
set_option maxRecDepth 20000 in
theorem gX7_prism_X7_lays : GoodIn wsX7_prism (wsV RX7 77 RX7 yX7_lays wsX7_lays) := goodIn_app (goodIn_of _ (by decide +kernel)) ggX7_prism_X7_lays
theorem dX7_prism_0 : decode cX7_prism 0 = .ok (.iload_n 1, 1) := by decide +kernel
theorem dX7_prism_1 : decode cX7_prism 1 = .ok (.invokestatic 74, 3) := by decide +kernel
theorem dX7_prism_4 : decode cX7_prism 4 = .ok (.ifCond .eq 34, 3) := by decide +kernel
theorem dX7_prism_7 : decode cX7_prism 7 = .ok (.iload_n 2, 1) := by decide +kernel
theorem dX7_prism_8 : decode cX7_prism 8 = .ok (.iconst 0, 1) := by decide +kernel
theorem dX7_prism_9 : decode cX7_prism 9 = .ok (.iconst 1, 1) := by decide +kernel
theorem dX7_prism_10 : decode cX7_prism 10 = .ok (.invokestatic 47, 3) := by decide +kernel
theorem dX7_prism_13 : decode cX7_prism 13 = .ok (.ifCond .eq 25, 3) := by decide +kernel
theorem dX7_prism_16 : decode cX7_prism 16 = .ok (.iload_n 3, 1) := by decide +kernel
theorem dX7_prism_17 : decode cX7_prism 17 = .ok (.iconst 1, 1) := by decide +kernel
theorem dX7_prism_18 : decode cX7_prism 18 = .ok (.bipush 99, 2) := by decide +kernel
theorem dX7_prism_20 : decode cX7_prism 20 = .ok (.invokestatic 47, 3) := by decide +kernel
theorem dX7_prism_23 : decode cX7_prism 23 = .ok (.ifCond .eq 15, 3) := by decide +kernel
theorem dX7_prism_26 : decode cX7_prism 26 = .ok (.iload 4, 2) := by decide +kernel
theorem dX7_prism_28 : decode cX7_prism 28 = .ok (.iconst 1, 1) := by decide +kernel
theorem dX7_prism_29 : decode cX7_prism 29 = .ok (.if_icmp .eq 12, 3) := by decide +kernel
theorem dX7_prism_32 : decode cX7_prism 32 = .ok (.iload 4, 2) := by decide +kernel
theorem dX7_prism_34 : decode cX7_prism 34 = .ok (.iconst (-1), 1) := by decide +kernel
theorem dX7_prism_35 : decode cX7_prism 35 = .ok (.if_icmp .eq 6, 3) := by decide +kernel
theorem dX7_prism_38 : decode cX7_prism 38 = .ok (.ldc 51, 2) := by decide +kernel
theorem dX7_prism_40 : decode cX7_prism 40 = .ok (.ireturn, 1) := by decide +kernel
theorem dX7_prism_41 : decode cX7_prism 41 = .ok (.aload_n 0, 1) := by decide +kernel
theorem dX7_prism_42 : decode cX7_prism 42 = .ok (.iload_n 1, 1) := by decide +kernel
theorem dX7_prism_43 : decode cX7_prism 43 = .ok (.iconst 0, 1) := by decide +kernel
theorem dX7_prism_44 : decode cX7_prism 44 = .ok (.iload_n 2, 1) := by decide +kernel
theorem dX7_prism_45 : decode cX7_prism 45 = .ok (.iload_n 3, 1) := by decide +kernel
theorem dX7_prism_46 : decode cX7_prism 46 = .ok (.iload 4, 2) := by decide +kernel
theorem dX7_prism_48 : decode cX7_prism 48 = .ok (.invokevirtual 77, 3) := by decide +kernel
theorem dX7_prism_51 : decode cX7_prism 51 = .ok (.ireturn, 1) := by decide +kernel
set_option maxRecDepth 20000 in
theorem ggX7_slit_X7_isPlace : GoodIn wsX7_slit wsX7_isPlace := goodIn_r _ [5, 6, 7, 4, 8] (by decide +kernel) (by decide +kernel)
set_option maxRecDepth 20000 in
theorem gX7_slit_X7_isPlace : GoodIn wsX7_slit (va_wsS RX7 74 yX7_isPlace wsX7_isPlace) := goodIn_app (goodIn_of _ (by decide +kernel)) ggX7_slit_X7_isPlace
set_option maxRecDepth 20000 in
theorem ggX7_slit_X7_in : GoodIn wsX7_slit wsX7_in := goodIn_r _ [8] (by decide +kernel) (by decide +kernel)
set_option maxRecDepth 20000 in
theorem gX7_slit_X7_in : GoodIn wsX7_slit (va_wsS RX7 47 yX7_in wsX7_in) := goodIn_app (goodIn_of _ (by decide +kernel)) ggX7_slit_X7_in
set_option maxRecDepth 20000 in
theorem ggX7_slit_X7_lays : GoodIn wsX7_slit wsX7_lays := goodIn_r _ [12, 13, 14, 15, 16, 17, 18, 4, 19, 20, 21, 22, 23, 24, 25, 26, 27, 28, 29, 30, 31, 32, 33, 34, 35, 36, 37, 38, 39, 40, 41, 42, 43, 44, 45, 46, 47, 48, 49, 50, 51, 52, 53, 54, 55, 56, 57, 58, 59, 60] (by decide +kernel) (by decide +kernel)
set_option maxRecDepth 20000 in
theorem gX7_slit_X7_lays : GoodIn wsX7_slit (wsV RX7 77 RX7 yX7_lays wsX7_lays) := goodIn_app (goodIn_of _ (by decide +kernel)) ggX7_slit_X7_lays
theorem dX7_slit_0 : decode cX7_slit 0 = .ok (.iload_n 1, 1) := by decide +kernel
theorem dX7_slit_1 : decode cX7_slit 1 = .ok (.invokestatic 74, 3) := by decide +kernel
theorem dX7_slit_4 : decode cX7_slit 4 = .ok (.ifCond .eq 27, 3) := by decide +kernel
theorem dX7_slit_7 : decode cX7_slit 7 = .ok (.iload_n 2, 1) := by decide +kernel
theorem dX7_slit_8 : decode cX7_slit 8 = .ok (.sipush (-9999), 3) := by decide +kernel
theorem dX7_slit_11 : decode cX7_slit 11 = .ok (.sipush 9999, 3) := by decide +kernel
theorem dX7_slit_14 : decode cX7_slit 14 = .ok (.invokestatic 47, 3) := by decide +kernel
theorem dX7_slit_17 : decode cX7_slit 17 = .ok (.ifCond .eq 14, 3) := by decide +kernel
theorem dX7_slit_20 : decode cX7_slit 20 = .ok (.iload_n 3, 1) := by decide +kernel
theorem dX7_slit_21 : decode cX7_slit 21 = .ok (.iload_n 2, 1) := by decide +kernel
theorem dX7_slit_22 : decode cX7_slit 22 = .ok (.sipush 9999, 3) := by decide +kernel
theorem dX7_slit_25 : decode cX7_slit 25 = .ok (.invokestatic 47, 3) := by decide +kernel
theorem dX7_slit_28 : decode cX7_slit 28 = .ok (.ifCond .ne 6, 3) := by decide +kernel
theorem dX7_slit_31 : decode cX7_slit 31 = .ok (.ldc 51, 2) := by decide +kernel
theorem dX7_slit_33 : decode cX7_slit 33 = .ok (.ireturn, 1) := by decide +kernel
theorem dX7_slit_34 : decode cX7_slit 34 = .ok (.aload_n 0, 1) := by decide +kernel
theorem dX7_slit_35 : decode cX7_slit 35 = .ok (.iload_n 1, 1) := by decide +kernel
theorem dX7_slit_36 : decode cX7_slit 36 = .ok (.iconst 1, 1) := by decide +kernel
theorem dX7_slit_37 : decode cX7_slit 37 = .ok (.iload_n 2, 1) := by decide +kernel
theorem dX7_slit_38 : decode cX7_slit 38 = .ok (.iload_n 3, 1) := by decide +kernel
theorem dX7_slit_39 : decode cX7_slit 39 = .ok (.iconst 0, 1) := by decide +kernel
theorem dX7_slit_40 : decode cX7_slit 40 = .ok (.invokevirtual 77, 3) := by decide +kernel
theorem dX7_slit_43 : decode cX7_slit 43 = .ok (.ireturn, 1) := by decide +kernel
set_option maxRecDepth 20000 in
theorem ggX7_take_X7_at : GoodIn wsX7_take wsX7_at := goodIn_r _ [7, 2, 8, 9, 10, 11, 6, 12, 24, 25, 26, 27, 28, 29, 30, 31, 32, 33, 34, 35, 36, 37, 38, 39, 40, 41, 42, 43, 44] (by decide +kernel) (by decide +kernel)
set_option maxRecDepth 20000 in
theorem gX7_take_X7_at : GoodIn wsX7_take (wsV RX7 64 RX7 yX7_at wsX7_at) := goodIn_app (goodIn_of _ (by decide +kernel)) ggX7_take_X7_at
set_option maxRecDepth 20000 in
theorem ggX7_take_X7_changes : GoodIn wsX7_take wsX7_changes := goodIn_r _ [16, 17, 18, 19, 2, 24, 25, 26, 27, 28, 29, 30, 31, 32, 33, 34, 35, 36, 37, 38, 39, 40, 41, 42, 43, 44] (by decide +kernel) (by decide +kernel)
set_option maxRecDepth 20000 in
theorem gX7_take_X7_changes : GoodIn wsX7_take (wsV RX7 53 RX7 yX7_changes wsX7_changes) := goodIn_app (goodIn_of _ (by decide +kernel)) ggX7_take_X7_changes
set_option maxRecDepth 20000 in
theorem ggX7_take_X7_takesOut : GoodIn wsX7_take wsX7_takesOut := goodIn_r _ [23, 2, 24, 25, 26, 27, 28, 29, 30, 31, 32, 33, 34, 35, 36, 37, 38, 39, 40, 41, 42, 43, 44] (by decide +kernel) (by decide +kernel)
set_option maxRecDepth 20000 in
theorem gX7_take_X7_takesOut : GoodIn wsX7_take (wsV RX7 81 RX7 yX7_takesOut wsX7_takesOut) := goodIn_app (goodIn_of _ (by decide +kernel)) ggX7_take_X7_takesOut
theorem dX7_take_0 : decode cX7_take 0 = .ok (.aload_n 0, 1) := by decide +kernel
theorem dX7_take_1 : decode cX7_take 1 = .ok (.iload_n 1, 1) := by decide +kernel
theorem dX7_take_2 : decode cX7_take 2 = .ok (.invokevirtual 64, 3) := by decide +kernel
theorem dX7_take_5 : decode cX7_take 5 = .ok (.istore_n 2, 1) := by decide +kernel
theorem dX7_take_6 : decode cX7_take 6 = .ok (.iload_n 2, 1) := by decide +kernel
theorem dX7_take_7 : decode cX7_take 7 = .ok (.ifCond .ge 6, 3) := by decide +kernel
theorem dX7_take_10 : decode cX7_take 10 = .ok (.ldc 51, 2) := by decide +kernel
theorem dX7_take_12 : decode cX7_take 12 = .ok (.ireturn, 1) := by decide +kernel
theorem dX7_take_13 : decode cX7_take 13 = .ok (.aload_n 0, 1) := by decide +kernel
theorem dX7_take_14 : decode cX7_take 14 = .ok (.invokevirtual 53, 3) := by decide +kernel
theorem dX7_take_17 : decode cX7_take 17 = .ok (.aload_n 0, 1) := by decide +kernel
theorem dX7_take_18 : decode cX7_take 18 = .ok (.iload_n 2, 1) := by decide +kernel
theorem dX7_take_19 : decode cX7_take 19 = .ok (.invokevirtual 81, 3) := by decide +kernel
theorem dX7_take_22 : decode cX7_take 22 = .ok (.aload_n 0, 1) := by decide +kernel
theorem dX7_take_23 : decode cX7_take 23 = .ok (.getfield 7, 3) := by decide +kernel
theorem dX7_take_26 : decode cX7_take 26 = .ok (.iconst 1, 1) := by decide +kernel
theorem dX7_take_27 : decode cX7_take 27 = .ok (.iaload, 1) := by decide +kernel
theorem dX7_take_28 : decode cX7_take 28 = .ok (.ireturn, 1) := by decide +kernel
set_option maxRecDepth 20000 in
theorem ggX7_moves_X7_of : GoodIn wsX7_moves wsX7_of := goodIn_r _ [5, 6, 19, 20, 21, 22, 23, 24, 25, 26, 27, 28, 29, 30, 31, 32, 33, 34, 35, 36, 37, 38, 39] (by decide +kernel) (by decide +kernel)
set_option maxRecDepth 20000 in
theorem gX7_moves_X7_of : GoodIn wsX7_moves (wsV RX7 42 RX7 yX7_of wsX7_of) := goodIn_app (goodIn_of _ (by decide +kernel)) ggX7_moves_X7_of
set_option maxRecDepth 20000 in
theorem ggX7_moves_X7_takesOut : GoodIn wsX7_moves wsX7_takesOut := goodIn_r _ [10, 6, 19, 20, 21, 22, 23, 24, 25, 26, 27, 28, 29, 30, 31, 32, 33, 34, 35, 36, 37, 38, 39] (by decide +kernel) (by decide +kernel)
set_option maxRecDepth 20000 in
theorem gX7_moves_X7_takesOut : GoodIn wsX7_moves (wsV RX7 81 RX7 yX7_takesOut wsX7_takesOut) := goodIn_app (goodIn_of _ (by decide +kernel)) ggX7_moves_X7_takesOut
set_option maxRecDepth 20000 in
theorem ggX7_moves_X7_opens : GoodIn wsX7_moves wsX7_opens := goodIn_r _ [14, 6, 1, 2, 3, 4, 5, 19, 20, 21, 22, 23, 24, 25, 26, 27, 28, 29, 30, 31, 32, 33, 34, 35, 36, 37, 38, 39] (by decide +kernel) (by decide +kernel)
set_option maxRecDepth 20000 in
theorem gX7_moves_X7_opens : GoodIn wsX7_moves (wsV RX7 68 RX7 yX7_opens wsX7_opens) := goodIn_app (goodIn_of _ (by decide +kernel)) ggX7_moves_X7_opens
set_option maxRecDepth 20000 in
theorem ggX7_moves_X7_sets : GoodIn wsX7_moves wsX7_sets := goodIn_r _ [18, 6, 19, 20, 21, 22, 23, 24, 25, 26, 27, 28, 29, 30, 31, 32, 33, 34, 35, 36, 37, 38, 39] (by decide +kernel) (by decide +kernel)
set_option maxRecDepth 20000 in
theorem gX7_moves_X7_sets : GoodIn wsX7_moves (wsV RX7 71 RX7 yX7_sets wsX7_sets) := goodIn_app (goodIn_of _ (by decide +kernel)) ggX7_moves_X7_sets
theorem dX7_moves_0 : decode cX7_moves 0 = .ok (.aload_n 0, 1) := by decide +kernel
theorem dX7_moves_1 : decode cX7_moves 1 = .ok (.iload_n 1, 1) := by decide +kernel
theorem dX7_moves_2 : decode cX7_moves 2 = .ok (.iconst 1, 1) := by decide +kernel
theorem dX7_moves_3 : decode cX7_moves 3 = .ok (.invokevirtual 42, 3) := by decide +kernel
theorem dX7_moves_6 : decode cX7_moves 6 = .ok (.istore_n 3, 1) := by decide +kernel
theorem dX7_moves_7 : decode cX7_moves 7 = .ok (.aload_n 0, 1) := by decide +kernel
theorem dX7_moves_8 : decode cX7_moves 8 = .ok (.iload_n 1, 1) := by decide +kernel
theorem dX7_moves_9 : decode cX7_moves 9 = .ok (.iconst 2, 1) := by decide +kernel
theorem dX7_moves_10 : decode cX7_moves 10 = .ok (.invokevirtual 42, 3) := by decide +kernel
theorem dX7_moves_13 : decode cX7_moves 13 = .ok (.istore 4, 2) := by decide +kernel
theorem dX7_moves_15 : decode cX7_moves 15 = .ok (.aload_n 0, 1) := by decide +kernel
theorem dX7_moves_16 : decode cX7_moves 16 = .ok (.iload_n 1, 1) := by decide +kernel
theorem dX7_moves_17 : decode cX7_moves 17 = .ok (.iconst 3, 1) := by decide +kernel
theorem dX7_moves_18 : decode cX7_moves 18 = .ok (.invokevirtual 42, 3) := by decide +kernel
theorem dX7_moves_21 : decode cX7_moves 21 = .ok (.istore 5, 2) := by decide +kernel
theorem dX7_moves_23 : decode cX7_moves 23 = .ok (.aload_n 0, 1) := by decide +kernel
theorem dX7_moves_24 : decode cX7_moves 24 = .ok (.iload_n 1, 1) := by decide +kernel
theorem dX7_moves_25 : decode cX7_moves 25 = .ok (.iconst 4, 1) := by decide +kernel
theorem dX7_moves_26 : decode cX7_moves 26 = .ok (.invokevirtual 42, 3) := by decide +kernel
theorem dX7_moves_29 : decode cX7_moves 29 = .ok (.istore 6, 2) := by decide +kernel
theorem dX7_moves_31 : decode cX7_moves 31 = .ok (.aload_n 0, 1) := by decide +kernel
theorem dX7_moves_32 : decode cX7_moves 32 = .ok (.iload_n 1, 1) := by decide +kernel
theorem dX7_moves_33 : decode cX7_moves 33 = .ok (.invokevirtual 81, 3) := by decide +kernel
theorem dX7_moves_36 : decode cX7_moves 36 = .ok (.aload_n 0, 1) := by decide +kernel
theorem dX7_moves_37 : decode cX7_moves 37 = .ok (.iload_n 2, 1) := by decide +kernel
theorem dX7_moves_38 : decode cX7_moves 38 = .ok (.invokevirtual 68, 3) := by decide +kernel
theorem dX7_moves_41 : decode cX7_moves 41 = .ok (.istore 7, 2) := by decide +kernel
theorem dX7_moves_43 : decode cX7_moves 43 = .ok (.aload_n 0, 1) := by decide +kernel
theorem dX7_moves_44 : decode cX7_moves 44 = .ok (.iload 7, 2) := by decide +kernel
theorem dX7_moves_46 : decode cX7_moves 46 = .ok (.iload_n 2, 1) := by decide +kernel
theorem dX7_moves_47 : decode cX7_moves 47 = .ok (.iload_n 3, 1) := by decide +kernel
theorem dX7_moves_48 : decode cX7_moves 48 = .ok (.iload 4, 2) := by decide +kernel
theorem dX7_moves_50 : decode cX7_moves 50 = .ok (.iload 5, 2) := by decide +kernel
theorem dX7_moves_52 : decode cX7_moves 52 = .ok (.iload 6, 2) := by decide +kernel
theorem dX7_moves_54 : decode cX7_moves 54 = .ok (.invokevirtual 71, 3) := by decide +kernel
theorem dX7_moves_57 : decode cX7_moves 57 = .ok (.iload 7, 2) := by decide +kernel
theorem dX7_moves_59 : decode cX7_moves 59 = .ok (.ireturn, 1) := by decide +kernel
set_option maxRecDepth 20000 in
theorem ggX7_move_X7_at : GoodIn wsX7_move wsX7_at := goodIn_r _ [7, 8, 9, 10, 11, 12, 6, 13, 43, 44, 45, 46, 47, 48, 49, 50, 51, 52, 53, 54, 55, 56, 57, 58, 59, 60, 61, 62, 63] (by decide +kernel) (by decide +kernel)
set_option maxRecDepth 20000 in
theorem gX7_move_X7_at : GoodIn wsX7_move (wsV RX7 64 RX7 yX7_at wsX7_at) := goodIn_app (goodIn_of _ (by decide +kernel)) ggX7_move_X7_at
set_option maxRecDepth 20000 in
theorem ggX7_move_X7_isPlace : GoodIn wsX7_move wsX7_isPlace := goodIn_r _ [16, 17, 18, 6, 19] (by decide +kernel) (by decide +kernel)
set_option maxRecDepth 20000 in
theorem gX7_move_X7_isPlace : GoodIn wsX7_move (va_wsS RX7 74 yX7_isPlace wsX7_isPlace) := goodIn_app (goodIn_of _ (by decide +kernel)) ggX7_move_X7_isPlace
set_option maxRecDepth 20000 in
theorem ggX7_move_X7_changes : GoodIn wsX7_move wsX7_changes := goodIn_r _ [23, 24, 25, 26, 8, 43, 44, 45, 46, 47, 48, 49, 50, 51, 52, 53, 54, 55, 56, 57, 58, 59, 60, 61, 62, 63] (by decide +kernel) (by decide +kernel)
set_option maxRecDepth 20000 in
theorem gX7_move_X7_changes : GoodIn wsX7_move (wsV RX7 53 RX7 yX7_changes wsX7_changes) := goodIn_app (goodIn_of _ (by decide +kernel)) ggX7_move_X7_changes
set_option maxRecDepth 20000 in
theorem ggX7_move_X7_moves : GoodIn wsX7_move wsX7_moves := goodIn_r _ [30, 10, 11, 12, 6, 13, 8, 31, 32, 33, 34, 35, 36, 37, 38, 39, 40, 41, 42, 43, 44, 45, 46, 47, 48, 49, 50, 51, 52, 53, 54, 55, 56, 57, 58, 59, 60, 61, 62, 63] (by decide +kernel) (by decide +kernel)
set_option maxRecDepth 20000 in
theorem gX7_move_X7_moves : GoodIn wsX7_move (wsV RX7 85 RX7 yX7_moves wsX7_moves) := goodIn_app (goodIn_of _ (by decide +kernel)) ggX7_move_X7_moves
theorem dX7_move_0 : decode cX7_move 0 = .ok (.aload_n 0, 1) := by decide +kernel
theorem dX7_move_1 : decode cX7_move 1 = .ok (.iload_n 1, 1) := by decide +kernel
theorem dX7_move_2 : decode cX7_move 2 = .ok (.invokevirtual 64, 3) := by decide +kernel
theorem dX7_move_5 : decode cX7_move 5 = .ok (.istore_n 3, 1) := by decide +kernel
theorem dX7_move_6 : decode cX7_move 6 = .ok (.iload_n 3, 1) := by decide +kernel
theorem dX7_move_7 : decode cX7_move 7 = .ok (.ifCond .lt 10, 3) := by decide +kernel
theorem dX7_move_10 : decode cX7_move 10 = .ok (.iload_n 2, 1) := by decide +kernel
theorem dX7_move_11 : decode cX7_move 11 = .ok (.invokestatic 74, 3) := by decide +kernel
theorem dX7_move_14 : decode cX7_move 14 = .ok (.ifCond .ne 6, 3) := by decide +kernel
theorem dX7_move_17 : decode cX7_move 17 = .ok (.ldc 51, 2) := by decide +kernel
theorem dX7_move_19 : decode cX7_move 19 = .ok (.ireturn, 1) := by decide +kernel
theorem dX7_move_20 : decode cX7_move 20 = .ok (.aload_n 0, 1) := by decide +kernel
theorem dX7_move_21 : decode cX7_move 21 = .ok (.iload_n 2, 1) := by decide +kernel
theorem dX7_move_22 : decode cX7_move 22 = .ok (.invokevirtual 64, 3) := by decide +kernel
theorem dX7_move_25 : decode cX7_move 25 = .ok (.ifCond .lt 6, 3) := by decide +kernel
theorem dX7_move_28 : decode cX7_move 28 = .ok (.ldc 67, 2) := by decide +kernel
theorem dX7_move_30 : decode cX7_move 30 = .ok (.ireturn, 1) := by decide +kernel
theorem dX7_move_31 : decode cX7_move 31 = .ok (.aload_n 0, 1) := by decide +kernel
theorem dX7_move_32 : decode cX7_move 32 = .ok (.invokevirtual 53, 3) := by decide +kernel
theorem dX7_move_35 : decode cX7_move 35 = .ok (.aload_n 0, 1) := by decide +kernel
theorem dX7_move_36 : decode cX7_move 36 = .ok (.iload_n 3, 1) := by decide +kernel
theorem dX7_move_37 : decode cX7_move 37 = .ok (.iload_n 2, 1) := by decide +kernel
theorem dX7_move_38 : decode cX7_move 38 = .ok (.invokevirtual 85, 3) := by decide +kernel
theorem dX7_move_41 : decode cX7_move 41 = .ok (.ireturn, 1) := by decide +kernel
set_option maxRecDepth 20000 in
theorem ggX7_set_X7_in : GoodIn wsX7_set wsX7_in := goodIn_r _ [6] (by decide +kernel) (by decide +kernel)
set_option maxRecDepth 20000 in
theorem gX7_set_X7_in : GoodIn wsX7_set (va_wsS RX7 47 yX7_in wsX7_in) := goodIn_app (goodIn_of _ (by decide +kernel)) ggX7_set_X7_in
set_option maxRecDepth 20000 in
theorem ggX7_set_X7_changes : GoodIn wsX7_set wsX7_changes := goodIn_r _ [10, 11, 12, 13, 2, 14, 15, 16, 17, 18, 19, 20, 21, 22, 23, 24, 25, 26, 27, 28, 29, 30, 31, 32, 33, 34] (by decide +kernel) (by decide +kernel)
set_option maxRecDepth 20000 in
theorem gX7_set_X7_changes : GoodIn wsX7_set (wsV RX7 53 RX7 yX7_changes wsX7_changes) := goodIn_app (goodIn_of _ (by decide +kernel)) ggX7_set_X7_changes
theorem dX7_set_0 : decode cX7_set 0 = .ok (.iload_n 1, 1) := by decide +kernel
theorem dX7_set_1 : decode cX7_set 1 = .ok (.ifCond .ne 14, 3) := by decide +kernel
theorem dX7_set_4 : decode cX7_set 4 = .ok (.iload_n 2, 1) := by decide +kernel
theorem dX7_set_5 : decode cX7_set 5 = .ok (.iconst 1, 1) := by decide +kernel
theorem dX7_set_6 : decode cX7_set 6 = .ok (.sipush 500, 3) := by decide +kernel
theorem dX7_set_9 : decode cX7_set 9 = .ok (.invokestatic 47, 3) := by decide +kernel
theorem dX7_set_12 : decode cX7_set 12 = .ok (.ifCond .ne 6, 3) := by decide +kernel
theorem dX7_set_15 : decode cX7_set 15 = .ok (.ldc 51, 2) := by decide +kernel
theorem dX7_set_17 : decode cX7_set 17 = .ok (.ireturn, 1) := by decide +kernel
theorem dX7_set_18 : decode cX7_set 18 = .ok (.aload_n 0, 1) := by decide +kernel
theorem dX7_set_19 : decode cX7_set 19 = .ok (.invokevirtual 53, 3) := by decide +kernel
theorem dX7_set_22 : decode cX7_set 22 = .ok (.aload_n 0, 1) := by decide +kernel
theorem dX7_set_23 : decode cX7_set 23 = .ok (.getfield 7, 3) := by decide +kernel
theorem dX7_set_26 : decode cX7_set 26 = .ok (.iconst 2, 1) := by decide +kernel
theorem dX7_set_27 : decode cX7_set 27 = .ok (.iaload, 1) := by decide +kernel
theorem dX7_set_28 : decode cX7_set 28 = .ok (.istore_n 3, 1) := by decide +kernel
theorem dX7_set_29 : decode cX7_set 29 = .ok (.aload_n 0, 1) := by decide +kernel
theorem dX7_set_30 : decode cX7_set 30 = .ok (.getfield 7, 3) := by decide +kernel
theorem dX7_set_33 : decode cX7_set 33 = .ok (.iconst 2, 1) := by decide +kernel
theorem dX7_set_34 : decode cX7_set 34 = .ok (.iload_n 2, 1) := by decide +kernel
theorem dX7_set_35 : decode cX7_set 35 = .ok (.iastore, 1) := by decide +kernel
theorem dX7_set_36 : decode cX7_set 36 = .ok (.iload_n 3, 1) := by decide +kernel
theorem dX7_set_37 : decode cX7_set 37 = .ok (.ireturn, 1) := by decide +kernel
theorem dX7_bends_0 : decode cX7_bends 0 = .ok (.iload_n 0, 1) := by decide +kernel
theorem dX7_bends_1 : decode cX7_bends 1 = .ok (.ifCond .ne 18, 3) := by decide +kernel
theorem dX7_bends_4 : decode cX7_bends 4 = .ok (.sipush 500, 3) := by decide +kernel
theorem dX7_bends_7 : decode cX7_bends 7 = .ok (.sipush 780, 3) := by decide +kernel
theorem dX7_bends_10 : decode cX7_bends 10 = .ok (.iload_n 1, 1) := by decide +kernel
theorem dX7_bends_11 : decode cX7_bends 11 = .ok (.isub, 1) := by decide +kernel
theorem dX7_bends_12 : decode cX7_bends 12 = .ok (.bipush 8, 2) := by decide +kernel
theorem dX7_bends_14 : decode cX7_bends 14 = .ok (.idiv, 1) := by decide +kernel
theorem dX7_bends_15 : decode cX7_bends 15 = .ok (.iadd, 1) := by decide +kernel
theorem dX7_bends_16 : decode cX7_bends 16 = .ok (.goto 14, 3) := by decide +kernel
theorem dX7_bends_19 : decode cX7_bends 19 = .ok (.sipush 600, 3) := by decide +kernel
theorem dX7_bends_22 : decode cX7_bends 22 = .ok (.sipush 780, 3) := by decide +kernel
theorem dX7_bends_25 : decode cX7_bends 25 = .ok (.iload_n 1, 1) := by decide +kernel
theorem dX7_bends_26 : decode cX7_bends 26 = .ok (.isub, 1) := by decide +kernel
theorem dX7_bends_27 : decode cX7_bends 27 = .ok (.iconst 3, 1) := by decide +kernel
theorem dX7_bends_28 : decode cX7_bends 28 = .ok (.idiv, 1) := by decide +kernel
theorem dX7_bends_29 : decode cX7_bends 29 = .ok (.iadd, 1) := by decide +kernel
theorem dX7_bends_30 : decode cX7_bends 30 = .ok (.ireturn, 1) := by decide +kernel
set_option maxRecDepth 20000 in
theorem ggX7_goes_X7_floor : GoodIn wsX7_goes wsX7_floor := goodIn_r _ [8] (by decide +kernel) (by decide +kernel)
set_option maxRecDepth 20000 in
theorem gX7_goes_X7_floor : GoodIn wsX7_goes (va_wsS RX7 97 yX7_floor wsX7_floor) := goodIn_app (goodIn_of _ (by decide +kernel)) ggX7_goes_X7_floor
set_option maxRecDepth 20000 in
theorem ggX7_goes_X7_in : GoodIn wsX7_goes wsX7_in := goodIn_r _ [11] (by decide +kernel) (by decide +kernel)
set_option maxRecDepth 20000 in
theorem gX7_goes_X7_in : GoodIn wsX7_goes (va_wsS RX7 47 yX7_in wsX7_in) := goodIn_app (goodIn_of _ (by decide +kernel)) ggX7_goes_X7_in
theorem dX7_goes_0 : decode cX7_goes 0 = .ok (.aload_n 0, 1) := by decide +kernel
theorem dX7_goes_1 : decode cX7_goes 1 = .ok (.dup, 1) := by decide +kernel
theorem dX7_goes_2 : decode cX7_goes 2 = .ok (.getfield 88, 3) := by decide +kernel
theorem dX7_goes_5 : decode cX7_goes 5 = .ok (.aload_n 0, 1) := by decide +kernel
theorem dX7_goes_6 : decode cX7_goes 6 = .ok (.getfield 91, 3) := by decide +kernel
theorem dX7_goes_9 : decode cX7_goes 9 = .ok (.iload_n 1, 1) := by decide +kernel
theorem dX7_goes_10 : decode cX7_goes 10 = .ok (.aload_n 0, 1) := by decide +kernel
theorem dX7_goes_11 : decode cX7_goes 11 = .ok (.getfield 94, 3) := by decide +kernel
theorem dX7_goes_14 : decode cX7_goes 14 = .ok (.isub, 1) := by decide +kernel
theorem dX7_goes_15 : decode cX7_goes 15 = .ok (.imul, 1) := by decide +kernel
theorem dX7_goes_16 : decode cX7_goes 16 = .ok (.sipush 1000, 3) := by decide +kernel
theorem dX7_goes_19 : decode cX7_goes 19 = .ok (.invokestatic 97, 3) := by decide +kernel
theorem dX7_goes_22 : decode cX7_goes 22 = .ok (.iadd, 1) := by decide +kernel
theorem dX7_goes_23 : decode cX7_goes 23 = .ok (.putfield 88, 3) := by decide +kernel
theorem dX7_goes_26 : decode cX7_goes 26 = .ok (.aload_n 0, 1) := by decide +kernel
theorem dX7_goes_27 : decode cX7_goes 27 = .ok (.iload_n 1, 1) := by decide +kernel
theorem dX7_goes_28 : decode cX7_goes 28 = .ok (.putfield 94, 3) := by decide +kernel
theorem dX7_goes_31 : decode cX7_goes 31 = .ok (.aload_n 0, 1) := by decide +kernel
theorem dX7_goes_32 : decode cX7_goes 32 = .ok (.aload_n 0, 1) := by decide +kernel
theorem dX7_goes_33 : decode cX7_goes 33 = .ok (.getfield 88, 3) := by decide +kernel
theorem dX7_goes_36 : decode cX7_goes 36 = .ok (.sipush (-999), 3) := by decide +kernel
theorem dX7_goes_39 : decode cX7_goes 39 = .ok (.sipush 999, 3) := by decide +kernel
theorem dX7_goes_42 : decode cX7_goes 42 = .ok (.invokestatic 47, 3) := by decide +kernel
theorem dX7_goes_45 : decode cX7_goes 45 = .ok (.ifCond .eq 7, 3) := by decide +kernel
theorem dX7_goes_48 : decode cX7_goes 48 = .ok (.iconst 0, 1) := by decide +kernel
theorem dX7_goes_49 : decode cX7_goes 49 = .ok (.goto 4, 3) := by decide +kernel
theorem dX7_goes_52 : decode cX7_goes 52 = .ok (.iconst 2, 1) := by decide +kernel
theorem dX7_goes_53 : decode cX7_goes 53 = .ok (.putfield 100, 3) := by decide +kernel
theorem dX7_goes_56 : decode cX7_goes 56 = .ok (.return_, 1) := by decide +kernel
set_option maxRecDepth 20000 in
theorem ggX7_follows_X7_of : GoodIn wsX7_follows wsX7_of := goodIn_r _ [10, 5, 28, 29, 30, 31, 32, 33, 34, 35, 36, 37, 38, 39, 40, 41, 42, 43, 44, 45, 46, 47, 48] (by decide +kernel) (by decide +kernel)
set_option maxRecDepth 20000 in
theorem gX7_follows_X7_of : GoodIn wsX7_follows (wsV RX7 42 RX7 yX7_of wsX7_of) := goodIn_app (goodIn_of _ (by decide +kernel)) ggX7_follows_X7_of
set_option maxRecDepth 20000 in
theorem ggX7_follows_X7_goes : GoodIn wsX7_follows wsX7_goes := goodIn_r _ [14, 2, 3, 1, 4, 15, 16, 9, 17, 18, 19, 20, 28, 29, 30, 31, 32, 33, 34, 35, 36, 37, 38, 39, 40, 41, 42, 43, 44, 45, 46, 47, 48] (by decide +kernel) (by decide +kernel)
set_option maxRecDepth 20000 in
theorem gX7_follows_X7_goes : GoodIn wsX7_follows (wsV RX7 103 RX7 yX7_goes wsX7_goes) := goodIn_app (goodIn_of _ (by decide +kernel)) ggX7_follows_X7_goes
set_option maxRecDepth 20000 in
theorem ggX7_follows_X7_colour : GoodIn wsX7_follows wsX7_colour := goodIn_r _ [24, 5, 28, 29, 30, 31, 32, 33, 34, 35, 36, 37, 38, 39, 40, 41, 42, 43, 44, 45, 46, 47, 48] (by decide +kernel) (by decide +kernel)
set_option maxRecDepth 20000 in
theorem gX7_follows_X7_colour : GoodIn wsX7_follows (wsV RX7 106 RX7 yX7_colour wsX7_colour) := goodIn_app (goodIn_of _ (by decide +kernel)) ggX7_follows_X7_colour
set_option maxRecDepth 20000 in
theorem ggX7_follows_X7_bends : GoodIn wsX7_follows wsX7_bends := goodIn_r _ [27] (by decide +kernel) (by decide +kernel)
set_option maxRecDepth 20000 in
theorem gX7_follows_X7_bends : GoodIn wsX7_follows (va_wsS RX7 109 yX7_bends wsX7_bends) := goodIn_app (goodIn_of _ (by decide +kernel)) ggX7_follows_X7_bends
set_option maxRecDepth 20000 in
theorem ggX7_follows_X7_in : GoodIn wsX7_follows wsX7_in := goodIn_r _ [20] (by decide +kernel) (by decide +kernel)
set_option maxRecDepth 20000 in
theorem gX7_follows_X7_in : GoodIn wsX7_follows (va_wsS RX7 47 yX7_in wsX7_in) := goodIn_app (goodIn_of _ (by decide +kernel)) ggX7_follows_X7_in
theorem dX7_follows_0 : decode cX7_follows 0 = .ok (.aload_n 0, 1) := by decide +kernel
theorem dX7_follows_1 : decode cX7_follows 1 = .ok (.iconst 0, 1) := by decide +kernel
theorem dX7_follows_2 : decode cX7_follows 2 = .ok (.putfield 94, 3) := by decide +kernel
theorem dX7_follows_5 : decode cX7_follows 5 = .ok (.aload_n 0, 1) := by decide +kernel
theorem dX7_follows_6 : decode cX7_follows 6 = .ok (.iconst 0, 1) := by decide +kernel
theorem dX7_follows_7 : decode cX7_follows 7 = .ok (.putfield 88, 3) := by decide +kernel
theorem dX7_follows_10 : decode cX7_follows 10 = .ok (.aload_n 0, 1) := by decide +kernel
theorem dX7_follows_11 : decode cX7_follows 11 = .ok (.iconst 0, 1) := by decide +kernel
theorem dX7_follows_12 : decode cX7_follows 12 = .ok (.putfield 91, 3) := by decide +kernel
theorem dX7_follows_15 : decode cX7_follows 15 = .ok (.aload_n 0, 1) := by decide +kernel
theorem dX7_follows_16 : decode cX7_follows 16 = .ok (.iconst 0, 1) := by decide +kernel
theorem dX7_follows_17 : decode cX7_follows 17 = .ok (.putfield 100, 3) := by decide +kernel
theorem dX7_follows_20 : decode cX7_follows 20 = .ok (.iconst 0, 1) := by decide +kernel
theorem dX7_follows_21 : decode cX7_follows 21 = .ok (.istore_n 3, 1) := by decide +kernel
theorem dX7_follows_22 : decode cX7_follows 22 = .ok (.iload_n 3, 1) := by decide +kernel
theorem dX7_follows_23 : decode cX7_follows 23 = .ok (.aload_n 0, 1) := by decide +kernel
theorem dX7_follows_24 : decode cX7_follows 24 = .ok (.getfield 7, 3) := by decide +kernel
theorem dX7_follows_27 : decode cX7_follows 27 = .ok (.iconst 1, 1) := by decide +kernel
theorem dX7_follows_28 : decode cX7_follows 28 = .ok (.iaload, 1) := by decide +kernel
theorem dX7_follows_29 : decode cX7_follows 29 = .ok (.if_icmp .ge 133, 3) := by decide +kernel
theorem dX7_follows_32 : decode cX7_follows 32 = .ok (.aload_n 0, 1) := by decide +kernel
theorem dX7_follows_33 : decode cX7_follows 33 = .ok (.getfield 100, 3) := by decide +kernel
theorem dX7_follows_36 : decode cX7_follows 36 = .ok (.ifCond .ne 126, 3) := by decide +kernel
theorem dX7_follows_39 : decode cX7_follows 39 = .ok (.aload_n 0, 1) := by decide +kernel
theorem dX7_follows_40 : decode cX7_follows 40 = .ok (.iload_n 3, 1) := by decide +kernel
theorem dX7_follows_41 : decode cX7_follows 41 = .ok (.iconst 0, 1) := by decide +kernel
theorem dX7_follows_42 : decode cX7_follows 42 = .ok (.invokevirtual 42, 3) := by decide +kernel
theorem dX7_follows_45 : decode cX7_follows 45 = .ok (.iload_n 2, 1) := by decide +kernel
theorem dX7_follows_46 : decode cX7_follows 46 = .ok (.if_icmp .ge 116, 3) := by decide +kernel
theorem dX7_follows_49 : decode cX7_follows 49 = .ok (.aload_n 0, 1) := by decide +kernel
theorem dX7_follows_50 : decode cX7_follows 50 = .ok (.aload_n 0, 1) := by decide +kernel
theorem dX7_follows_51 : decode cX7_follows 51 = .ok (.iload_n 3, 1) := by decide +kernel
theorem dX7_follows_52 : decode cX7_follows 52 = .ok (.iconst 0, 1) := by decide +kernel
theorem dX7_follows_53 : decode cX7_follows 53 = .ok (.invokevirtual 42, 3) := by decide +kernel
theorem dX7_follows_56 : decode cX7_follows 56 = .ok (.invokevirtual 103, 3) := by decide +kernel
theorem dX7_follows_59 : decode cX7_follows 59 = .ok (.aload_n 0, 1) := by decide +kernel
theorem dX7_follows_60 : decode cX7_follows 60 = .ok (.getfield 100, 3) := by decide +kernel
theorem dX7_follows_63 : decode cX7_follows 63 = .ok (.ifCond .ne 55, 3) := by decide +kernel
theorem dX7_follows_66 : decode cX7_follows 66 = .ok (.aload_n 0, 1) := by decide +kernel
theorem dX7_follows_67 : decode cX7_follows 67 = .ok (.iload_n 3, 1) := by decide +kernel
theorem dX7_follows_68 : decode cX7_follows 68 = .ok (.iconst 1, 1) := by decide +kernel
theorem dX7_follows_69 : decode cX7_follows 69 = .ok (.invokevirtual 42, 3) := by decide +kernel
theorem dX7_follows_72 : decode cX7_follows 72 = .ok (.ifCond .ne 46, 3) := by decide +kernel
theorem dX7_follows_75 : decode cX7_follows 75 = .ok (.aload_n 0, 1) := by decide +kernel
theorem dX7_follows_76 : decode cX7_follows 76 = .ok (.dup, 1) := by decide +kernel
theorem dX7_follows_77 : decode cX7_follows 77 = .ok (.getfield 91, 3) := by decide +kernel
theorem dX7_follows_80 : decode cX7_follows 80 = .ok (.aload_n 0, 1) := by decide +kernel
theorem dX7_follows_81 : decode cX7_follows 81 = .ok (.iload_n 3, 1) := by decide +kernel
theorem dX7_follows_82 : decode cX7_follows 82 = .ok (.iconst 4, 1) := by decide +kernel
theorem dX7_follows_83 : decode cX7_follows 83 = .ok (.invokevirtual 42, 3) := by decide +kernel
theorem dX7_follows_86 : decode cX7_follows 86 = .ok (.aload_n 0, 1) := by decide +kernel
theorem dX7_follows_87 : decode cX7_follows 87 = .ok (.iload_n 3, 1) := by decide +kernel
theorem dX7_follows_88 : decode cX7_follows 88 = .ok (.iconst 3, 1) := by decide +kernel
theorem dX7_follows_89 : decode cX7_follows 89 = .ok (.invokevirtual 42, 3) := by decide +kernel
theorem dX7_follows_92 : decode cX7_follows 92 = .ok (.aload_n 0, 1) := by decide +kernel
theorem dX7_follows_93 : decode cX7_follows 93 = .ok (.iload_n 3, 1) := by decide +kernel
theorem dX7_follows_94 : decode cX7_follows 94 = .ok (.iconst 2, 1) := by decide +kernel
theorem dX7_follows_95 : decode cX7_follows 95 = .ok (.invokevirtual 42, 3) := by decide +kernel
theorem dX7_follows_98 : decode cX7_follows 98 = .ok (.aload_n 0, 1) := by decide +kernel
theorem dX7_follows_99 : decode cX7_follows 99 = .ok (.iload_n 1, 1) := by decide +kernel
theorem dX7_follows_100 : decode cX7_follows 100 = .ok (.invokevirtual 106, 3) := by decide +kernel
theorem dX7_follows_103 : decode cX7_follows 103 = .ok (.invokestatic 109, 3) := by decide +kernel
theorem dX7_follows_106 : decode cX7_follows 106 = .ok (.imul, 1) := by decide +kernel
theorem dX7_follows_107 : decode cX7_follows 107 = .ok (.bipush 100, 2) := by decide +kernel
theorem dX7_follows_109 : decode cX7_follows 109 = .ok (.idiv, 1) := by decide +kernel
theorem dX7_follows_110 : decode cX7_follows 110 = .ok (.imul, 1) := by decide +kernel
theorem dX7_follows_111 : decode cX7_follows 111 = .ok (.iadd, 1) := by decide +kernel
theorem dX7_follows_112 : decode cX7_follows 112 = .ok (.putfield 91, 3) := by decide +kernel
theorem dX7_follows_115 : decode cX7_follows 115 = .ok (.goto 41, 3) := by decide +kernel
theorem dX7_follows_118 : decode cX7_follows 118 = .ok (.aload_n 0, 1) := by decide +kernel
theorem dX7_follows_119 : decode cX7_follows 119 = .ok (.getfield 100, 3) := by decide +kernel
theorem dX7_follows_122 : decode cX7_follows 122 = .ok (.ifCond .ne 34, 3) := by decide +kernel
theorem dX7_follows_125 : decode cX7_follows 125 = .ok (.aload_n 0, 1) := by decide +kernel
theorem dX7_follows_126 : decode cX7_follows 126 = .ok (.aload_n 0, 1) := by decide +kernel
theorem dX7_follows_127 : decode cX7_follows 127 = .ok (.getfield 88, 3) := by decide +kernel
theorem dX7_follows_130 : decode cX7_follows 130 = .ok (.aload_n 0, 1) := by decide +kernel
theorem dX7_follows_131 : decode cX7_follows 131 = .ok (.iload_n 3, 1) := by decide +kernel
theorem dX7_follows_132 : decode cX7_follows 132 = .ok (.iconst 2, 1) := by decide +kernel
theorem dX7_follows_133 : decode cX7_follows 133 = .ok (.invokevirtual 42, 3) := by decide +kernel
theorem dX7_follows_136 : decode cX7_follows 136 = .ok (.aload_n 0, 1) := by decide +kernel
theorem dX7_follows_137 : decode cX7_follows 137 = .ok (.iload_n 3, 1) := by decide +kernel
theorem dX7_follows_138 : decode cX7_follows 138 = .ok (.iconst 3, 1) := by decide +kernel
theorem dX7_follows_139 : decode cX7_follows 139 = .ok (.invokevirtual 42, 3) := by decide +kernel
theorem dX7_follows_142 : decode cX7_follows 142 = .ok (.invokestatic 47, 3) := by decide +kernel
theorem dX7_follows_145 : decode cX7_follows 145 = .ok (.ifCond .eq 7, 3) := by decide +kernel
theorem dX7_follows_148 : decode cX7_follows 148 = .ok (.iconst 0, 1) := by decide +kernel
theorem dX7_follows_149 : decode cX7_follows 149 = .ok (.goto 4, 3) := by decide +kernel
theorem dX7_follows_152 : decode cX7_follows 152 = .ok (.iconst 1, 1) := by decide +kernel
theorem dX7_follows_153 : decode cX7_follows 153 = .ok (.putfield 100, 3) := by decide +kernel
theorem dX7_follows_156 : decode cX7_follows 156 = .ok (.iinc 3 1, 3) := by decide +kernel
theorem dX7_follows_159 : decode cX7_follows 159 = .ok (.goto (-137), 3) := by decide +kernel
theorem dX7_follows_162 : decode cX7_follows 162 = .ok (.aload_n 0, 1) := by decide +kernel
theorem dX7_follows_163 : decode cX7_follows 163 = .ok (.getfield 100, 3) := by decide +kernel
theorem dX7_follows_166 : decode cX7_follows 166 = .ok (.ifCond .ne 8, 3) := by decide +kernel
theorem dX7_follows_169 : decode cX7_follows 169 = .ok (.aload_n 0, 1) := by decide +kernel
theorem dX7_follows_170 : decode cX7_follows 170 = .ok (.iload_n 2, 1) := by decide +kernel
theorem dX7_follows_171 : decode cX7_follows 171 = .ok (.invokevirtual 103, 3) := by decide +kernel
theorem dX7_follows_174 : decode cX7_follows 174 = .ok (.return_, 1) := by decide +kernel
set_option maxRecDepth 20000 in
theorem ggX7_cell_X7_floor : GoodIn wsX7_cell wsX7_floor := goodIn_r _ [6] (by decide +kernel) (by decide +kernel)
set_option maxRecDepth 20000 in
theorem gX7_cell_X7_floor : GoodIn wsX7_cell (va_wsS RX7 97 yX7_floor wsX7_floor) := goodIn_app (goodIn_of _ (by decide +kernel)) ggX7_cell_X7_floor
theorem dX7_cell_0 : decode cX7_cell 0 = .ok (.aload_n 0, 1) := by decide +kernel
theorem dX7_cell_1 : decode cX7_cell 1 = .ok (.getfield 88, 3) := by decide +kernel
theorem dX7_cell_4 : decode cX7_cell 4 = .ok (.aload_n 0, 1) := by decide +kernel
theorem dX7_cell_5 : decode cX7_cell 5 = .ok (.getfield 7, 3) := by decide +kernel
theorem dX7_cell_8 : decode cX7_cell 8 = .ok (.iconst 2, 1) := by decide +kernel
theorem dX7_cell_9 : decode cX7_cell 9 = .ok (.iaload, 1) := by decide +kernel
theorem dX7_cell_10 : decode cX7_cell 10 = .ok (.invokestatic 97, 3) := by decide +kernel
theorem dX7_cell_13 : decode cX7_cell 13 = .ok (.ireturn, 1) := by decide +kernel
set_option maxRecDepth 20000 in
theorem ggX7_lineOf_X7_isLine : GoodIn wsX7_lineOf wsX7_isLine := goodIn_r _ [11, 12, 46, 47, 48, 49, 50, 51, 52, 53, 54, 55, 56, 57, 58, 59, 60, 61, 62, 63, 64, 65, 66] (by decide +kernel) (by decide +kernel)
set_option maxRecDepth 20000 in
theorem gX7_lineOf_X7_isLine : GoodIn wsX7_lineOf (wsV RX7 56 RX7 yX7_isLine wsX7_isLine) := goodIn_app (goodIn_of _ (by decide +kernel)) ggX7_lineOf_X7_isLine
set_option maxRecDepth 20000 in
theorem ggX7_lineOf_X7_in : GoodIn wsX7_lineOf wsX7_in := goodIn_r _ [15] (by decide +kernel) (by decide +kernel)
set_option maxRecDepth 20000 in
theorem gX7_lineOf_X7_in : GoodIn wsX7_lineOf (va_wsS RX7 47 yX7_in wsX7_in) := goodIn_app (goodIn_of _ (by decide +kernel)) ggX7_lineOf_X7_in
set_option maxRecDepth 20000 in
theorem ggX7_lineOf_X7_follows : GoodIn wsX7_lineOf wsX7_follows := goodIn_r _ [19, 6, 4, 5, 2, 12, 20, 21, 22, 10, 23, 24, 25, 26, 27, 28, 29, 30, 13, 14, 15, 31, 32, 33, 34, 35, 36, 37, 46, 47, 48, 49, 50, 51, 52, 53, 54, 55, 56, 57, 58, 59, 60, 61, 62, 63, 64, 65, 66] (by decide +kernel) (by decide +kernel)
set_option maxRecDepth 20000 in
theorem gX7_lineOf_X7_follows : GoodIn wsX7_lineOf (wsV RX7 112 RX7 yX7_follows wsX7_follows) := goodIn_app (goodIn_of _ (by decide +kernel)) ggX7_lineOf_X7_follows
set_option maxRecDepth 20000 in
theorem ggX7_lineOf_X7_colour : GoodIn wsX7_lineOf wsX7_colour := goodIn_r _ [34, 12, 46, 47, 48, 49, 50, 51, 52, 53, 54, 55, 56, 57, 58, 59, 60, 61, 62, 63, 64, 65, 66] (by decide +kernel) (by decide +kernel)
set_option maxRecDepth 20000 in
theorem gX7_lineOf_X7_colour : GoodIn wsX7_lineOf (wsV RX7 106 RX7 yX7_colour wsX7_colour) := goodIn_app (goodIn_of _ (by decide +kernel)) ggX7_lineOf_X7_colour
set_option maxRecDepth 20000 in
theorem ggX7_lineOf_X7_lightOf : GoodIn wsX7_lineOf wsX7_lightOf := goodIn_r _ [41, 12, 46, 47, 48, 49, 50, 51, 52, 53, 54, 55, 56, 57, 58, 59, 60, 61, 62, 63, 64, 65, 66] (by decide +kernel) (by decide +kernel)
set_option maxRecDepth 20000 in
theorem gX7_lineOf_X7_lightOf : GoodIn wsX7_lineOf (wsV RX7 60 RX7 yX7_lightOf wsX7_lightOf) := goodIn_app (goodIn_of _ (by decide +kernel)) ggX7_lineOf_X7_lightOf
set_option maxRecDepth 20000 in
theorem ggX7_lineOf_X7_cell : GoodIn wsX7_lineOf wsX7_cell := goodIn_r _ [45, 4, 12, 28, 29, 10, 30, 46, 47, 48, 49, 50, 51, 52, 53, 54, 55, 56, 57, 58, 59, 60, 61, 62, 63, 64, 65, 66] (by decide +kernel) (by decide +kernel)
set_option maxRecDepth 20000 in
theorem gX7_lineOf_X7_cell : GoodIn wsX7_lineOf (wsV RX7 116 RX7 yX7_cell wsX7_cell) := goodIn_app (goodIn_of _ (by decide +kernel)) ggX7_lineOf_X7_cell
theorem dX7_lineOf_0 : decode cX7_lineOf 0 = .ok (.aload_n 0, 1) := by decide +kernel
theorem dX7_lineOf_1 : decode cX7_lineOf 1 = .ok (.iload_n 1, 1) := by decide +kernel
theorem dX7_lineOf_2 : decode cX7_lineOf 2 = .ok (.invokevirtual 56, 3) := by decide +kernel
theorem dX7_lineOf_5 : decode cX7_lineOf 5 = .ok (.ifCond .eq 13, 3) := by decide +kernel
theorem dX7_lineOf_8 : decode cX7_lineOf 8 = .ok (.iload_n 2, 1) := by decide +kernel
theorem dX7_lineOf_9 : decode cX7_lineOf 9 = .ok (.iconst 0, 1) := by decide +kernel
theorem dX7_lineOf_10 : decode cX7_lineOf 10 = .ok (.bipush 7, 2) := by decide +kernel
theorem dX7_lineOf_12 : decode cX7_lineOf 12 = .ok (.invokestatic 47, 3) := by decide +kernel
theorem dX7_lineOf_15 : decode cX7_lineOf 15 = .ok (.ifCond .ne 6, 3) := by decide +kernel
theorem dX7_lineOf_18 : decode cX7_lineOf 18 = .ok (.ldc 51, 2) := by decide +kernel
theorem dX7_lineOf_20 : decode cX7_lineOf 20 = .ok (.ireturn, 1) := by decide +kernel
theorem dX7_lineOf_21 : decode cX7_lineOf 21 = .ok (.aload_n 0, 1) := by decide +kernel
theorem dX7_lineOf_22 : decode cX7_lineOf 22 = .ok (.iload_n 1, 1) := by decide +kernel
theorem dX7_lineOf_23 : decode cX7_lineOf 23 = .ok (.sipush 1000, 3) := by decide +kernel
theorem dX7_lineOf_26 : decode cX7_lineOf 26 = .ok (.invokevirtual 112, 3) := by decide +kernel
theorem dX7_lineOf_29 : decode cX7_lineOf 29 = .ok (.iload_n 2, 1) := by decide +kernel
theorem dX7_lineOf_30 : decode cX7_lineOf 30 = .ok (.iconst 2, 1) := by decide +kernel
theorem dX7_lineOf_31 : decode cX7_lineOf 31 = .ok (.if_icmp .le 32, 3) := by decide +kernel
theorem dX7_lineOf_34 : decode cX7_lineOf 34 = .ok (.iload_n 2, 1) := by decide +kernel
theorem dX7_lineOf_35 : decode cX7_lineOf 35 = .ok (.bipush 6, 2) := by decide +kernel
theorem dX7_lineOf_37 : decode cX7_lineOf 37 = .ok (.if_icmp .ge 7, 3) := by decide +kernel
theorem dX7_lineOf_40 : decode cX7_lineOf 40 = .ok (.iconst 1, 1) := by decide +kernel
theorem dX7_lineOf_41 : decode cX7_lineOf 41 = .ok (.goto 4, 3) := by decide +kernel
theorem dX7_lineOf_44 : decode cX7_lineOf 44 = .ok (.iconst 0, 1) := by decide +kernel
theorem dX7_lineOf_45 : decode cX7_lineOf 45 = .ok (.aload_n 0, 1) := by decide +kernel
theorem dX7_lineOf_46 : decode cX7_lineOf 46 = .ok (.getfield 100, 3) := by decide +kernel
theorem dX7_lineOf_49 : decode cX7_lineOf 49 = .ok (.ifCond .ne 7, 3) := by decide +kernel
theorem dX7_lineOf_52 : decode cX7_lineOf 52 = .ok (.iconst 1, 1) := by decide +kernel
theorem dX7_lineOf_53 : decode cX7_lineOf 53 = .ok (.goto 4, 3) := by decide +kernel
theorem dX7_lineOf_56 : decode cX7_lineOf 56 = .ok (.iconst 0, 1) := by decide +kernel
theorem dX7_lineOf_57 : decode cX7_lineOf 57 = .ok (.if_icmp .eq 6, 3) := by decide +kernel
theorem dX7_lineOf_60 : decode cX7_lineOf 60 = .ok (.ldc 46, 2) := by decide +kernel
theorem dX7_lineOf_62 : decode cX7_lineOf 62 = .ok (.ireturn, 1) := by decide +kernel
theorem dX7_lineOf_63 : decode cX7_lineOf 63 = .ok (.iload_n 2, 1) := by decide +kernel
theorem dX7_lineOf_64 : decode cX7_lineOf 64 = .ok (.tableswitch 89 0 6 #[44, 50, 56, 69, 74, 79, 84], 44) := by decide +kernel
theorem dX7_lineOf_108 : decode cX7_lineOf 108 = .ok (.aload_n 0, 1) := by decide +kernel
theorem dX7_lineOf_109 : decode cX7_lineOf 109 = .ok (.iload_n 1, 1) := by decide +kernel
theorem dX7_lineOf_110 : decode cX7_lineOf 110 = .ok (.invokevirtual 106, 3) := by decide +kernel
theorem dX7_lineOf_113 : decode cX7_lineOf 113 = .ok (.ireturn, 1) := by decide +kernel
theorem dX7_lineOf_114 : decode cX7_lineOf 114 = .ok (.aload_n 0, 1) := by decide +kernel
theorem dX7_lineOf_115 : decode cX7_lineOf 115 = .ok (.iload_n 1, 1) := by decide +kernel
theorem dX7_lineOf_116 : decode cX7_lineOf 116 = .ok (.invokevirtual 60, 3) := by decide +kernel
theorem dX7_lineOf_119 : decode cX7_lineOf 119 = .ok (.ireturn, 1) := by decide +kernel
theorem dX7_lineOf_120 : decode cX7_lineOf 120 = .ok (.aload_n 0, 1) := by decide +kernel
theorem dX7_lineOf_121 : decode cX7_lineOf 121 = .ok (.getfield 100, 3) := by decide +kernel
theorem dX7_lineOf_124 : decode cX7_lineOf 124 = .ok (.ifCond .ne 7, 3) := by decide +kernel
theorem dX7_lineOf_127 : decode cX7_lineOf 127 = .ok (.iconst 1, 1) := by decide +kernel
theorem dX7_lineOf_128 : decode cX7_lineOf 128 = .ok (.goto 4, 3) := by decide +kernel
theorem dX7_lineOf_131 : decode cX7_lineOf 131 = .ok (.iconst 0, 1) := by decide +kernel
theorem dX7_lineOf_132 : decode cX7_lineOf 132 = .ok (.ireturn, 1) := by decide +kernel
theorem dX7_lineOf_133 : decode cX7_lineOf 133 = .ok (.aload_n 0, 1) := by decide +kernel
theorem dX7_lineOf_134 : decode cX7_lineOf 134 = .ok (.getfield 88, 3) := by decide +kernel
theorem dX7_lineOf_137 : decode cX7_lineOf 137 = .ok (.ireturn, 1) := by decide +kernel
theorem dX7_lineOf_138 : decode cX7_lineOf 138 = .ok (.aload_n 0, 1) := by decide +kernel
theorem dX7_lineOf_139 : decode cX7_lineOf 139 = .ok (.getfield 91, 3) := by decide +kernel
theorem dX7_lineOf_142 : decode cX7_lineOf 142 = .ok (.ireturn, 1) := by decide +kernel
theorem dX7_lineOf_143 : decode cX7_lineOf 143 = .ok (.aload_n 0, 1) := by decide +kernel
theorem dX7_lineOf_144 : decode cX7_lineOf 144 = .ok (.invokevirtual 116, 3) := by decide +kernel
theorem dX7_lineOf_147 : decode cX7_lineOf 147 = .ok (.ireturn, 1) := by decide +kernel
theorem dX7_lineOf_148 : decode cX7_lineOf 148 = .ok (.aload_n 0, 1) := by decide +kernel
theorem dX7_lineOf_149 : decode cX7_lineOf 149 = .ok (.getfield 94, 3) := by decide +kernel
theorem dX7_lineOf_152 : decode cX7_lineOf 152 = .ok (.ireturn, 1) := by decide +kernel
theorem dX7_lineOf_153 : decode cX7_lineOf 153 = .ok (.aload_n 0, 1) := by decide +kernel
theorem dX7_lineOf_154 : decode cX7_lineOf 154 = .ok (.getfield 100, 3) := by decide +kernel
theorem dX7_lineOf_157 : decode cX7_lineOf 157 = .ok (.ireturn, 1) := by decide +kernel
set_option maxRecDepth 20000 in
theorem ggX7_coming_X7_follows : GoodIn wsX7_coming wsX7_follows := goodIn_r _ [7, 8, 9, 10, 2, 1, 11, 12, 13, 6, 14, 15, 16, 17, 18, 19, 20, 21, 22, 23, 24, 25, 26, 27, 28, 29, 30, 31, 32, 33, 34, 35, 36, 37, 38, 39, 40, 41, 42, 43, 44, 45, 46, 47, 48, 49, 50, 51, 52] (by decide +kernel) (by decide +kernel)
set_option maxRecDepth 20000 in
theorem gX7_coming_X7_follows : GoodIn wsX7_coming (wsV RX7 112 RX7 yX7_follows wsX7_follows) := goodIn_app (goodIn_of _ (by decide +kernel)) ggX7_coming_X7_follows
theorem dX7_coming_0 : decode cX7_coming 0 = .ok (.iconst 0, 1) := by decide +kernel
theorem dX7_coming_1 : decode cX7_coming 1 = .ok (.istore_n 2, 1) := by decide +kernel
theorem dX7_coming_2 : decode cX7_coming 2 = .ok (.iconst 0, 1) := by decide +kernel
theorem dX7_coming_3 : decode cX7_coming 3 = .ok (.istore_n 3, 1) := by decide +kernel
theorem dX7_coming_4 : decode cX7_coming 4 = .ok (.iload_n 3, 1) := by decide +kernel
theorem dX7_coming_5 : decode cX7_coming 5 = .ok (.aload_n 0, 1) := by decide +kernel
theorem dX7_coming_6 : decode cX7_coming 6 = .ok (.getfield 7, 3) := by decide +kernel
theorem dX7_coming_9 : decode cX7_coming 9 = .ok (.iconst 0, 1) := by decide +kernel
theorem dX7_coming_10 : decode cX7_coming 10 = .ok (.iaload, 1) := by decide +kernel
theorem dX7_coming_11 : decode cX7_coming 11 = .ok (.if_icmp .ge 32, 3) := by decide +kernel
theorem dX7_coming_14 : decode cX7_coming 14 = .ok (.aload_n 0, 1) := by decide +kernel
theorem dX7_coming_15 : decode cX7_coming 15 = .ok (.iload_n 3, 1) := by decide +kernel
theorem dX7_coming_16 : decode cX7_coming 16 = .ok (.iload_n 1, 1) := by decide +kernel
theorem dX7_coming_17 : decode cX7_coming 17 = .ok (.invokevirtual 112, 3) := by decide +kernel
theorem dX7_coming_20 : decode cX7_coming 20 = .ok (.iload_n 2, 1) := by decide +kernel
theorem dX7_coming_21 : decode cX7_coming 21 = .ok (.aload_n 0, 1) := by decide +kernel
theorem dX7_coming_22 : decode cX7_coming 22 = .ok (.getfield 100, 3) := by decide +kernel
theorem dX7_coming_25 : decode cX7_coming 25 = .ok (.ifCond .ne 9, 3) := by decide +kernel
theorem dX7_coming_28 : decode cX7_coming 28 = .ok (.iconst 1, 1) := by decide +kernel
theorem dX7_coming_29 : decode cX7_coming 29 = .ok (.iload_n 3, 1) := by decide +kernel
theorem dX7_coming_30 : decode cX7_coming 30 = .ok (.ishl, 1) := by decide +kernel
theorem dX7_coming_31 : decode cX7_coming 31 = .ok (.goto 4, 3) := by decide +kernel
theorem dX7_coming_34 : decode cX7_coming 34 = .ok (.iconst 0, 1) := by decide +kernel
theorem dX7_coming_35 : decode cX7_coming 35 = .ok (.ior, 1) := by decide +kernel
theorem dX7_coming_36 : decode cX7_coming 36 = .ok (.istore_n 2, 1) := by decide +kernel
theorem dX7_coming_37 : decode cX7_coming 37 = .ok (.iinc 3 1, 3) := by decide +kernel
theorem dX7_coming_40 : decode cX7_coming 40 = .ok (.goto (-36), 3) := by decide +kernel
theorem dX7_coming_43 : decode cX7_coming 43 = .ok (.iload_n 2, 1) := by decide +kernel
theorem dX7_coming_44 : decode cX7_coming 44 = .ok (.ireturn, 1) := by decide +kernel
set_option maxRecDepth 20000 in
theorem ggX7_lightIn_X7_lightOf : GoodIn wsX7_lightIn wsX7_lightOf := goodIn_r _ [6, 1, 7, 8, 9, 10, 11, 12, 13, 14, 15, 16, 17, 18, 19, 20, 21, 22, 23, 24, 25, 26, 27] (by decide +kernel) (by decide +kernel)
set_option maxRecDepth 20000 in
theorem gX7_lightIn_X7_lightOf : GoodIn wsX7_lightIn (wsV RX7 60 RX7 yX7_lightOf wsX7_lightOf) := goodIn_app (goodIn_of _ (by decide +kernel)) ggX7_lightIn_X7_lightOf
theorem dX7_lightIn_0 : decode cX7_lightIn 0 = .ok (.iconst 0, 1) := by decide +kernel
theorem dX7_lightIn_1 : decode cX7_lightIn 1 = .ok (.istore_n 2, 1) := by decide +kernel
theorem dX7_lightIn_2 : decode cX7_lightIn 2 = .ok (.iconst 0, 1) := by decide +kernel
theorem dX7_lightIn_3 : decode cX7_lightIn 3 = .ok (.istore_n 3, 1) := by decide +kernel
theorem dX7_lightIn_4 : decode cX7_lightIn 4 = .ok (.iload_n 3, 1) := by decide +kernel
theorem dX7_lightIn_5 : decode cX7_lightIn 5 = .ok (.aload_n 0, 1) := by decide +kernel
theorem dX7_lightIn_6 : decode cX7_lightIn 6 = .ok (.getfield 7, 3) := by decide +kernel
theorem dX7_lightIn_9 : decode cX7_lightIn 9 = .ok (.iconst 0, 1) := by decide +kernel
theorem dX7_lightIn_10 : decode cX7_lightIn 10 = .ok (.iaload, 1) := by decide +kernel
theorem dX7_lightIn_11 : decode cX7_lightIn 11 = .ok (.if_icmp .ge 30, 3) := by decide +kernel
theorem dX7_lightIn_14 : decode cX7_lightIn 14 = .ok (.iload_n 2, 1) := by decide +kernel
theorem dX7_lightIn_15 : decode cX7_lightIn 15 = .ok (.iload_n 1, 1) := by decide +kernel
theorem dX7_lightIn_16 : decode cX7_lightIn 16 = .ok (.iload_n 3, 1) := by decide +kernel
theorem dX7_lightIn_17 : decode cX7_lightIn 17 = .ok (.ishr, 1) := by decide +kernel
theorem dX7_lightIn_18 : decode cX7_lightIn 18 = .ok (.iconst 1, 1) := by decide +kernel
theorem dX7_lightIn_19 : decode cX7_lightIn 19 = .ok (.iand, 1) := by decide +kernel
theorem dX7_lightIn_20 : decode cX7_lightIn 20 = .ok (.iconst 1, 1) := by decide +kernel
theorem dX7_lightIn_21 : decode cX7_lightIn 21 = .ok (.if_icmp .ne 11, 3) := by decide +kernel
theorem dX7_lightIn_24 : decode cX7_lightIn 24 = .ok (.aload_n 0, 1) := by decide +kernel
theorem dX7_lightIn_25 : decode cX7_lightIn 25 = .ok (.iload_n 3, 1) := by decide +kernel
theorem dX7_lightIn_26 : decode cX7_lightIn 26 = .ok (.invokevirtual 60, 3) := by decide +kernel
theorem dX7_lightIn_29 : decode cX7_lightIn 29 = .ok (.goto 4, 3) := by decide +kernel
theorem dX7_lightIn_32 : decode cX7_lightIn 32 = .ok (.iconst 0, 1) := by decide +kernel
theorem dX7_lightIn_33 : decode cX7_lightIn 33 = .ok (.iadd, 1) := by decide +kernel
theorem dX7_lightIn_34 : decode cX7_lightIn 34 = .ok (.istore_n 2, 1) := by decide +kernel
theorem dX7_lightIn_35 : decode cX7_lightIn 35 = .ok (.iinc 3 1, 3) := by decide +kernel
theorem dX7_lightIn_38 : decode cX7_lightIn 38 = .ok (.goto (-34), 3) := by decide +kernel
theorem dX7_lightIn_41 : decode cX7_lightIn 41 = .ok (.iload_n 2, 1) := by decide +kernel
theorem dX7_lightIn_42 : decode cX7_lightIn 42 = .ok (.ireturn, 1) := by decide +kernel
set_option maxRecDepth 20000 in
theorem ggX7_lostAt_X7_follows : GoodIn wsX7_lostAt wsX7_follows := goodIn_r _ [8, 3, 9, 10, 2, 1, 11, 12, 13, 7, 14, 15, 16, 17, 18, 19, 20, 21, 22, 23, 24, 25, 26, 27, 28, 29, 30, 31, 36, 37, 38, 39, 40, 41, 42, 43, 44, 45, 46, 47, 48, 49, 50, 51, 52, 53, 54, 55, 56] (by decide +kernel) (by decide +kernel)
set_option maxRecDepth 20000 in
theorem gX7_lostAt_X7_follows : GoodIn wsX7_lostAt (wsV RX7 112 RX7 yX7_follows wsX7_follows) := goodIn_app (goodIn_of _ (by decide +kernel)) ggX7_lostAt_X7_follows
set_option maxRecDepth 20000 in
theorem ggX7_lostAt_X7_lightOf : GoodIn wsX7_lostAt wsX7_lightOf := goodIn_r _ [35, 1, 36, 37, 38, 39, 40, 41, 42, 43, 44, 45, 46, 47, 48, 49, 50, 51, 52, 53, 54, 55, 56] (by decide +kernel) (by decide +kernel)
set_option maxRecDepth 20000 in
theorem gX7_lostAt_X7_lightOf : GoodIn wsX7_lostAt (wsV RX7 60 RX7 yX7_lightOf wsX7_lightOf) := goodIn_app (goodIn_of _ (by decide +kernel)) ggX7_lostAt_X7_lightOf
theorem dX7_lostAt_0 : decode cX7_lostAt 0 = .ok (.iconst 0, 1) := by decide +kernel
theorem dX7_lostAt_1 : decode cX7_lostAt 1 = .ok (.istore_n 2, 1) := by decide +kernel
theorem dX7_lostAt_2 : decode cX7_lostAt 2 = .ok (.iconst 0, 1) := by decide +kernel
theorem dX7_lostAt_3 : decode cX7_lostAt 3 = .ok (.istore_n 3, 1) := by decide +kernel
theorem dX7_lostAt_4 : decode cX7_lostAt 4 = .ok (.iload_n 3, 1) := by decide +kernel
theorem dX7_lostAt_5 : decode cX7_lostAt 5 = .ok (.aload_n 0, 1) := by decide +kernel
theorem dX7_lostAt_6 : decode cX7_lostAt 6 = .ok (.getfield 7, 3) := by decide +kernel
theorem dX7_lostAt_9 : decode cX7_lostAt 9 = .ok (.iconst 0, 1) := by decide +kernel
theorem dX7_lostAt_10 : decode cX7_lostAt 10 = .ok (.iaload, 1) := by decide +kernel
theorem dX7_lostAt_11 : decode cX7_lostAt 11 = .ok (.if_icmp .ge 44, 3) := by decide +kernel
theorem dX7_lostAt_14 : decode cX7_lostAt 14 = .ok (.aload_n 0, 1) := by decide +kernel
theorem dX7_lostAt_15 : decode cX7_lostAt 15 = .ok (.iload_n 3, 1) := by decide +kernel
theorem dX7_lostAt_16 : decode cX7_lostAt 16 = .ok (.sipush 1000, 3) := by decide +kernel
theorem dX7_lostAt_19 : decode cX7_lostAt 19 = .ok (.invokevirtual 112, 3) := by decide +kernel
theorem dX7_lostAt_22 : decode cX7_lostAt 22 = .ok (.iload_n 2, 1) := by decide +kernel
theorem dX7_lostAt_23 : decode cX7_lostAt 23 = .ok (.aload_n 0, 1) := by decide +kernel
theorem dX7_lostAt_24 : decode cX7_lostAt 24 = .ok (.getfield 100, 3) := by decide +kernel
theorem dX7_lostAt_27 : decode cX7_lostAt 27 = .ok (.ifCond .le 19, 3) := by decide +kernel
theorem dX7_lostAt_30 : decode cX7_lostAt 30 = .ok (.aload_n 0, 1) := by decide +kernel
theorem dX7_lostAt_31 : decode cX7_lostAt 31 = .ok (.getfield 94, 3) := by decide +kernel
theorem dX7_lostAt_34 : decode cX7_lostAt 34 = .ok (.iload_n 1, 1) := by decide +kernel
theorem dX7_lostAt_35 : decode cX7_lostAt 35 = .ok (.if_icmp .ne 11, 3) := by decide +kernel
theorem dX7_lostAt_38 : decode cX7_lostAt 38 = .ok (.aload_n 0, 1) := by decide +kernel
theorem dX7_lostAt_39 : decode cX7_lostAt 39 = .ok (.iload_n 3, 1) := by decide +kernel
theorem dX7_lostAt_40 : decode cX7_lostAt 40 = .ok (.invokevirtual 60, 3) := by decide +kernel
theorem dX7_lostAt_43 : decode cX7_lostAt 43 = .ok (.goto 4, 3) := by decide +kernel
theorem dX7_lostAt_46 : decode cX7_lostAt 46 = .ok (.iconst 0, 1) := by decide +kernel
theorem dX7_lostAt_47 : decode cX7_lostAt 47 = .ok (.iadd, 1) := by decide +kernel
theorem dX7_lostAt_48 : decode cX7_lostAt 48 = .ok (.istore_n 2, 1) := by decide +kernel
theorem dX7_lostAt_49 : decode cX7_lostAt 49 = .ok (.iinc 3 1, 3) := by decide +kernel
theorem dX7_lostAt_52 : decode cX7_lostAt 52 = .ok (.goto (-48), 3) := by decide +kernel
theorem dX7_lostAt_55 : decode cX7_lostAt 55 = .ok (.iload_n 2, 1) := by decide +kernel
theorem dX7_lostAt_56 : decode cX7_lostAt 56 = .ok (.ireturn, 1) := by decide +kernel
set_option maxRecDepth 20000 in
theorem ggX7_thing_X7_in : GoodIn wsX7_thing wsX7_in := goodIn_r _ [7] (by decide +kernel) (by decide +kernel)
set_option maxRecDepth 20000 in
theorem gX7_thing_X7_in : GoodIn wsX7_thing (va_wsS RX7 47 yX7_in wsX7_in) := goodIn_app (goodIn_of _ (by decide +kernel)) ggX7_thing_X7_in
set_option maxRecDepth 20000 in
theorem ggX7_thing_X7_of : GoodIn wsX7_thing wsX7_of := goodIn_r _ [11, 2, 46, 47, 48, 49, 50, 51, 52, 53, 54, 55, 56, 57, 58, 59, 60, 61, 62, 63, 64, 65, 66] (by decide +kernel) (by decide +kernel)
set_option maxRecDepth 20000 in
theorem gX7_thing_X7_of : GoodIn wsX7_thing (wsV RX7 42 RX7 yX7_of wsX7_of) := goodIn_app (goodIn_of _ (by decide +kernel)) ggX7_thing_X7_of
set_option maxRecDepth 20000 in
theorem ggX7_thing_X7_coming : GoodIn wsX7_thing wsX7_coming := goodIn_r _ [15, 2, 16, 17, 18, 19, 6, 20, 21, 22, 23, 8, 9, 10, 11, 24, 25, 26, 27, 28, 29, 30, 4, 5, 7, 31, 32, 33, 34, 35, 36, 37, 46, 47, 48, 49, 50, 51, 52, 53, 54, 55, 56, 57, 58, 59, 60, 61, 62, 63, 64, 65, 66] (by decide +kernel) (by decide +kernel)
set_option maxRecDepth 20000 in
theorem gX7_thing_X7_coming : GoodIn wsX7_thing (wsV RX7 120 RX7 yX7_coming wsX7_coming) := goodIn_app (goodIn_of _ (by decide +kernel)) ggX7_thing_X7_coming
set_option maxRecDepth 20000 in
theorem ggX7_thing_X7_lostAt : GoodIn wsX7_thing wsX7_lostAt := goodIn_r _ [41, 2, 16, 21, 17, 18, 19, 6, 20, 22, 23, 8, 9, 10, 11, 24, 25, 26, 27, 28, 29, 30, 4, 5, 7, 31, 32, 33, 34, 35, 36, 37, 42, 43, 44, 45, 46, 47, 48, 49, 50, 51, 52, 53, 54, 55, 56, 57, 58, 59, 60, 61, 62, 63, 64, 65, 66] (by decide +kernel) (by decide +kernel)
set_option maxRecDepth 20000 in
theorem gX7_thing_X7_lostAt : GoodIn wsX7_thing (wsV RX7 123 RX7 yX7_lostAt wsX7_lostAt) := goodIn_app (goodIn_of _ (by decide +kernel)) ggX7_thing_X7_lostAt
theorem dX7_thing_0 : decode cX7_thing 0 = .ok (.iload_n 1, 1) := by decide +kernel
theorem dX7_thing_1 : decode cX7_thing 1 = .ok (.ifCond .lt 13, 3) := by decide +kernel
theorem dX7_thing_4 : decode cX7_thing 4 = .ok (.iload_n 2, 1) := by decide +kernel
theorem dX7_thing_5 : decode cX7_thing 5 = .ok (.iconst 0, 1) := by decide +kernel
theorem dX7_thing_6 : decode cX7_thing 6 = .ok (.bipush 6, 2) := by decide +kernel
theorem dX7_thing_8 : decode cX7_thing 8 = .ok (.invokestatic 47, 3) := by decide +kernel
theorem dX7_thing_11 : decode cX7_thing 11 = .ok (.ifCond .ne 6, 3) := by decide +kernel
theorem dX7_thing_14 : decode cX7_thing 14 = .ok (.ldc 51, 2) := by decide +kernel
theorem dX7_thing_16 : decode cX7_thing 16 = .ok (.ireturn, 1) := by decide +kernel
theorem dX7_thing_17 : decode cX7_thing 17 = .ok (.iload_n 1, 1) := by decide +kernel
theorem dX7_thing_18 : decode cX7_thing 18 = .ok (.aload_n 0, 1) := by decide +kernel
theorem dX7_thing_19 : decode cX7_thing 19 = .ok (.getfield 7, 3) := by decide +kernel
theorem dX7_thing_22 : decode cX7_thing 22 = .ok (.iconst 1, 1) := by decide +kernel
theorem dX7_thing_23 : decode cX7_thing 23 = .ok (.iaload, 1) := by decide +kernel
theorem dX7_thing_24 : decode cX7_thing 24 = .ok (.if_icmp .lt 6, 3) := by decide +kernel
theorem dX7_thing_27 : decode cX7_thing 27 = .ok (.ldc 46, 2) := by decide +kernel
theorem dX7_thing_29 : decode cX7_thing 29 = .ok (.ireturn, 1) := by decide +kernel
theorem dX7_thing_30 : decode cX7_thing 30 = .ok (.iload_n 2, 1) := by decide +kernel
theorem dX7_thing_31 : decode cX7_thing 31 = .ok (.tableswitch 78 4 6 #[25, 56, 67], 25) := by decide +kernel
theorem dX7_thing_56 : decode cX7_thing 56 = .ok (.aload_n 0, 1) := by decide +kernel
theorem dX7_thing_57 : decode cX7_thing 57 = .ok (.iload_n 1, 1) := by decide +kernel
theorem dX7_thing_58 : decode cX7_thing 58 = .ok (.iconst 1, 1) := by decide +kernel
theorem dX7_thing_59 : decode cX7_thing 59 = .ok (.invokevirtual 42, 3) := by decide +kernel
theorem dX7_thing_62 : decode cX7_thing 62 = .ok (.iconst 1, 1) := by decide +kernel
theorem dX7_thing_63 : decode cX7_thing 63 = .ok (.if_icmp .ne 8, 3) := by decide +kernel
theorem dX7_thing_66 : decode cX7_thing 66 = .ok (.ldc 46, 2) := by decide +kernel
theorem dX7_thing_68 : decode cX7_thing 68 = .ok (.goto 18, 3) := by decide +kernel
theorem dX7_thing_71 : decode cX7_thing 71 = .ok (.aload_n 0, 1) := by decide +kernel
theorem dX7_thing_72 : decode cX7_thing 72 = .ok (.iload_n 1, 1) := by decide +kernel
theorem dX7_thing_73 : decode cX7_thing 73 = .ok (.iconst 4, 1) := by decide +kernel
theorem dX7_thing_74 : decode cX7_thing 74 = .ok (.invokevirtual 42, 3) := by decide +kernel
theorem dX7_thing_77 : decode cX7_thing 77 = .ok (.iconst 1, 1) := by decide +kernel
theorem dX7_thing_78 : decode cX7_thing 78 = .ok (.if_icmp .ne 7, 3) := by decide +kernel
theorem dX7_thing_81 : decode cX7_thing 81 = .ok (.iconst 1, 1) := by decide +kernel
theorem dX7_thing_82 : decode cX7_thing 82 = .ok (.goto 4, 3) := by decide +kernel
theorem dX7_thing_85 : decode cX7_thing 85 = .ok (.iconst 2, 1) := by decide +kernel
theorem dX7_thing_86 : decode cX7_thing 86 = .ok (.ireturn, 1) := by decide +kernel
theorem dX7_thing_87 : decode cX7_thing 87 = .ok (.aload_n 0, 1) := by decide +kernel
theorem dX7_thing_88 : decode cX7_thing 88 = .ok (.aload_n 0, 1) := by decide +kernel
theorem dX7_thing_89 : decode cX7_thing 89 = .ok (.iload_n 1, 1) := by decide +kernel
theorem dX7_thing_90 : decode cX7_thing 90 = .ok (.iconst 0, 1) := by decide +kernel
theorem dX7_thing_91 : decode cX7_thing 91 = .ok (.invokevirtual 42, 3) := by decide +kernel
theorem dX7_thing_94 : decode cX7_thing 94 = .ok (.invokevirtual 120, 3) := by decide +kernel
theorem dX7_thing_97 : decode cX7_thing 97 = .ok (.ireturn, 1) := by decide +kernel
theorem dX7_thing_98 : decode cX7_thing 98 = .ok (.aload_n 0, 1) := by decide +kernel
theorem dX7_thing_99 : decode cX7_thing 99 = .ok (.aload_n 0, 1) := by decide +kernel
theorem dX7_thing_100 : decode cX7_thing 100 = .ok (.iload_n 1, 1) := by decide +kernel
theorem dX7_thing_101 : decode cX7_thing 101 = .ok (.iconst 0, 1) := by decide +kernel
theorem dX7_thing_102 : decode cX7_thing 102 = .ok (.invokevirtual 42, 3) := by decide +kernel
theorem dX7_thing_105 : decode cX7_thing 105 = .ok (.invokevirtual 123, 3) := by decide +kernel
theorem dX7_thing_108 : decode cX7_thing 108 = .ok (.ireturn, 1) := by decide +kernel
theorem dX7_thing_109 : decode cX7_thing 109 = .ok (.aload_n 0, 1) := by decide +kernel
theorem dX7_thing_110 : decode cX7_thing 110 = .ok (.iload_n 1, 1) := by decide +kernel
theorem dX7_thing_111 : decode cX7_thing 111 = .ok (.iload_n 2, 1) := by decide +kernel
theorem dX7_thing_112 : decode cX7_thing 112 = .ok (.invokevirtual 42, 3) := by decide +kernel
theorem dX7_thing_115 : decode cX7_thing 115 = .ok (.ireturn, 1) := by decide +kernel
set_option maxRecDepth 20000 in
theorem ggX7_height_X7_isLine : GoodIn wsX7_height wsX7_isLine := goodIn_r _ [9, 10, 38, 39, 40, 41, 42, 43, 44, 45, 46, 47, 48, 49, 50, 51, 52, 53, 54, 55, 56, 57, 58] (by decide +kernel) (by decide +kernel)
set_option maxRecDepth 20000 in
theorem gX7_height_X7_isLine : GoodIn wsX7_height (wsV RX7 56 RX7 yX7_isLine wsX7_isLine) := goodIn_app (goodIn_of _ (by decide +kernel)) ggX7_height_X7_isLine
set_option maxRecDepth 20000 in
theorem ggX7_height_X7_in : GoodIn wsX7_height wsX7_in := goodIn_r _ [13] (by decide +kernel) (by decide +kernel)
set_option maxRecDepth 20000 in
theorem gX7_height_X7_in : GoodIn wsX7_height (va_wsS RX7 47 yX7_in wsX7_in) := goodIn_app (goodIn_of _ (by decide +kernel)) ggX7_height_X7_in
set_option maxRecDepth 20000 in
theorem ggX7_height_X7_follows : GoodIn wsX7_height wsX7_follows := goodIn_r _ [17, 18, 3, 19, 2, 10, 20, 21, 22, 8, 23, 24, 25, 26, 27, 28, 29, 30, 11, 12, 13, 31, 32, 33, 34, 35, 36, 37, 38, 39, 40, 41, 42, 43, 44, 45, 46, 47, 48, 49, 50, 51, 52, 53, 54, 55, 56, 57, 58] (by decide +kernel) (by decide +kernel)
set_option maxRecDepth 20000 in
theorem gX7_height_X7_follows : GoodIn wsX7_height (wsV RX7 112 RX7 yX7_follows wsX7_follows) := goodIn_app (goodIn_of _ (by decide +kernel)) ggX7_height_X7_follows
theorem dX7_height_0 : decode cX7_height 0 = .ok (.aload_n 0, 1) := by decide +kernel
theorem dX7_height_1 : decode cX7_height 1 = .ok (.iload_n 1, 1) := by decide +kernel
theorem dX7_height_2 : decode cX7_height 2 = .ok (.invokevirtual 56, 3) := by decide +kernel
theorem dX7_height_5 : decode cX7_height 5 = .ok (.ifCond .eq 14, 3) := by decide +kernel
theorem dX7_height_8 : decode cX7_height 8 = .ok (.iload_n 2, 1) := by decide +kernel
theorem dX7_height_9 : decode cX7_height 9 = .ok (.iconst 0, 1) := by decide +kernel
theorem dX7_height_10 : decode cX7_height 10 = .ok (.sipush 1000, 3) := by decide +kernel
theorem dX7_height_13 : decode cX7_height 13 = .ok (.invokestatic 47, 3) := by decide +kernel
theorem dX7_height_16 : decode cX7_height 16 = .ok (.ifCond .ne 6, 3) := by decide +kernel
theorem dX7_height_19 : decode cX7_height 19 = .ok (.ldc 51, 2) := by decide +kernel
theorem dX7_height_21 : decode cX7_height 21 = .ok (.ireturn, 1) := by decide +kernel
theorem dX7_height_22 : decode cX7_height 22 = .ok (.aload_n 0, 1) := by decide +kernel
theorem dX7_height_23 : decode cX7_height 23 = .ok (.iload_n 1, 1) := by decide +kernel
theorem dX7_height_24 : decode cX7_height 24 = .ok (.iload_n 2, 1) := by decide +kernel
theorem dX7_height_25 : decode cX7_height 25 = .ok (.invokevirtual 112, 3) := by decide +kernel
theorem dX7_height_28 : decode cX7_height 28 = .ok (.aload_n 0, 1) := by decide +kernel
theorem dX7_height_29 : decode cX7_height 29 = .ok (.getfield 100, 3) := by decide +kernel
theorem dX7_height_32 : decode cX7_height 32 = .ok (.ifCond .ne 10, 3) := by decide +kernel
theorem dX7_height_35 : decode cX7_height 35 = .ok (.aload_n 0, 1) := by decide +kernel
theorem dX7_height_36 : decode cX7_height 36 = .ok (.getfield 88, 3) := by decide +kernel
theorem dX7_height_39 : decode cX7_height 39 = .ok (.goto 5, 3) := by decide +kernel
theorem dX7_height_42 : decode cX7_height 42 = .ok (.ldc 46, 2) := by decide +kernel
theorem dX7_height_44 : decode cX7_height 44 = .ok (.ireturn, 1) := by decide +kernel
set_option maxRecDepth 20000 in
theorem ggX7_inCell_X7_follows : GoodIn wsX7_inCell wsX7_follows := goodIn_r _ [7, 8, 9, 10, 2, 1, 11, 12, 13, 6, 14, 15, 16, 17, 18, 19, 20, 21, 22, 23, 24, 25, 26, 27, 28, 29, 30, 31, 36, 37, 38, 39, 40, 41, 42, 43, 44, 45, 46, 47, 48, 49, 50, 51, 52, 53, 54, 55, 56] (by decide +kernel) (by decide +kernel)
set_option maxRecDepth 20000 in
theorem gX7_inCell_X7_follows : GoodIn wsX7_inCell (wsV RX7 112 RX7 yX7_follows wsX7_follows) := goodIn_app (goodIn_of _ (by decide +kernel)) ggX7_inCell_X7_follows
set_option maxRecDepth 20000 in
theorem ggX7_inCell_X7_cell : GoodIn wsX7_inCell wsX7_cell := goodIn_r _ [35, 9, 1, 19, 20, 6, 21, 36, 37, 38, 39, 40, 41, 42, 43, 44, 45, 46, 47, 48, 49, 50, 51, 52, 53, 54, 55, 56] (by decide +kernel) (by decide +kernel)
set_option maxRecDepth 20000 in
theorem gX7_inCell_X7_cell : GoodIn wsX7_inCell (wsV RX7 116 RX7 yX7_cell wsX7_cell) := goodIn_app (goodIn_of _ (by decide +kernel)) ggX7_inCell_X7_cell
theorem dX7_inCell_0 : decode cX7_inCell 0 = .ok (.iconst 0, 1) := by decide +kernel
theorem dX7_inCell_1 : decode cX7_inCell 1 = .ok (.istore_n 2, 1) := by decide +kernel
theorem dX7_inCell_2 : decode cX7_inCell 2 = .ok (.iconst 0, 1) := by decide +kernel
theorem dX7_inCell_3 : decode cX7_inCell 3 = .ok (.istore_n 3, 1) := by decide +kernel
theorem dX7_inCell_4 : decode cX7_inCell 4 = .ok (.iload_n 3, 1) := by decide +kernel
theorem dX7_inCell_5 : decode cX7_inCell 5 = .ok (.aload_n 0, 1) := by decide +kernel
theorem dX7_inCell_6 : decode cX7_inCell 6 = .ok (.getfield 7, 3) := by decide +kernel
theorem dX7_inCell_9 : decode cX7_inCell 9 = .ok (.iconst 0, 1) := by decide +kernel
theorem dX7_inCell_10 : decode cX7_inCell 10 = .ok (.iaload, 1) := by decide +kernel
theorem dX7_inCell_11 : decode cX7_inCell 11 = .ok (.if_icmp .ge 42, 3) := by decide +kernel
theorem dX7_inCell_14 : decode cX7_inCell 14 = .ok (.aload_n 0, 1) := by decide +kernel
theorem dX7_inCell_15 : decode cX7_inCell 15 = .ok (.iload_n 3, 1) := by decide +kernel
theorem dX7_inCell_16 : decode cX7_inCell 16 = .ok (.sipush 1000, 3) := by decide +kernel
theorem dX7_inCell_19 : decode cX7_inCell 19 = .ok (.invokevirtual 112, 3) := by decide +kernel
theorem dX7_inCell_22 : decode cX7_inCell 22 = .ok (.iload_n 2, 1) := by decide +kernel
theorem dX7_inCell_23 : decode cX7_inCell 23 = .ok (.aload_n 0, 1) := by decide +kernel
theorem dX7_inCell_24 : decode cX7_inCell 24 = .ok (.getfield 100, 3) := by decide +kernel
theorem dX7_inCell_27 : decode cX7_inCell 27 = .ok (.ifCond .ne 17, 3) := by decide +kernel
theorem dX7_inCell_30 : decode cX7_inCell 30 = .ok (.aload_n 0, 1) := by decide +kernel
theorem dX7_inCell_31 : decode cX7_inCell 31 = .ok (.invokevirtual 116, 3) := by decide +kernel
theorem dX7_inCell_34 : decode cX7_inCell 34 = .ok (.iload_n 1, 1) := by decide +kernel
theorem dX7_inCell_35 : decode cX7_inCell 35 = .ok (.if_icmp .ne 9, 3) := by decide +kernel
theorem dX7_inCell_38 : decode cX7_inCell 38 = .ok (.iconst 1, 1) := by decide +kernel
theorem dX7_inCell_39 : decode cX7_inCell 39 = .ok (.iload_n 3, 1) := by decide +kernel
theorem dX7_inCell_40 : decode cX7_inCell 40 = .ok (.ishl, 1) := by decide +kernel
theorem dX7_inCell_41 : decode cX7_inCell 41 = .ok (.goto 4, 3) := by decide +kernel
theorem dX7_inCell_44 : decode cX7_inCell 44 = .ok (.iconst 0, 1) := by decide +kernel
theorem dX7_inCell_45 : decode cX7_inCell 45 = .ok (.ior, 1) := by decide +kernel
theorem dX7_inCell_46 : decode cX7_inCell 46 = .ok (.istore_n 2, 1) := by decide +kernel
theorem dX7_inCell_47 : decode cX7_inCell 47 = .ok (.iinc 3 1, 3) := by decide +kernel
theorem dX7_inCell_50 : decode cX7_inCell 50 = .ok (.goto (-46), 3) := by decide +kernel
theorem dX7_inCell_53 : decode cX7_inCell 53 = .ok (.iload_n 2, 1) := by decide +kernel
theorem dX7_inCell_54 : decode cX7_inCell 54 = .ok (.ireturn, 1) := by decide +kernel
set_option maxRecDepth 20000 in
theorem ggX7_light_X7_in : GoodIn wsX7_light wsX7_in := goodIn_r _ [5] (by decide +kernel) (by decide +kernel)
set_option maxRecDepth 20000 in
theorem gX7_light_X7_in : GoodIn wsX7_light (va_wsS RX7 47 yX7_in wsX7_in) := goodIn_app (goodIn_of _ (by decide +kernel)) ggX7_light_X7_in
set_option maxRecDepth 20000 in
theorem ggX7_light_X7_inCell : GoodIn wsX7_light wsX7_inCell := goodIn_r _ [9, 10, 11, 12, 13, 14, 4, 15, 16, 17, 18, 19, 20, 21, 22, 23, 24, 25, 26, 27, 28, 29, 2, 3, 5, 30, 31, 32, 33, 34, 35, 36, 37, 38, 39, 40, 49, 50, 51, 52, 53, 54, 55, 56, 57, 58, 59, 60, 61, 62, 63, 64, 65, 66, 67, 68, 69] (by decide +kernel) (by decide +kernel)
set_option maxRecDepth 20000 in
theorem gX7_light_X7_inCell : GoodIn wsX7_light (wsV RX7 126 RX7 yX7_inCell wsX7_inCell) := goodIn_app (goodIn_of _ (by decide +kernel)) ggX7_light_X7_inCell
set_option maxRecDepth 20000 in
theorem ggX7_light_X7_lightIn : GoodIn wsX7_light wsX7_lightIn := goodIn_r _ [44, 10, 45, 46, 47, 4, 48, 49, 50, 51, 52, 53, 54, 55, 56, 57, 58, 59, 60, 61, 62, 63, 64, 65, 66, 67, 68, 69] (by decide +kernel) (by decide +kernel)
set_option maxRecDepth 20000 in
theorem gX7_light_X7_lightIn : GoodIn wsX7_light (wsV RX7 129 RX7 yX7_lightIn wsX7_lightIn) := goodIn_app (goodIn_of _ (by decide +kernel)) ggX7_light_X7_lightIn
theorem dX7_light_0 : decode cX7_light 0 = .ok (.iload_n 1, 1) := by decide +kernel
theorem dX7_light_1 : decode cX7_light 1 = .ok (.sipush (-9999), 3) := by decide +kernel
theorem dX7_light_4 : decode cX7_light 4 = .ok (.sipush 9999, 3) := by decide +kernel
theorem dX7_light_7 : decode cX7_light 7 = .ok (.invokestatic 47, 3) := by decide +kernel
theorem dX7_light_10 : decode cX7_light 10 = .ok (.ifCond .eq 15, 3) := by decide +kernel
theorem dX7_light_13 : decode cX7_light 13 = .ok (.aload_n 0, 1) := by decide +kernel
theorem dX7_light_14 : decode cX7_light 14 = .ok (.aload_n 0, 1) := by decide +kernel
theorem dX7_light_15 : decode cX7_light 15 = .ok (.iload_n 1, 1) := by decide +kernel
theorem dX7_light_16 : decode cX7_light 16 = .ok (.invokevirtual 126, 3) := by decide +kernel
theorem dX7_light_19 : decode cX7_light 19 = .ok (.invokevirtual 129, 3) := by decide +kernel
theorem dX7_light_22 : decode cX7_light 22 = .ok (.goto 5, 3) := by decide +kernel
theorem dX7_light_25 : decode cX7_light 25 = .ok (.ldc 51, 2) := by decide +kernel
theorem dX7_light_27 : decode cX7_light 27 = .ok (.ireturn, 1) := by decide +kernel
set_option maxRecDepth 20000 in
theorem ggX7_laysCells_X7_follows : GoodIn wsX7_laysCells wsX7_follows := goodIn_r _ [9, 10, 11, 12, 2, 1, 13, 14, 15, 8, 16, 17, 18, 19, 20, 21, 22, 23, 24, 25, 26, 27, 28, 29, 30, 31, 32, 33, 42, 43, 44, 45, 46, 47, 48, 49, 50, 51, 52, 53, 54, 55, 56, 57, 58, 59, 60, 61, 62] (by decide +kernel) (by decide +kernel)
set_option maxRecDepth 20000 in
theorem gX7_laysCells_X7_follows : GoodIn wsX7_laysCells (wsV RX7 112 RX7 yX7_follows wsX7_follows) := goodIn_app (goodIn_of _ (by decide +kernel)) ggX7_laysCells_X7_follows
set_option maxRecDepth 20000 in
theorem ggX7_laysCells_X7_cell : GoodIn wsX7_laysCells wsX7_cell := goodIn_r _ [37, 11, 1, 21, 22, 8, 23, 42, 43, 44, 45, 46, 47, 48, 49, 50, 51, 52, 53, 54, 55, 56, 57, 58, 59, 60, 61, 62] (by decide +kernel) (by decide +kernel)
set_option maxRecDepth 20000 in
theorem gX7_laysCells_X7_cell : GoodIn wsX7_laysCells (wsV RX7 116 RX7 yX7_cell wsX7_cell) := goodIn_app (goodIn_of _ (by decide +kernel)) ggX7_laysCells_X7_cell
set_option maxRecDepth 20000 in
theorem ggX7_laysCells_X7_inCell : GoodIn wsX7_laysCells wsX7_inCell := goodIn_r _ [41, 1, 2, 5, 6, 7, 8, 9, 10, 11, 12, 13, 14, 15, 16, 17, 18, 19, 20, 21, 22, 23, 24, 25, 26, 27, 28, 29, 30, 31, 32, 33, 34, 35, 36, 37, 42, 43, 44, 45, 46, 47, 48, 49, 50, 51, 52, 53, 54, 55, 56, 57, 58, 59, 60, 61, 62] (by decide +kernel) (by decide +kernel)
set_option maxRecDepth 20000 in
theorem gX7_laysCells_X7_inCell : GoodIn wsX7_laysCells (wsV RX7 126 RX7 yX7_inCell wsX7_inCell) := goodIn_app (goodIn_of _ (by decide +kernel)) ggX7_laysCells_X7_inCell
theorem dX7_laysCells_0 : decode cX7_laysCells 0 = .ok (.iconst 0, 1) := by decide +kernel
theorem dX7_laysCells_1 : decode cX7_laysCells 1 = .ok (.istore_n 1, 1) := by decide +kernel
theorem dX7_laysCells_2 : decode cX7_laysCells 2 = .ok (.iconst 0, 1) := by decide +kernel
theorem dX7_laysCells_3 : decode cX7_laysCells 3 = .ok (.istore_n 2, 1) := by decide +kernel
theorem dX7_laysCells_4 : decode cX7_laysCells 4 = .ok (.iconst 0, 1) := by decide +kernel
theorem dX7_laysCells_5 : decode cX7_laysCells 5 = .ok (.istore_n 3, 1) := by decide +kernel
theorem dX7_laysCells_6 : decode cX7_laysCells 6 = .ok (.iload_n 3, 1) := by decide +kernel
theorem dX7_laysCells_7 : decode cX7_laysCells 7 = .ok (.aload_n 0, 1) := by decide +kernel
theorem dX7_laysCells_8 : decode cX7_laysCells 8 = .ok (.getfield 7, 3) := by decide +kernel
theorem dX7_laysCells_11 : decode cX7_laysCells 11 = .ok (.iconst 0, 1) := by decide +kernel
theorem dX7_laysCells_12 : decode cX7_laysCells 12 = .ok (.iaload, 1) := by decide +kernel
theorem dX7_laysCells_13 : decode cX7_laysCells 13 = .ok (.if_icmp .ge 70, 3) := by decide +kernel
theorem dX7_laysCells_16 : decode cX7_laysCells 16 = .ok (.aload_n 0, 1) := by decide +kernel
theorem dX7_laysCells_17 : decode cX7_laysCells 17 = .ok (.iload_n 3, 1) := by decide +kernel
theorem dX7_laysCells_18 : decode cX7_laysCells 18 = .ok (.sipush 1000, 3) := by decide +kernel
theorem dX7_laysCells_21 : decode cX7_laysCells 21 = .ok (.invokevirtual 112, 3) := by decide +kernel
theorem dX7_laysCells_24 : decode cX7_laysCells 24 = .ok (.aload_n 0, 1) := by decide +kernel
theorem dX7_laysCells_25 : decode cX7_laysCells 25 = .ok (.getfield 100, 3) := by decide +kernel
theorem dX7_laysCells_28 : decode cX7_laysCells 28 = .ok (.ifCond .ne 49, 3) := by decide +kernel
theorem dX7_laysCells_31 : decode cX7_laysCells 31 = .ok (.iload_n 2, 1) := by decide +kernel
theorem dX7_laysCells_32 : decode cX7_laysCells 32 = .ok (.iload_n 3, 1) := by decide +kernel
theorem dX7_laysCells_33 : decode cX7_laysCells 33 = .ok (.ishr, 1) := by decide +kernel
theorem dX7_laysCells_34 : decode cX7_laysCells 34 = .ok (.iconst 1, 1) := by decide +kernel
theorem dX7_laysCells_35 : decode cX7_laysCells 35 = .ok (.iand, 1) := by decide +kernel
theorem dX7_laysCells_36 : decode cX7_laysCells 36 = .ok (.ifCond .ne 41, 3) := by decide +kernel
theorem dX7_laysCells_39 : decode cX7_laysCells 39 = .ok (.aload_n 0, 1) := by decide +kernel
theorem dX7_laysCells_40 : decode cX7_laysCells 40 = .ok (.getfield 25, 3) := by decide +kernel
theorem dX7_laysCells_43 : decode cX7_laysCells 43 = .ok (.iload_n 1, 1) := by decide +kernel
theorem dX7_laysCells_44 : decode cX7_laysCells 44 = .ok (.aload_n 0, 1) := by decide +kernel
theorem dX7_laysCells_45 : decode cX7_laysCells 45 = .ok (.invokevirtual 116, 3) := by decide +kernel
theorem dX7_laysCells_48 : decode cX7_laysCells 48 = .ok (.iastore, 1) := by decide +kernel
theorem dX7_laysCells_49 : decode cX7_laysCells 49 = .ok (.aload_n 0, 1) := by decide +kernel
theorem dX7_laysCells_50 : decode cX7_laysCells 50 = .ok (.getfield 28, 3) := by decide +kernel
theorem dX7_laysCells_53 : decode cX7_laysCells 53 = .ok (.iload_n 1, 1) := by decide +kernel
theorem dX7_laysCells_54 : decode cX7_laysCells 54 = .ok (.aload_n 0, 1) := by decide +kernel
theorem dX7_laysCells_55 : decode cX7_laysCells 55 = .ok (.aload_n 0, 1) := by decide +kernel
theorem dX7_laysCells_56 : decode cX7_laysCells 56 = .ok (.getfield 25, 3) := by decide +kernel
theorem dX7_laysCells_59 : decode cX7_laysCells 59 = .ok (.iload_n 1, 1) := by decide +kernel
theorem dX7_laysCells_60 : decode cX7_laysCells 60 = .ok (.iaload, 1) := by decide +kernel
theorem dX7_laysCells_61 : decode cX7_laysCells 61 = .ok (.invokevirtual 126, 3) := by decide +kernel
theorem dX7_laysCells_64 : decode cX7_laysCells 64 = .ok (.iastore, 1) := by decide +kernel
theorem dX7_laysCells_65 : decode cX7_laysCells 65 = .ok (.iload_n 2, 1) := by decide +kernel
theorem dX7_laysCells_66 : decode cX7_laysCells 66 = .ok (.aload_n 0, 1) := by decide +kernel
theorem dX7_laysCells_67 : decode cX7_laysCells 67 = .ok (.getfield 28, 3) := by decide +kernel
theorem dX7_laysCells_70 : decode cX7_laysCells 70 = .ok (.iload_n 1, 1) := by decide +kernel
theorem dX7_laysCells_71 : decode cX7_laysCells 71 = .ok (.iaload, 1) := by decide +kernel
theorem dX7_laysCells_72 : decode cX7_laysCells 72 = .ok (.ior, 1) := by decide +kernel
theorem dX7_laysCells_73 : decode cX7_laysCells 73 = .ok (.istore_n 2, 1) := by decide +kernel
theorem dX7_laysCells_74 : decode cX7_laysCells 74 = .ok (.iinc 1 1, 3) := by decide +kernel
theorem dX7_laysCells_77 : decode cX7_laysCells 77 = .ok (.iinc 3 1, 3) := by decide +kernel
theorem dX7_laysCells_80 : decode cX7_laysCells 80 = .ok (.goto (-74), 3) := by decide +kernel
theorem dX7_laysCells_83 : decode cX7_laysCells 83 = .ok (.iload_n 1, 1) := by decide +kernel
theorem dX7_laysCells_84 : decode cX7_laysCells 84 = .ok (.ireturn, 1) := by decide +kernel
set_option maxRecDepth 20000 in
theorem ggX7_isBrighter_X7_lightIn : GoodIn wsX7_isBrighter wsX7_lightIn := goodIn_r _ [7, 8, 9, 10, 11, 6, 12, 13, 14, 15, 16, 17, 18, 19, 20, 21, 22, 23, 24, 25, 26, 27, 28, 29, 30, 31, 32, 33] (by decide +kernel) (by decide +kernel)
set_option maxRecDepth 20000 in
theorem gX7_isBrighter_X7_lightIn : GoodIn wsX7_isBrighter (wsV RX7 129 RX7 yX7_lightIn wsX7_lightIn) := goodIn_app (goodIn_of _ (by decide +kernel)) ggX7_isBrighter_X7_lightIn
theorem dX7_isBrighter_0 : decode cX7_isBrighter 0 = .ok (.aload_n 0, 1) := by decide +kernel
theorem dX7_isBrighter_1 : decode cX7_isBrighter 1 = .ok (.aload_n 0, 1) := by decide +kernel
theorem dX7_isBrighter_2 : decode cX7_isBrighter 2 = .ok (.getfield 28, 3) := by decide +kernel
theorem dX7_isBrighter_5 : decode cX7_isBrighter 5 = .ok (.iload_n 1, 1) := by decide +kernel
theorem dX7_isBrighter_6 : decode cX7_isBrighter 6 = .ok (.iaload, 1) := by decide +kernel
theorem dX7_isBrighter_7 : decode cX7_isBrighter 7 = .ok (.invokevirtual 129, 3) := by decide +kernel
theorem dX7_isBrighter_10 : decode cX7_isBrighter 10 = .ok (.aload_n 0, 1) := by decide +kernel
theorem dX7_isBrighter_11 : decode cX7_isBrighter 11 = .ok (.aload_n 0, 1) := by decide +kernel
theorem dX7_isBrighter_12 : decode cX7_isBrighter 12 = .ok (.getfield 28, 3) := by decide +kernel
theorem dX7_isBrighter_15 : decode cX7_isBrighter 15 = .ok (.iload_n 2, 1) := by decide +kernel
theorem dX7_isBrighter_16 : decode cX7_isBrighter 16 = .ok (.iaload, 1) := by decide +kernel
theorem dX7_isBrighter_17 : decode cX7_isBrighter 17 = .ok (.invokevirtual 129, 3) := by decide +kernel
theorem dX7_isBrighter_20 : decode cX7_isBrighter 20 = .ok (.isub, 1) := by decide +kernel
theorem dX7_isBrighter_21 : decode cX7_isBrighter 21 = .ok (.istore_n 3, 1) := by decide +kernel
theorem dX7_isBrighter_22 : decode cX7_isBrighter 22 = .ok (.iload_n 3, 1) := by decide +kernel
theorem dX7_isBrighter_23 : decode cX7_isBrighter 23 = .ok (.ifCond .gt 22, 3) := by decide +kernel
theorem dX7_isBrighter_26 : decode cX7_isBrighter 26 = .ok (.iload_n 3, 1) := by decide +kernel
theorem dX7_isBrighter_27 : decode cX7_isBrighter 27 = .ok (.ifCond .ne 22, 3) := by decide +kernel
theorem dX7_isBrighter_30 : decode cX7_isBrighter 30 = .ok (.aload_n 0, 1) := by decide +kernel
theorem dX7_isBrighter_31 : decode cX7_isBrighter 31 = .ok (.getfield 25, 3) := by decide +kernel
theorem dX7_isBrighter_34 : decode cX7_isBrighter 34 = .ok (.iload_n 1, 1) := by decide +kernel
theorem dX7_isBrighter_35 : decode cX7_isBrighter 35 = .ok (.iaload, 1) := by decide +kernel
theorem dX7_isBrighter_36 : decode cX7_isBrighter 36 = .ok (.aload_n 0, 1) := by decide +kernel
theorem dX7_isBrighter_37 : decode cX7_isBrighter 37 = .ok (.getfield 25, 3) := by decide +kernel
theorem dX7_isBrighter_40 : decode cX7_isBrighter 40 = .ok (.iload_n 2, 1) := by decide +kernel
theorem dX7_isBrighter_41 : decode cX7_isBrighter 41 = .ok (.iaload, 1) := by decide +kernel
theorem dX7_isBrighter_42 : decode cX7_isBrighter 42 = .ok (.if_icmp .ge 7, 3) := by decide +kernel
theorem dX7_isBrighter_45 : decode cX7_isBrighter 45 = .ok (.iconst 1, 1) := by decide +kernel
theorem dX7_isBrighter_46 : decode cX7_isBrighter 46 = .ok (.goto 4, 3) := by decide +kernel
theorem dX7_isBrighter_49 : decode cX7_isBrighter 49 = .ok (.iconst 0, 1) := by decide +kernel
theorem dX7_isBrighter_50 : decode cX7_isBrighter 50 = .ok (.ireturn, 1) := by decide +kernel
set_option maxRecDepth 20000 in
theorem ggX7_bright_X7_in : GoodIn wsX7_bright wsX7_in := goodIn_r _ [8] (by decide +kernel) (by decide +kernel)
set_option maxRecDepth 20000 in
theorem gX7_bright_X7_in : GoodIn wsX7_bright (va_wsS RX7 47 yX7_in wsX7_in) := goodIn_app (goodIn_of _ (by decide +kernel)) ggX7_bright_X7_in
set_option maxRecDepth 20000 in
theorem ggX7_bright_X7_laysCells : GoodIn wsX7_bright wsX7_laysCells := goodIn_r _ [12, 13, 14, 2, 3, 15, 16, 17, 7, 18, 19, 20, 21, 22, 23, 24, 25, 26, 27, 28, 29, 30, 31, 32, 5, 6, 8, 33, 34, 35, 36, 37, 38, 39, 40, 41, 42, 43, 44, 45, 46, 47, 60, 61, 62, 63, 64, 65, 66, 67, 68, 69, 70, 71, 72, 73, 74, 75, 76, 77, 78, 79, 80] (by decide +kernel) (by decide +kernel)
set_option maxRecDepth 20000 in
theorem gX7_bright_X7_laysCells : GoodIn wsX7_bright (wsV RX7 132 RX7 yX7_laysCells wsX7_laysCells) := goodIn_app (goodIn_of _ (by decide +kernel)) ggX7_bright_X7_laysCells
set_option maxRecDepth 20000 in
theorem ggX7_bright_X7_isBrighter : GoodIn wsX7_bright wsX7_isBrighter := goodIn_r _ [51, 3, 2, 52, 53, 54, 7, 55, 13, 56, 57, 58, 59, 60, 61, 62, 63, 64, 65, 66, 67, 68, 69, 70, 71, 72, 73, 74, 75, 76, 77, 78, 79, 80] (by decide +kernel) (by decide +kernel)
set_option maxRecDepth 20000 in
theorem gX7_bright_X7_isBrighter : GoodIn wsX7_bright (wsV RX7 135 RX7 yX7_isBrighter wsX7_isBrighter) := goodIn_app (goodIn_of _ (by decide +kernel)) ggX7_bright_X7_isBrighter
set_option maxRecDepth 20000 in
theorem ggX7_bright_X7_lightIn : GoodIn wsX7_bright wsX7_lightIn := goodIn_r _ [55, 13, 56, 57, 58, 7, 59, 60, 61, 62, 63, 64, 65, 66, 67, 68, 69, 70, 71, 72, 73, 74, 75, 76, 77, 78, 79, 80] (by decide +kernel) (by decide +kernel)
set_option maxRecDepth 20000 in
theorem gX7_bright_X7_lightIn : GoodIn wsX7_bright (wsV RX7 129 RX7 yX7_lightIn wsX7_lightIn) := goodIn_app (goodIn_of _ (by decide +kernel)) ggX7_bright_X7_lightIn
theorem dX7_bright_0 : decode cX7_bright 0 = .ok (.iload_n 1, 1) := by decide +kernel
theorem dX7_bright_1 : decode cX7_bright 1 = .ok (.ifCond .lt 12, 3) := by decide +kernel
theorem dX7_bright_4 : decode cX7_bright 4 = .ok (.iload_n 2, 1) := by decide +kernel
theorem dX7_bright_5 : decode cX7_bright 5 = .ok (.iconst 0, 1) := by decide +kernel
theorem dX7_bright_6 : decode cX7_bright 6 = .ok (.iconst 2, 1) := by decide +kernel
theorem dX7_bright_7 : decode cX7_bright 7 = .ok (.invokestatic 47, 3) := by decide +kernel
theorem dX7_bright_10 : decode cX7_bright 10 = .ok (.ifCond .ne 6, 3) := by decide +kernel
theorem dX7_bright_13 : decode cX7_bright 13 = .ok (.ldc 51, 2) := by decide +kernel
theorem dX7_bright_15 : decode cX7_bright 15 = .ok (.ireturn, 1) := by decide +kernel
theorem dX7_bright_16 : decode cX7_bright 16 = .ok (.aload_n 0, 1) := by decide +kernel
theorem dX7_bright_17 : decode cX7_bright 17 = .ok (.invokevirtual 132, 3) := by decide +kernel
theorem dX7_bright_20 : decode cX7_bright 20 = .ok (.istore_n 3, 1) := by decide +kernel
theorem dX7_bright_21 : decode cX7_bright 21 = .ok (.iconst 0, 1) := by decide +kernel
theorem dX7_bright_22 : decode cX7_bright 22 = .ok (.istore 4, 2) := by decide +kernel
theorem dX7_bright_24 : decode cX7_bright 24 = .ok (.iload 4, 2) := by decide +kernel
theorem dX7_bright_26 : decode cX7_bright 26 = .ok (.iload_n 3, 1) := by decide +kernel
theorem dX7_bright_27 : decode cX7_bright 27 = .ok (.if_icmp .ge 95, 3) := by decide +kernel
theorem dX7_bright_30 : decode cX7_bright 30 = .ok (.iconst 0, 1) := by decide +kernel
theorem dX7_bright_31 : decode cX7_bright 31 = .ok (.istore 5, 2) := by decide +kernel
theorem dX7_bright_33 : decode cX7_bright 33 = .ok (.iconst 0, 1) := by decide +kernel
theorem dX7_bright_34 : decode cX7_bright 34 = .ok (.istore 6, 2) := by decide +kernel
theorem dX7_bright_36 : decode cX7_bright 36 = .ok (.iload 6, 2) := by decide +kernel
theorem dX7_bright_38 : decode cX7_bright 38 = .ok (.iload_n 3, 1) := by decide +kernel
theorem dX7_bright_39 : decode cX7_bright 39 = .ok (.if_icmp .ge 30, 3) := by decide +kernel
theorem dX7_bright_42 : decode cX7_bright 42 = .ok (.iload 5, 2) := by decide +kernel
theorem dX7_bright_44 : decode cX7_bright 44 = .ok (.aload_n 0, 1) := by decide +kernel
theorem dX7_bright_45 : decode cX7_bright 45 = .ok (.iload 6, 2) := by decide +kernel
theorem dX7_bright_47 : decode cX7_bright 47 = .ok (.iload 4, 2) := by decide +kernel
theorem dX7_bright_49 : decode cX7_bright 49 = .ok (.invokevirtual 135, 3) := by decide +kernel
theorem dX7_bright_52 : decode cX7_bright 52 = .ok (.ifCond .eq 7, 3) := by decide +kernel
theorem dX7_bright_55 : decode cX7_bright 55 = .ok (.iconst 1, 1) := by decide +kernel
theorem dX7_bright_56 : decode cX7_bright 56 = .ok (.goto 4, 3) := by decide +kernel
theorem dX7_bright_59 : decode cX7_bright 59 = .ok (.iconst 0, 1) := by decide +kernel
theorem dX7_bright_60 : decode cX7_bright 60 = .ok (.iadd, 1) := by decide +kernel
theorem dX7_bright_61 : decode cX7_bright 61 = .ok (.istore 5, 2) := by decide +kernel
theorem dX7_bright_63 : decode cX7_bright 63 = .ok (.iinc 6 1, 3) := by decide +kernel
theorem dX7_bright_66 : decode cX7_bright 66 = .ok (.goto (-30), 3) := by decide +kernel
theorem dX7_bright_69 : decode cX7_bright 69 = .ok (.iload 5, 2) := by decide +kernel
theorem dX7_bright_71 : decode cX7_bright 71 = .ok (.iload_n 1, 1) := by decide +kernel
theorem dX7_bright_72 : decode cX7_bright 72 = .ok (.if_icmp .ne 44, 3) := by decide +kernel
theorem dX7_bright_75 : decode cX7_bright 75 = .ok (.iload_n 2, 1) := by decide +kernel
theorem dX7_bright_76 : decode cX7_bright 76 = .ok (.ifCond .ne 13, 3) := by decide +kernel
theorem dX7_bright_79 : decode cX7_bright 79 = .ok (.aload_n 0, 1) := by decide +kernel
theorem dX7_bright_80 : decode cX7_bright 80 = .ok (.getfield 25, 3) := by decide +kernel
theorem dX7_bright_83 : decode cX7_bright 83 = .ok (.iload 4, 2) := by decide +kernel
theorem dX7_bright_85 : decode cX7_bright 85 = .ok (.iaload, 1) := by decide +kernel
theorem dX7_bright_86 : decode cX7_bright 86 = .ok (.goto 29, 3) := by decide +kernel
theorem dX7_bright_89 : decode cX7_bright 89 = .ok (.iload_n 2, 1) := by decide +kernel
theorem dX7_bright_90 : decode cX7_bright 90 = .ok (.iconst 1, 1) := by decide +kernel
theorem dX7_bright_91 : decode cX7_bright 91 = .ok (.if_icmp .ne 17, 3) := by decide +kernel
theorem dX7_bright_94 : decode cX7_bright 94 = .ok (.aload_n 0, 1) := by decide +kernel
theorem dX7_bright_95 : decode cX7_bright 95 = .ok (.aload_n 0, 1) := by decide +kernel
theorem dX7_bright_96 : decode cX7_bright 96 = .ok (.getfield 28, 3) := by decide +kernel
theorem dX7_bright_99 : decode cX7_bright 99 = .ok (.iload 4, 2) := by decide +kernel
theorem dX7_bright_101 : decode cX7_bright 101 = .ok (.iaload, 1) := by decide +kernel
theorem dX7_bright_102 : decode cX7_bright 102 = .ok (.invokevirtual 129, 3) := by decide +kernel
theorem dX7_bright_105 : decode cX7_bright 105 = .ok (.goto 10, 3) := by decide +kernel
theorem dX7_bright_108 : decode cX7_bright 108 = .ok (.aload_n 0, 1) := by decide +kernel
theorem dX7_bright_109 : decode cX7_bright 109 = .ok (.getfield 28, 3) := by decide +kernel
theorem dX7_bright_112 : decode cX7_bright 112 = .ok (.iload 4, 2) := by decide +kernel
theorem dX7_bright_114 : decode cX7_bright 114 = .ok (.iaload, 1) := by decide +kernel
theorem dX7_bright_115 : decode cX7_bright 115 = .ok (.ireturn, 1) := by decide +kernel
theorem dX7_bright_116 : decode cX7_bright 116 = .ok (.iinc 4 1, 3) := by decide +kernel
theorem dX7_bright_119 : decode cX7_bright 119 = .ok (.goto (-95), 3) := by decide +kernel
theorem dX7_bright_122 : decode cX7_bright 122 = .ok (.ldc 46, 2) := by decide +kernel
theorem dX7_bright_124 : decode cX7_bright 124 = .ok (.ireturn, 1) := by decide +kernel
set_option maxRecDepth 20000 in
theorem ggX7_bending_X7_in : GoodIn wsX7_bending wsX7_in := goodIn_r _ [5] (by decide +kernel) (by decide +kernel)
set_option maxRecDepth 20000 in
theorem gX7_bending_X7_in : GoodIn wsX7_bending (va_wsS RX7 47 yX7_in wsX7_in) := goodIn_app (goodIn_of _ (by decide +kernel)) ggX7_bending_X7_in
set_option maxRecDepth 20000 in
theorem ggX7_bending_X7_bends : GoodIn wsX7_bending wsX7_bends := goodIn_r _ [8] (by decide +kernel) (by decide +kernel)
set_option maxRecDepth 20000 in
theorem gX7_bending_X7_bends : GoodIn wsX7_bending (va_wsS RX7 109 yX7_bends wsX7_bends) := goodIn_app (goodIn_of _ (by decide +kernel)) ggX7_bending_X7_bends
theorem dX7_bending_0 : decode cX7_bending 0 = .ok (.iload_n 1, 1) := by decide +kernel
theorem dX7_bending_1 : decode cX7_bending 1 = .ok (.iconst 0, 1) := by decide +kernel
theorem dX7_bending_2 : decode cX7_bending 2 = .ok (.iconst 1, 1) := by decide +kernel
theorem dX7_bending_3 : decode cX7_bending 3 = .ok (.invokestatic 47, 3) := by decide +kernel
theorem dX7_bending_6 : decode cX7_bending 6 = .ok (.ifCond .eq 24, 3) := by decide +kernel
theorem dX7_bending_9 : decode cX7_bending 9 = .ok (.iload_n 2, 1) := by decide +kernel
theorem dX7_bending_10 : decode cX7_bending 10 = .ok (.sipush 380, 3) := by decide +kernel
theorem dX7_bending_13 : decode cX7_bending 13 = .ok (.sipush 780, 3) := by decide +kernel
theorem dX7_bending_16 : decode cX7_bending 16 = .ok (.invokestatic 47, 3) := by decide +kernel
theorem dX7_bending_19 : decode cX7_bending 19 = .ok (.ifCond .eq 11, 3) := by decide +kernel
theorem dX7_bending_22 : decode cX7_bending 22 = .ok (.iload_n 1, 1) := by decide +kernel
theorem dX7_bending_23 : decode cX7_bending 23 = .ok (.iload_n 2, 1) := by decide +kernel
theorem dX7_bending_24 : decode cX7_bending 24 = .ok (.invokestatic 109, 3) := by decide +kernel
theorem dX7_bending_27 : decode cX7_bending 27 = .ok (.goto 5, 3) := by decide +kernel
theorem dX7_bending_30 : decode cX7_bending 30 = .ok (.ldc 51, 2) := by decide +kernel
theorem dX7_bending_32 : decode cX7_bending 32 = .ok (.ireturn, 1) := by decide +kernel
set_option maxRecDepth 20000 in
theorem ggX7_spread_X7_follows : GoodIn wsX7_spread wsX7_follows := goodIn_r _ [8, 9, 3, 10, 2, 1, 11, 12, 13, 7, 14, 15, 16, 17, 18, 19, 20, 21, 22, 23, 24, 25, 26, 27, 28, 29, 30, 31, 32, 33, 34, 35, 36, 37, 38, 39, 40, 41, 42, 43, 44, 45, 46, 47, 48, 49, 50, 51, 52] (by decide +kernel) (by decide +kernel)
set_option maxRecDepth 20000 in
theorem gX7_spread_X7_follows : GoodIn wsX7_spread (wsV RX7 112 RX7 yX7_follows wsX7_follows) := goodIn_app (goodIn_of _ (by decide +kernel)) ggX7_spread_X7_follows
theorem dX7_spread_0 : decode cX7_spread 0 = .ok (.sipush 1000, 3) := by decide +kernel
theorem dX7_spread_3 : decode cX7_spread 3 = .ok (.istore_n 1, 1) := by decide +kernel
theorem dX7_spread_4 : decode cX7_spread 4 = .ok (.sipush (-1000), 3) := by decide +kernel
theorem dX7_spread_7 : decode cX7_spread 7 = .ok (.istore_n 2, 1) := by decide +kernel
theorem dX7_spread_8 : decode cX7_spread 8 = .ok (.iconst 0, 1) := by decide +kernel
theorem dX7_spread_9 : decode cX7_spread 9 = .ok (.istore_n 3, 1) := by decide +kernel
theorem dX7_spread_10 : decode cX7_spread 10 = .ok (.iload_n 3, 1) := by decide +kernel
theorem dX7_spread_11 : decode cX7_spread 11 = .ok (.aload_n 0, 1) := by decide +kernel
theorem dX7_spread_12 : decode cX7_spread 12 = .ok (.getfield 7, 3) := by decide +kernel
theorem dX7_spread_15 : decode cX7_spread 15 = .ok (.iconst 0, 1) := by decide +kernel
theorem dX7_spread_16 : decode cX7_spread 16 = .ok (.iaload, 1) := by decide +kernel
theorem dX7_spread_17 : decode cX7_spread 17 = .ok (.if_icmp .ge 65, 3) := by decide +kernel
theorem dX7_spread_20 : decode cX7_spread 20 = .ok (.aload_n 0, 1) := by decide +kernel
theorem dX7_spread_21 : decode cX7_spread 21 = .ok (.iload_n 3, 1) := by decide +kernel
theorem dX7_spread_22 : decode cX7_spread 22 = .ok (.sipush 1000, 3) := by decide +kernel
theorem dX7_spread_25 : decode cX7_spread 25 = .ok (.invokevirtual 112, 3) := by decide +kernel
theorem dX7_spread_28 : decode cX7_spread 28 = .ok (.aload_n 0, 1) := by decide +kernel
theorem dX7_spread_29 : decode cX7_spread 29 = .ok (.getfield 100, 3) := by decide +kernel
theorem dX7_spread_32 : decode cX7_spread 32 = .ok (.ifCond .ne 18, 3) := by decide +kernel
theorem dX7_spread_35 : decode cX7_spread 35 = .ok (.aload_n 0, 1) := by decide +kernel
theorem dX7_spread_36 : decode cX7_spread 36 = .ok (.getfield 88, 3) := by decide +kernel
theorem dX7_spread_39 : decode cX7_spread 39 = .ok (.iload_n 1, 1) := by decide +kernel
theorem dX7_spread_40 : decode cX7_spread 40 = .ok (.if_icmp .ge 10, 3) := by decide +kernel
theorem dX7_spread_43 : decode cX7_spread 43 = .ok (.aload_n 0, 1) := by decide +kernel
theorem dX7_spread_44 : decode cX7_spread 44 = .ok (.getfield 88, 3) := by decide +kernel
theorem dX7_spread_47 : decode cX7_spread 47 = .ok (.goto 4, 3) := by decide +kernel
theorem dX7_spread_50 : decode cX7_spread 50 = .ok (.iload_n 1, 1) := by decide +kernel
theorem dX7_spread_51 : decode cX7_spread 51 = .ok (.istore_n 1, 1) := by decide +kernel
theorem dX7_spread_52 : decode cX7_spread 52 = .ok (.aload_n 0, 1) := by decide +kernel
theorem dX7_spread_53 : decode cX7_spread 53 = .ok (.getfield 100, 3) := by decide +kernel
theorem dX7_spread_56 : decode cX7_spread 56 = .ok (.ifCond .ne 18, 3) := by decide +kernel
theorem dX7_spread_59 : decode cX7_spread 59 = .ok (.aload_n 0, 1) := by decide +kernel
theorem dX7_spread_60 : decode cX7_spread 60 = .ok (.getfield 88, 3) := by decide +kernel
theorem dX7_spread_63 : decode cX7_spread 63 = .ok (.iload_n 2, 1) := by decide +kernel
theorem dX7_spread_64 : decode cX7_spread 64 = .ok (.if_icmp .le 10, 3) := by decide +kernel
theorem dX7_spread_67 : decode cX7_spread 67 = .ok (.aload_n 0, 1) := by decide +kernel
theorem dX7_spread_68 : decode cX7_spread 68 = .ok (.getfield 88, 3) := by decide +kernel
theorem dX7_spread_71 : decode cX7_spread 71 = .ok (.goto 4, 3) := by decide +kernel
theorem dX7_spread_74 : decode cX7_spread 74 = .ok (.iload_n 2, 1) := by decide +kernel
theorem dX7_spread_75 : decode cX7_spread 75 = .ok (.istore_n 2, 1) := by decide +kernel
theorem dX7_spread_76 : decode cX7_spread 76 = .ok (.iinc 3 1, 3) := by decide +kernel
theorem dX7_spread_79 : decode cX7_spread 79 = .ok (.goto (-69), 3) := by decide +kernel
theorem dX7_spread_82 : decode cX7_spread 82 = .ok (.iload_n 2, 1) := by decide +kernel
theorem dX7_spread_83 : decode cX7_spread 83 = .ok (.iload_n 1, 1) := by decide +kernel
theorem dX7_spread_84 : decode cX7_spread 84 = .ok (.if_icmp .ge 7, 3) := by decide +kernel
theorem dX7_spread_87 : decode cX7_spread 87 = .ok (.iconst 0, 1) := by decide +kernel
theorem dX7_spread_88 : decode cX7_spread 88 = .ok (.goto 6, 3) := by decide +kernel
theorem dX7_spread_91 : decode cX7_spread 91 = .ok (.iload_n 2, 1) := by decide +kernel
theorem dX7_spread_92 : decode cX7_spread 92 = .ok (.iload_n 1, 1) := by decide +kernel
theorem dX7_spread_93 : decode cX7_spread 93 = .ok (.isub, 1) := by decide +kernel
theorem dX7_spread_94 : decode cX7_spread 94 = .ok (.ireturn, 1) := by decide +kernel
set_option maxRecDepth 20000 in
theorem ggX7_best_X7_at : GoodIn wsX7_best wsX7_at := goodIn_r _ [9, 2, 4, 10, 11, 12, 8, 13, 69, 70, 71, 72, 73, 74, 75, 76, 77, 78, 79, 80, 81, 82, 83, 84, 85, 86, 87, 88, 89] (by decide +kernel) (by decide +kernel)
set_option maxRecDepth 20000 in
theorem gX7_best_X7_at : GoodIn wsX7_best (wsV RX7 64 RX7 yX7_at wsX7_at) := goodIn_app (goodIn_of _ (by decide +kernel)) ggX7_best_X7_at
set_option maxRecDepth 20000 in
theorem ggX7_best_X7_in : GoodIn wsX7_best wsX7_in := goodIn_r _ [16] (by decide +kernel) (by decide +kernel)
set_option maxRecDepth 20000 in
theorem gX7_best_X7_in : GoodIn wsX7_best (va_wsS RX7 47 yX7_in wsX7_in) := goodIn_app (goodIn_of _ (by decide +kernel)) ggX7_best_X7_in
set_option maxRecDepth 20000 in
theorem ggX7_best_X7_copies : GoodIn wsX7_best wsX7_copies := goodIn_r _ [19] (by decide +kernel) (by decide +kernel)
set_option maxRecDepth 20000 in
theorem gX7_best_X7_copies : GoodIn wsX7_best (va_wsS RX7 139 yX7_copies wsX7_copies) := goodIn_app (goodIn_of _ (by decide +kernel)) ggX7_best_X7_copies
set_option maxRecDepth 20000 in
theorem ggX7_best_X7_moves : GoodIn wsX7_best wsX7_moves := goodIn_r _ [23, 10, 11, 12, 8, 13, 2, 24, 25, 26, 27, 28, 29, 30, 31, 32, 33, 34, 35, 69, 70, 71, 72, 73, 74, 75, 76, 77, 78, 79, 80, 81, 82, 83, 84, 85, 86, 87, 88, 89] (by decide +kernel) (by decide +kernel)
set_option maxRecDepth 20000 in
theorem gX7_best_X7_moves : GoodIn wsX7_best (wsV RX7 85 RX7 yX7_moves wsX7_moves) := goodIn_app (goodIn_of _ (by decide +kernel)) ggX7_best_X7_moves
set_option maxRecDepth 20000 in
theorem ggX7_best_X7_coming : GoodIn wsX7_best wsX7_coming := goodIn_r _ [39, 2, 40, 41, 42, 43, 8, 44, 45, 46, 47, 10, 11, 12, 13, 48, 49, 50, 51, 52, 53, 54, 14, 15, 16, 55, 56, 57, 58, 59, 60, 61, 69, 70, 71, 72, 73, 74, 75, 76, 77, 78, 79, 80, 81, 82, 83, 84, 85, 86, 87, 88, 89] (by decide +kernel) (by decide +kernel)
set_option maxRecDepth 20000 in
theorem gX7_best_X7_coming : GoodIn wsX7_best (wsV RX7 120 RX7 yX7_coming wsX7_coming) := goodIn_app (goodIn_of _ (by decide +kernel)) ggX7_best_X7_coming
set_option maxRecDepth 20000 in
theorem ggX7_best_X7_ones : GoodIn wsX7_best wsX7_ones := goodIn_r _ [64] (by decide +kernel) (by decide +kernel)
set_option maxRecDepth 20000 in
theorem gX7_best_X7_ones : GoodIn wsX7_best (va_wsS RX7 143 yX7_ones wsX7_ones) := goodIn_app (goodIn_of _ (by decide +kernel)) ggX7_best_X7_ones
set_option maxRecDepth 20000 in
theorem ggX7_best_X7_spread : GoodIn wsX7_best wsX7_spread := goodIn_r _ [68, 2, 40, 46, 41, 42, 43, 8, 44, 45, 47, 10, 11, 12, 13, 48, 49, 50, 51, 52, 53, 54, 14, 15, 16, 55, 56, 57, 58, 59, 60, 61, 69, 70, 71, 72, 73, 74, 75, 76, 77, 78, 79, 80, 81, 82, 83, 84, 85, 86, 87, 88, 89] (by decide +kernel) (by decide +kernel)
set_option maxRecDepth 20000 in
theorem gX7_best_X7_spread : GoodIn wsX7_best (wsV RX7 146 RX7 yX7_spread wsX7_spread) := goodIn_app (goodIn_of _ (by decide +kernel)) ggX7_best_X7_spread
theorem dX7_best_0 : decode cX7_best 0 = .ok (.aload_n 0, 1) := by decide +kernel
theorem dX7_best_1 : decode cX7_best 1 = .ok (.iload_n 1, 1) := by decide +kernel
theorem dX7_best_2 : decode cX7_best 2 = .ok (.invokevirtual 64, 3) := by decide +kernel
theorem dX7_best_5 : decode cX7_best 5 = .ok (.istore_n 3, 1) := by decide +kernel
theorem dX7_best_6 : decode cX7_best 6 = .ok (.iload_n 3, 1) := by decide +kernel
theorem dX7_best_7 : decode cX7_best 7 = .ok (.ifCond .lt 12, 3) := by decide +kernel
theorem dX7_best_10 : decode cX7_best 10 = .ok (.iload_n 2, 1) := by decide +kernel
theorem dX7_best_11 : decode cX7_best 11 = .ok (.iconst 0, 1) := by decide +kernel
theorem dX7_best_12 : decode cX7_best 12 = .ok (.iconst 2, 1) := by decide +kernel
theorem dX7_best_13 : decode cX7_best 13 = .ok (.invokestatic 47, 3) := by decide +kernel
theorem dX7_best_16 : decode cX7_best 16 = .ok (.ifCond .ne 6, 3) := by decide +kernel
theorem dX7_best_19 : decode cX7_best 19 = .ok (.ldc 51, 2) := by decide +kernel
theorem dX7_best_21 : decode cX7_best 21 = .ok (.ireturn, 1) := by decide +kernel
theorem dX7_best_22 : decode cX7_best 22 = .ok (.aload_n 0, 1) := by decide +kernel
theorem dX7_best_23 : decode cX7_best 23 = .ok (.getfield 7, 3) := by decide +kernel
theorem dX7_best_26 : decode cX7_best 26 = .ok (.aload_n 0, 1) := by decide +kernel
theorem dX7_best_27 : decode cX7_best 27 = .ok (.getfield 19, 3) := by decide +kernel
theorem dX7_best_30 : decode cX7_best 30 = .ok (.invokestatic 139, 3) := by decide +kernel
theorem dX7_best_33 : decode cX7_best 33 = .ok (.ldc 46, 2) := by decide +kernel
theorem dX7_best_35 : decode cX7_best 35 = .ok (.istore 4, 2) := by decide +kernel
theorem dX7_best_37 : decode cX7_best 37 = .ok (.iconst 0, 1) := by decide +kernel
theorem dX7_best_38 : decode cX7_best 38 = .ok (.istore 5, 2) := by decide +kernel
theorem dX7_best_40 : decode cX7_best 40 = .ok (.iconst 0, 1) := by decide +kernel
theorem dX7_best_41 : decode cX7_best 41 = .ok (.istore 6, 2) := by decide +kernel
theorem dX7_best_43 : decode cX7_best 43 = .ok (.bipush 10, 2) := by decide +kernel
theorem dX7_best_45 : decode cX7_best 45 = .ok (.istore 7, 2) := by decide +kernel
theorem dX7_best_47 : decode cX7_best 47 = .ok (.iload 7, 2) := by decide +kernel
theorem dX7_best_49 : decode cX7_best 49 = .ok (.sipush 1000, 3) := by decide +kernel
theorem dX7_best_52 : decode cX7_best 52 = .ok (.if_icmp .ge 136, 3) := by decide +kernel
theorem dX7_best_55 : decode cX7_best 55 = .ok (.iload 7, 2) := by decide +kernel
theorem dX7_best_57 : decode cX7_best 57 = .ok (.iload_n 1, 1) := by decide +kernel
theorem dX7_best_58 : decode cX7_best 58 = .ok (.if_icmp .eq 12, 3) := by decide +kernel
theorem dX7_best_61 : decode cX7_best 61 = .ok (.aload_n 0, 1) := by decide +kernel
theorem dX7_best_62 : decode cX7_best 62 = .ok (.iload 7, 2) := by decide +kernel
theorem dX7_best_64 : decode cX7_best 64 = .ok (.invokevirtual 64, 3) := by decide +kernel
theorem dX7_best_67 : decode cX7_best 67 = .ok (.ifCond .ge 115, 3) := by decide +kernel
theorem dX7_best_70 : decode cX7_best 70 = .ok (.aload_n 0, 1) := by decide +kernel
theorem dX7_best_71 : decode cX7_best 71 = .ok (.iload_n 3, 1) := by decide +kernel
theorem dX7_best_72 : decode cX7_best 72 = .ok (.iload 7, 2) := by decide +kernel
theorem dX7_best_74 : decode cX7_best 74 = .ok (.invokevirtual 85, 3) := by decide +kernel
theorem dX7_best_77 : decode cX7_best 77 = .ok (.pop, 1) := by decide +kernel
theorem dX7_best_78 : decode cX7_best 78 = .ok (.aload_n 0, 1) := by decide +kernel
theorem dX7_best_79 : decode cX7_best 79 = .ok (.sipush 1000, 3) := by decide +kernel
theorem dX7_best_82 : decode cX7_best 82 = .ok (.invokevirtual 120, 3) := by decide +kernel
theorem dX7_best_85 : decode cX7_best 85 = .ok (.invokestatic 143, 3) := by decide +kernel
theorem dX7_best_88 : decode cX7_best 88 = .ok (.istore 8, 2) := by decide +kernel
theorem dX7_best_90 : decode cX7_best 90 = .ok (.aload_n 0, 1) := by decide +kernel
theorem dX7_best_91 : decode cX7_best 91 = .ok (.invokevirtual 146, 3) := by decide +kernel
theorem dX7_best_94 : decode cX7_best 94 = .ok (.istore 9, 2) := by decide +kernel
theorem dX7_best_96 : decode cX7_best 96 = .ok (.aload_n 0, 1) := by decide +kernel
theorem dX7_best_97 : decode cX7_best 97 = .ok (.getfield 19, 3) := by decide +kernel
theorem dX7_best_100 : decode cX7_best 100 = .ok (.aload_n 0, 1) := by decide +kernel
theorem dX7_best_101 : decode cX7_best 101 = .ok (.getfield 7, 3) := by decide +kernel
theorem dX7_best_104 : decode cX7_best 104 = .ok (.invokestatic 139, 3) := by decide +kernel
theorem dX7_best_107 : decode cX7_best 107 = .ok (.iload 4, 2) := by decide +kernel
theorem dX7_best_109 : decode cX7_best 109 = .ok (.ifCond .lt 24, 3) := by decide +kernel
theorem dX7_best_112 : decode cX7_best 112 = .ok (.iload 8, 2) := by decide +kernel
theorem dX7_best_114 : decode cX7_best 114 = .ok (.iload 5, 2) := by decide +kernel
theorem dX7_best_116 : decode cX7_best 116 = .ok (.if_icmp .gt 17, 3) := by decide +kernel
theorem dX7_best_119 : decode cX7_best 119 = .ok (.iload 8, 2) := by decide +kernel
theorem dX7_best_121 : decode cX7_best 121 = .ok (.iload 5, 2) := by decide +kernel
theorem dX7_best_123 : decode cX7_best 123 = .ok (.if_icmp .ne 14, 3) := by decide +kernel
theorem dX7_best_126 : decode cX7_best 126 = .ok (.iload 9, 2) := by decide +kernel
theorem dX7_best_128 : decode cX7_best 128 = .ok (.iload 6, 2) := by decide +kernel
theorem dX7_best_130 : decode cX7_best 130 = .ok (.if_icmp .ge 7, 3) := by decide +kernel
theorem dX7_best_133 : decode cX7_best 133 = .ok (.iconst 1, 1) := by decide +kernel
theorem dX7_best_134 : decode cX7_best 134 = .ok (.goto 4, 3) := by decide +kernel
theorem dX7_best_137 : decode cX7_best 137 = .ok (.iconst 0, 1) := by decide +kernel
theorem dX7_best_138 : decode cX7_best 138 = .ok (.istore 10, 2) := by decide +kernel
theorem dX7_best_140 : decode cX7_best 140 = .ok (.iload 10, 2) := by decide +kernel
theorem dX7_best_142 : decode cX7_best 142 = .ok (.ifCond .eq 8, 3) := by decide +kernel
theorem dX7_best_145 : decode cX7_best 145 = .ok (.iload 7, 2) := by decide +kernel
theorem dX7_best_147 : decode cX7_best 147 = .ok (.goto 5, 3) := by decide +kernel
theorem dX7_best_150 : decode cX7_best 150 = .ok (.iload 4, 2) := by decide +kernel
theorem dX7_best_152 : decode cX7_best 152 = .ok (.istore 4, 2) := by decide +kernel
theorem dX7_best_154 : decode cX7_best 154 = .ok (.iload 10, 2) := by decide +kernel
theorem dX7_best_156 : decode cX7_best 156 = .ok (.ifCond .eq 8, 3) := by decide +kernel
theorem dX7_best_159 : decode cX7_best 159 = .ok (.iload 8, 2) := by decide +kernel
theorem dX7_best_161 : decode cX7_best 161 = .ok (.goto 5, 3) := by decide +kernel
theorem dX7_best_164 : decode cX7_best 164 = .ok (.iload 5, 2) := by decide +kernel
theorem dX7_best_166 : decode cX7_best 166 = .ok (.istore 5, 2) := by decide +kernel
theorem dX7_best_168 : decode cX7_best 168 = .ok (.iload 10, 2) := by decide +kernel
theorem dX7_best_170 : decode cX7_best 170 = .ok (.ifCond .eq 8, 3) := by decide +kernel
theorem dX7_best_173 : decode cX7_best 173 = .ok (.iload 9, 2) := by decide +kernel
theorem dX7_best_175 : decode cX7_best 175 = .ok (.goto 5, 3) := by decide +kernel
theorem dX7_best_178 : decode cX7_best 178 = .ok (.iload 6, 2) := by decide +kernel
theorem dX7_best_180 : decode cX7_best 180 = .ok (.istore 6, 2) := by decide +kernel
theorem dX7_best_182 : decode cX7_best 182 = .ok (.iinc 7 10, 3) := by decide +kernel
theorem dX7_best_185 : decode cX7_best 185 = .ok (.goto (-138), 3) := by decide +kernel
theorem dX7_best_188 : decode cX7_best 188 = .ok (.iload_n 2, 1) := by decide +kernel
theorem dX7_best_189 : decode cX7_best 189 = .ok (.ifCond .ne 8, 3) := by decide +kernel
theorem dX7_best_192 : decode cX7_best 192 = .ok (.iload 4, 2) := by decide +kernel
theorem dX7_best_194 : decode cX7_best 194 = .ok (.goto 15, 3) := by decide +kernel
theorem dX7_best_197 : decode cX7_best 197 = .ok (.iload_n 2, 1) := by decide +kernel
theorem dX7_best_198 : decode cX7_best 198 = .ok (.iconst 1, 1) := by decide +kernel
theorem dX7_best_199 : decode cX7_best 199 = .ok (.if_icmp .ne 8, 3) := by decide +kernel
theorem dX7_best_202 : decode cX7_best 202 = .ok (.iload 5, 2) := by decide +kernel
theorem dX7_best_204 : decode cX7_best 204 = .ok (.goto 5, 3) := by decide +kernel
theorem dX7_best_207 : decode cX7_best 207 = .ok (.iload 6, 2) := by decide +kernel
theorem dX7_best_209 : decode cX7_best 209 = .ok (.ireturn, 1) := by decide +kernel
set_option maxRecDepth 20000 in
theorem ggX7_alone_X7_isLine : GoodIn wsX7_alone wsX7_isLine := goodIn_r _ [11, 4, 46, 47, 48, 49, 50, 51, 52, 53, 54, 55, 56, 57, 58, 59, 60, 61, 62, 63, 64, 65, 66] (by decide +kernel) (by decide +kernel)
set_option maxRecDepth 20000 in
theorem gX7_alone_X7_isLine : GoodIn wsX7_alone (wsV RX7 56 RX7 yX7_isLine wsX7_isLine) := goodIn_app (goodIn_of _ (by decide +kernel)) ggX7_alone_X7_isLine
set_option maxRecDepth 20000 in
theorem ggX7_alone_X7_isPlace : GoodIn wsX7_alone wsX7_isPlace := goodIn_r _ [14, 15, 16, 10, 17] (by decide +kernel) (by decide +kernel)
set_option maxRecDepth 20000 in
theorem gX7_alone_X7_isPlace : GoodIn wsX7_alone (va_wsS RX7 74 yX7_isPlace wsX7_isPlace) := goodIn_app (goodIn_of _ (by decide +kernel)) ggX7_alone_X7_isPlace
set_option maxRecDepth 20000 in
theorem ggX7_alone_X7_follows : GoodIn wsX7_alone wsX7_follows := goodIn_r _ [21, 22, 3, 23, 2, 4, 24, 25, 26, 10, 27, 28, 29, 30, 31, 32, 33, 34, 15, 16, 17, 35, 36, 37, 38, 39, 40, 41, 46, 47, 48, 49, 50, 51, 52, 53, 54, 55, 56, 57, 58, 59, 60, 61, 62, 63, 64, 65, 66] (by decide +kernel) (by decide +kernel)
set_option maxRecDepth 20000 in
theorem gX7_alone_X7_follows : GoodIn wsX7_alone (wsV RX7 112 RX7 yX7_follows wsX7_follows) := goodIn_app (goodIn_of _ (by decide +kernel)) ggX7_alone_X7_follows
set_option maxRecDepth 20000 in
theorem ggX7_alone_X7_at : GoodIn wsX7_alone wsX7_at := goodIn_r _ [45, 4, 6, 24, 25, 26, 10, 27, 46, 47, 48, 49, 50, 51, 52, 53, 54, 55, 56, 57, 58, 59, 60, 61, 62, 63, 64, 65, 66] (by decide +kernel) (by decide +kernel)
set_option maxRecDepth 20000 in
theorem gX7_alone_X7_at : GoodIn wsX7_alone (wsV RX7 64 RX7 yX7_at wsX7_at) := goodIn_app (goodIn_of _ (by decide +kernel)) ggX7_alone_X7_at
theorem dX7_alone_0 : decode cX7_alone 0 = .ok (.aload_n 0, 1) := by decide +kernel
theorem dX7_alone_1 : decode cX7_alone 1 = .ok (.iload_n 1, 1) := by decide +kernel
theorem dX7_alone_2 : decode cX7_alone 2 = .ok (.invokevirtual 56, 3) := by decide +kernel
theorem dX7_alone_5 : decode cX7_alone 5 = .ok (.ifCond .eq 10, 3) := by decide +kernel
theorem dX7_alone_8 : decode cX7_alone 8 = .ok (.iload_n 2, 1) := by decide +kernel
theorem dX7_alone_9 : decode cX7_alone 9 = .ok (.invokestatic 74, 3) := by decide +kernel
theorem dX7_alone_12 : decode cX7_alone 12 = .ok (.ifCond .ne 6, 3) := by decide +kernel
theorem dX7_alone_15 : decode cX7_alone 15 = .ok (.ldc 51, 2) := by decide +kernel
theorem dX7_alone_17 : decode cX7_alone 17 = .ok (.ireturn, 1) := by decide +kernel
theorem dX7_alone_18 : decode cX7_alone 18 = .ok (.aload_n 0, 1) := by decide +kernel
theorem dX7_alone_19 : decode cX7_alone 19 = .ok (.iload_n 1, 1) := by decide +kernel
theorem dX7_alone_20 : decode cX7_alone 20 = .ok (.iload_n 2, 1) := by decide +kernel
theorem dX7_alone_21 : decode cX7_alone 21 = .ok (.invokevirtual 112, 3) := by decide +kernel
theorem dX7_alone_24 : decode cX7_alone 24 = .ok (.aload_n 0, 1) := by decide +kernel
theorem dX7_alone_25 : decode cX7_alone 25 = .ok (.getfield 100, 3) := by decide +kernel
theorem dX7_alone_28 : decode cX7_alone 28 = .ok (.ifCond .ne 7, 3) := by decide +kernel
theorem dX7_alone_31 : decode cX7_alone 31 = .ok (.iconst 1, 1) := by decide +kernel
theorem dX7_alone_32 : decode cX7_alone 32 = .ok (.goto 4, 3) := by decide +kernel
theorem dX7_alone_35 : decode cX7_alone 35 = .ok (.iconst 0, 1) := by decide +kernel
theorem dX7_alone_36 : decode cX7_alone 36 = .ok (.istore_n 3, 1) := by decide +kernel
theorem dX7_alone_37 : decode cX7_alone 37 = .ok (.aload_n 0, 1) := by decide +kernel
theorem dX7_alone_38 : decode cX7_alone 38 = .ok (.getfield 88, 3) := by decide +kernel
theorem dX7_alone_41 : decode cX7_alone 41 = .ok (.istore 4, 2) := by decide +kernel
theorem dX7_alone_43 : decode cX7_alone 43 = .ok (.iconst 0, 1) := by decide +kernel
theorem dX7_alone_44 : decode cX7_alone 44 = .ok (.istore 5, 2) := by decide +kernel
theorem dX7_alone_46 : decode cX7_alone 46 = .ok (.iconst 0, 1) := by decide +kernel
theorem dX7_alone_47 : decode cX7_alone 47 = .ok (.istore 6, 2) := by decide +kernel
theorem dX7_alone_49 : decode cX7_alone 49 = .ok (.iload 6, 2) := by decide +kernel
theorem dX7_alone_51 : decode cX7_alone 51 = .ok (.aload_n 0, 1) := by decide +kernel
theorem dX7_alone_52 : decode cX7_alone 52 = .ok (.getfield 7, 3) := by decide +kernel
theorem dX7_alone_55 : decode cX7_alone 55 = .ok (.iconst 0, 1) := by decide +kernel
theorem dX7_alone_56 : decode cX7_alone 56 = .ok (.iaload, 1) := by decide +kernel
theorem dX7_alone_57 : decode cX7_alone 57 = .ok (.if_icmp .ge 54, 3) := by decide +kernel
theorem dX7_alone_60 : decode cX7_alone 60 = .ok (.iload_n 3, 1) := by decide +kernel
theorem dX7_alone_61 : decode cX7_alone 61 = .ok (.ifCond .eq 50, 3) := by decide +kernel
theorem dX7_alone_64 : decode cX7_alone 64 = .ok (.aload_n 0, 1) := by decide +kernel
theorem dX7_alone_65 : decode cX7_alone 65 = .ok (.iload 6, 2) := by decide +kernel
theorem dX7_alone_67 : decode cX7_alone 67 = .ok (.iload_n 2, 1) := by decide +kernel
theorem dX7_alone_68 : decode cX7_alone 68 = .ok (.invokevirtual 112, 3) := by decide +kernel
theorem dX7_alone_71 : decode cX7_alone 71 = .ok (.iload 5, 2) := by decide +kernel
theorem dX7_alone_73 : decode cX7_alone 73 = .ok (.ifCond .ne 25, 3) := by decide +kernel
theorem dX7_alone_76 : decode cX7_alone 76 = .ok (.iload 6, 2) := by decide +kernel
theorem dX7_alone_78 : decode cX7_alone 78 = .ok (.iload_n 1, 1) := by decide +kernel
theorem dX7_alone_79 : decode cX7_alone 79 = .ok (.if_icmp .eq 23, 3) := by decide +kernel
theorem dX7_alone_82 : decode cX7_alone 82 = .ok (.aload_n 0, 1) := by decide +kernel
theorem dX7_alone_83 : decode cX7_alone 83 = .ok (.getfield 100, 3) := by decide +kernel
theorem dX7_alone_86 : decode cX7_alone 86 = .ok (.ifCond .ne 16, 3) := by decide +kernel
theorem dX7_alone_89 : decode cX7_alone 89 = .ok (.aload_n 0, 1) := by decide +kernel
theorem dX7_alone_90 : decode cX7_alone 90 = .ok (.getfield 88, 3) := by decide +kernel
theorem dX7_alone_93 : decode cX7_alone 93 = .ok (.iload 4, 2) := by decide +kernel
theorem dX7_alone_95 : decode cX7_alone 95 = .ok (.if_icmp .ne 7, 3) := by decide +kernel
theorem dX7_alone_98 : decode cX7_alone 98 = .ok (.iconst 1, 1) := by decide +kernel
theorem dX7_alone_99 : decode cX7_alone 99 = .ok (.goto 4, 3) := by decide +kernel
theorem dX7_alone_102 : decode cX7_alone 102 = .ok (.iconst 0, 1) := by decide +kernel
theorem dX7_alone_103 : decode cX7_alone 103 = .ok (.istore 5, 2) := by decide +kernel
theorem dX7_alone_105 : decode cX7_alone 105 = .ok (.iinc 6 1, 3) := by decide +kernel
theorem dX7_alone_108 : decode cX7_alone 108 = .ok (.goto (-59), 3) := by decide +kernel
theorem dX7_alone_111 : decode cX7_alone 111 = .ok (.aload_n 0, 1) := by decide +kernel
theorem dX7_alone_112 : decode cX7_alone 112 = .ok (.iload_n 2, 1) := by decide +kernel
theorem dX7_alone_113 : decode cX7_alone 113 = .ok (.invokevirtual 64, 3) := by decide +kernel
theorem dX7_alone_116 : decode cX7_alone 116 = .ok (.ifCond .ge 8, 3) := by decide +kernel
theorem dX7_alone_119 : decode cX7_alone 119 = .ok (.iload 5, 2) := by decide +kernel
theorem dX7_alone_121 : decode cX7_alone 121 = .ok (.ifCond .eq 8, 3) := by decide +kernel
theorem dX7_alone_124 : decode cX7_alone 124 = .ok (.ldc 67, 2) := by decide +kernel
theorem dX7_alone_126 : decode cX7_alone 126 = .ok (.goto 14, 3) := by decide +kernel
theorem dX7_alone_129 : decode cX7_alone 129 = .ok (.iload_n 3, 1) := by decide +kernel
theorem dX7_alone_130 : decode cX7_alone 130 = .ok (.ifCond .eq 8, 3) := by decide +kernel
theorem dX7_alone_133 : decode cX7_alone 133 = .ok (.iload 4, 2) := by decide +kernel
theorem dX7_alone_135 : decode cX7_alone 135 = .ok (.goto 5, 3) := by decide +kernel
theorem dX7_alone_138 : decode cX7_alone 138 = .ok (.ldc 46, 2) := by decide +kernel
theorem dX7_alone_140 : decode cX7_alone 140 = .ok (.ireturn, 1) := by decide +kernel
set_option maxRecDepth 20000 in
theorem ggX7_tuned_X7_at : GoodIn wsX7_tuned wsX7_at := goodIn_r _ [8, 3, 2, 9, 10, 11, 7, 12, 49, 50, 51, 52, 53, 54, 55, 56, 57, 58, 59, 60, 61, 62, 63, 64, 65, 66, 67, 68, 69] (by decide +kernel) (by decide +kernel)
set_option maxRecDepth 20000 in
theorem gX7_tuned_X7_at : GoodIn wsX7_tuned (wsV RX7 64 RX7 yX7_at wsX7_at) := goodIn_app (goodIn_of _ (by decide +kernel)) ggX7_tuned_X7_at
set_option maxRecDepth 20000 in
theorem ggX7_tuned_X7_of : GoodIn wsX7_tuned wsX7_of := goodIn_r _ [12, 3, 49, 50, 51, 52, 53, 54, 55, 56, 57, 58, 59, 60, 61, 62, 63, 64, 65, 66, 67, 68, 69] (by decide +kernel) (by decide +kernel)
set_option maxRecDepth 20000 in
theorem gX7_tuned_X7_of : GoodIn wsX7_tuned (wsV RX7 42 RX7 yX7_of wsX7_of) := goodIn_app (goodIn_of _ (by decide +kernel)) ggX7_tuned_X7_of
set_option maxRecDepth 20000 in
theorem ggX7_tuned_X7_coming : GoodIn wsX7_tuned wsX7_coming := goodIn_r _ [16, 3, 17, 18, 19, 20, 7, 21, 22, 23, 24, 9, 10, 11, 12, 25, 26, 27, 28, 29, 30, 31, 32, 33, 34, 35, 36, 37, 38, 39, 40, 41, 49, 50, 51, 52, 53, 54, 55, 56, 57, 58, 59, 60, 61, 62, 63, 64, 65, 66, 67, 68, 69] (by decide +kernel) (by decide +kernel)
set_option maxRecDepth 20000 in
theorem gX7_tuned_X7_coming : GoodIn wsX7_tuned (wsV RX7 120 RX7 yX7_coming wsX7_coming) := goodIn_app (goodIn_of _ (by decide +kernel)) ggX7_tuned_X7_coming
set_option maxRecDepth 20000 in
theorem ggX7_tuned_X7_ones : GoodIn wsX7_tuned wsX7_ones := goodIn_r _ [44] (by decide +kernel) (by decide +kernel)
set_option maxRecDepth 20000 in
theorem gX7_tuned_X7_ones : GoodIn wsX7_tuned (va_wsS RX7 143 yX7_ones wsX7_ones) := goodIn_app (goodIn_of _ (by decide +kernel)) ggX7_tuned_X7_ones
set_option maxRecDepth 20000 in
theorem ggX7_tuned_X7_spread : GoodIn wsX7_tuned wsX7_spread := goodIn_r _ [48, 3, 17, 23, 18, 19, 20, 7, 21, 22, 24, 9, 10, 11, 12, 25, 26, 27, 28, 29, 30, 31, 32, 33, 34, 35, 36, 37, 38, 39, 40, 41, 49, 50, 51, 52, 53, 54, 55, 56, 57, 58, 59, 60, 61, 62, 63, 64, 65, 66, 67, 68, 69] (by decide +kernel) (by decide +kernel)
set_option maxRecDepth 20000 in
theorem gX7_tuned_X7_spread : GoodIn wsX7_tuned (wsV RX7 146 RX7 yX7_spread wsX7_spread) := goodIn_app (goodIn_of _ (by decide +kernel)) ggX7_tuned_X7_spread
theorem dX7_tuned_0 : decode cX7_tuned 0 = .ok (.aload_n 0, 1) := by decide +kernel
theorem dX7_tuned_1 : decode cX7_tuned 1 = .ok (.iload_n 1, 1) := by decide +kernel
theorem dX7_tuned_2 : decode cX7_tuned 2 = .ok (.invokevirtual 64, 3) := by decide +kernel
theorem dX7_tuned_5 : decode cX7_tuned 5 = .ok (.istore_n 2, 1) := by decide +kernel
theorem dX7_tuned_6 : decode cX7_tuned 6 = .ok (.iload_n 2, 1) := by decide +kernel
theorem dX7_tuned_7 : decode cX7_tuned 7 = .ok (.ifCond .lt 13, 3) := by decide +kernel
theorem dX7_tuned_10 : decode cX7_tuned 10 = .ok (.aload_n 0, 1) := by decide +kernel
theorem dX7_tuned_11 : decode cX7_tuned 11 = .ok (.iload_n 2, 1) := by decide +kernel
theorem dX7_tuned_12 : decode cX7_tuned 12 = .ok (.iconst 1, 1) := by decide +kernel
theorem dX7_tuned_13 : decode cX7_tuned 13 = .ok (.invokevirtual 42, 3) := by decide +kernel
theorem dX7_tuned_16 : decode cX7_tuned 16 = .ok (.iconst 1, 1) := by decide +kernel
theorem dX7_tuned_17 : decode cX7_tuned 17 = .ok (.if_icmp .ne 6, 3) := by decide +kernel
theorem dX7_tuned_20 : decode cX7_tuned 20 = .ok (.ldc 51, 2) := by decide +kernel
theorem dX7_tuned_22 : decode cX7_tuned 22 = .ok (.ireturn, 1) := by decide +kernel
theorem dX7_tuned_23 : decode cX7_tuned 23 = .ok (.aload_n 0, 1) := by decide +kernel
theorem dX7_tuned_24 : decode cX7_tuned 24 = .ok (.iload_n 2, 1) := by decide +kernel
theorem dX7_tuned_25 : decode cX7_tuned 25 = .ok (.iconst 3, 1) := by decide +kernel
theorem dX7_tuned_26 : decode cX7_tuned 26 = .ok (.invokevirtual 42, 3) := by decide +kernel
theorem dX7_tuned_29 : decode cX7_tuned 29 = .ok (.istore_n 3, 1) := by decide +kernel
theorem dX7_tuned_30 : decode cX7_tuned 30 = .ok (.ldc 46, 2) := by decide +kernel
theorem dX7_tuned_32 : decode cX7_tuned 32 = .ok (.istore 4, 2) := by decide +kernel
theorem dX7_tuned_34 : decode cX7_tuned 34 = .ok (.iconst 0, 1) := by decide +kernel
theorem dX7_tuned_35 : decode cX7_tuned 35 = .ok (.istore 5, 2) := by decide +kernel
theorem dX7_tuned_37 : decode cX7_tuned 37 = .ok (.iconst 0, 1) := by decide +kernel
theorem dX7_tuned_38 : decode cX7_tuned 38 = .ok (.istore 6, 2) := by decide +kernel
theorem dX7_tuned_40 : decode cX7_tuned 40 = .ok (.iconst 1, 1) := by decide +kernel
theorem dX7_tuned_41 : decode cX7_tuned 41 = .ok (.istore 7, 2) := by decide +kernel
theorem dX7_tuned_43 : decode cX7_tuned 43 = .ok (.iload 7, 2) := by decide +kernel
theorem dX7_tuned_45 : decode cX7_tuned 45 = .ok (.bipush 100, 2) := by decide +kernel
theorem dX7_tuned_47 : decode cX7_tuned 47 = .ok (.if_icmp .ge 117, 3) := by decide +kernel
theorem dX7_tuned_50 : decode cX7_tuned 50 = .ok (.aload_n 0, 1) := by decide +kernel
theorem dX7_tuned_51 : decode cX7_tuned 51 = .ok (.getfield 7, 3) := by decide +kernel
theorem dX7_tuned_54 : decode cX7_tuned 54 = .ok (.bipush 19, 2) := by decide +kernel
theorem dX7_tuned_56 : decode cX7_tuned 56 = .ok (.iconst 5, 1) := by decide +kernel
theorem dX7_tuned_57 : decode cX7_tuned 57 = .ok (.iload_n 2, 1) := by decide +kernel
theorem dX7_tuned_58 : decode cX7_tuned 58 = .ok (.imul, 1) := by decide +kernel
theorem dX7_tuned_59 : decode cX7_tuned 59 = .ok (.iadd, 1) := by decide +kernel
theorem dX7_tuned_60 : decode cX7_tuned 60 = .ok (.iconst 3, 1) := by decide +kernel
theorem dX7_tuned_61 : decode cX7_tuned 61 = .ok (.iadd, 1) := by decide +kernel
theorem dX7_tuned_62 : decode cX7_tuned 62 = .ok (.iload 7, 2) := by decide +kernel
theorem dX7_tuned_64 : decode cX7_tuned 64 = .ok (.iastore, 1) := by decide +kernel
theorem dX7_tuned_65 : decode cX7_tuned 65 = .ok (.aload_n 0, 1) := by decide +kernel
theorem dX7_tuned_66 : decode cX7_tuned 66 = .ok (.sipush 1000, 3) := by decide +kernel
theorem dX7_tuned_69 : decode cX7_tuned 69 = .ok (.invokevirtual 120, 3) := by decide +kernel
theorem dX7_tuned_72 : decode cX7_tuned 72 = .ok (.invokestatic 143, 3) := by decide +kernel
theorem dX7_tuned_75 : decode cX7_tuned 75 = .ok (.istore 8, 2) := by decide +kernel
theorem dX7_tuned_77 : decode cX7_tuned 77 = .ok (.aload_n 0, 1) := by decide +kernel
theorem dX7_tuned_78 : decode cX7_tuned 78 = .ok (.invokevirtual 146, 3) := by decide +kernel
theorem dX7_tuned_81 : decode cX7_tuned 81 = .ok (.istore 9, 2) := by decide +kernel
theorem dX7_tuned_83 : decode cX7_tuned 83 = .ok (.iload 4, 2) := by decide +kernel
theorem dX7_tuned_85 : decode cX7_tuned 85 = .ok (.ifCond .lt 24, 3) := by decide +kernel
theorem dX7_tuned_88 : decode cX7_tuned 88 = .ok (.iload 8, 2) := by decide +kernel
theorem dX7_tuned_90 : decode cX7_tuned 90 = .ok (.iload 5, 2) := by decide +kernel
theorem dX7_tuned_92 : decode cX7_tuned 92 = .ok (.if_icmp .gt 17, 3) := by decide +kernel
theorem dX7_tuned_95 : decode cX7_tuned 95 = .ok (.iload 8, 2) := by decide +kernel
theorem dX7_tuned_97 : decode cX7_tuned 97 = .ok (.iload 5, 2) := by decide +kernel
theorem dX7_tuned_99 : decode cX7_tuned 99 = .ok (.if_icmp .ne 14, 3) := by decide +kernel
theorem dX7_tuned_102 : decode cX7_tuned 102 = .ok (.iload 9, 2) := by decide +kernel
theorem dX7_tuned_104 : decode cX7_tuned 104 = .ok (.iload 6, 2) := by decide +kernel
theorem dX7_tuned_106 : decode cX7_tuned 106 = .ok (.if_icmp .ge 7, 3) := by decide +kernel
theorem dX7_tuned_109 : decode cX7_tuned 109 = .ok (.iconst 1, 1) := by decide +kernel
theorem dX7_tuned_110 : decode cX7_tuned 110 = .ok (.goto 4, 3) := by decide +kernel
theorem dX7_tuned_113 : decode cX7_tuned 113 = .ok (.iconst 0, 1) := by decide +kernel
theorem dX7_tuned_114 : decode cX7_tuned 114 = .ok (.istore 10, 2) := by decide +kernel
theorem dX7_tuned_116 : decode cX7_tuned 116 = .ok (.iload 10, 2) := by decide +kernel
theorem dX7_tuned_118 : decode cX7_tuned 118 = .ok (.ifCond .eq 8, 3) := by decide +kernel
theorem dX7_tuned_121 : decode cX7_tuned 121 = .ok (.iload 7, 2) := by decide +kernel
theorem dX7_tuned_123 : decode cX7_tuned 123 = .ok (.goto 5, 3) := by decide +kernel
theorem dX7_tuned_126 : decode cX7_tuned 126 = .ok (.iload 4, 2) := by decide +kernel
theorem dX7_tuned_128 : decode cX7_tuned 128 = .ok (.istore 4, 2) := by decide +kernel
theorem dX7_tuned_130 : decode cX7_tuned 130 = .ok (.iload 10, 2) := by decide +kernel
theorem dX7_tuned_132 : decode cX7_tuned 132 = .ok (.ifCond .eq 8, 3) := by decide +kernel
theorem dX7_tuned_135 : decode cX7_tuned 135 = .ok (.iload 8, 2) := by decide +kernel
theorem dX7_tuned_137 : decode cX7_tuned 137 = .ok (.goto 5, 3) := by decide +kernel
theorem dX7_tuned_140 : decode cX7_tuned 140 = .ok (.iload 5, 2) := by decide +kernel
theorem dX7_tuned_142 : decode cX7_tuned 142 = .ok (.istore 5, 2) := by decide +kernel
theorem dX7_tuned_144 : decode cX7_tuned 144 = .ok (.iload 10, 2) := by decide +kernel
theorem dX7_tuned_146 : decode cX7_tuned 146 = .ok (.ifCond .eq 8, 3) := by decide +kernel
theorem dX7_tuned_149 : decode cX7_tuned 149 = .ok (.iload 9, 2) := by decide +kernel
theorem dX7_tuned_151 : decode cX7_tuned 151 = .ok (.goto 5, 3) := by decide +kernel
theorem dX7_tuned_154 : decode cX7_tuned 154 = .ok (.iload 6, 2) := by decide +kernel
theorem dX7_tuned_156 : decode cX7_tuned 156 = .ok (.istore 6, 2) := by decide +kernel
theorem dX7_tuned_158 : decode cX7_tuned 158 = .ok (.iinc 7 1, 3) := by decide +kernel
theorem dX7_tuned_161 : decode cX7_tuned 161 = .ok (.goto (-118), 3) := by decide +kernel
theorem dX7_tuned_164 : decode cX7_tuned 164 = .ok (.aload_n 0, 1) := by decide +kernel
theorem dX7_tuned_165 : decode cX7_tuned 165 = .ok (.getfield 7, 3) := by decide +kernel
theorem dX7_tuned_168 : decode cX7_tuned 168 = .ok (.bipush 19, 2) := by decide +kernel
theorem dX7_tuned_170 : decode cX7_tuned 170 = .ok (.iconst 5, 1) := by decide +kernel
theorem dX7_tuned_171 : decode cX7_tuned 171 = .ok (.iload_n 2, 1) := by decide +kernel
theorem dX7_tuned_172 : decode cX7_tuned 172 = .ok (.imul, 1) := by decide +kernel
theorem dX7_tuned_173 : decode cX7_tuned 173 = .ok (.iadd, 1) := by decide +kernel
theorem dX7_tuned_174 : decode cX7_tuned 174 = .ok (.iconst 3, 1) := by decide +kernel
theorem dX7_tuned_175 : decode cX7_tuned 175 = .ok (.iadd, 1) := by decide +kernel
theorem dX7_tuned_176 : decode cX7_tuned 176 = .ok (.iload_n 3, 1) := by decide +kernel
theorem dX7_tuned_177 : decode cX7_tuned 177 = .ok (.iastore, 1) := by decide +kernel
theorem dX7_tuned_178 : decode cX7_tuned 178 = .ok (.iload 4, 2) := by decide +kernel
theorem dX7_tuned_180 : decode cX7_tuned 180 = .ok (.ireturn, 1) := by decide +kernel
theorem dX7_allLines_0 : decode cX7_allLines 0 = .ok (.iconst 1, 1) := by decide +kernel
theorem dX7_allLines_1 : decode cX7_allLines 1 = .ok (.aload_n 0, 1) := by decide +kernel
theorem dX7_allLines_2 : decode cX7_allLines 2 = .ok (.getfield 7, 3) := by decide +kernel
theorem dX7_allLines_5 : decode cX7_allLines 5 = .ok (.iconst 0, 1) := by decide +kernel
theorem dX7_allLines_6 : decode cX7_allLines 6 = .ok (.iaload, 1) := by decide +kernel
theorem dX7_allLines_7 : decode cX7_allLines 7 = .ok (.ishl, 1) := by decide +kernel
theorem dX7_allLines_8 : decode cX7_allLines 8 = .ok (.iconst 1, 1) := by decide +kernel
theorem dX7_allLines_9 : decode cX7_allLines 9 = .ok (.isub, 1) := by decide +kernel
theorem dX7_allLines_10 : decode cX7_allLines 10 = .ok (.ireturn, 1) := by decide +kernel
set_option maxRecDepth 20000 in
theorem ggX7_share_X7_allLines : GoodIn wsX7_share wsX7_allLines := goodIn_r _ [6, 7, 61, 62, 63, 64, 65, 66, 67, 68, 69, 70, 71, 72, 73, 74, 75, 76, 77, 78, 79, 80, 81] (by decide +kernel) (by decide +kernel)
set_option maxRecDepth 20000 in
theorem gX7_share_X7_allLines : GoodIn wsX7_share (wsV RX7 149 RX7 yX7_allLines wsX7_allLines) := goodIn_app (goodIn_of _ (by decide +kernel)) ggX7_share_X7_allLines
set_option maxRecDepth 20000 in
theorem ggX7_share_X7_lightIn : GoodIn wsX7_share wsX7_lightIn := goodIn_r _ [11, 7, 12, 13, 14, 5, 15, 61, 62, 63, 64, 65, 66, 67, 68, 69, 70, 71, 72, 73, 74, 75, 76, 77, 78, 79, 80, 81] (by decide +kernel) (by decide +kernel)
set_option maxRecDepth 20000 in
theorem gX7_share_X7_lightIn : GoodIn wsX7_share (wsV RX7 129 RX7 yX7_lightIn wsX7_lightIn) := goodIn_app (goodIn_of _ (by decide +kernel)) ggX7_share_X7_lightIn
set_option maxRecDepth 20000 in
theorem ggX7_share_X7_coming : GoodIn wsX7_share wsX7_coming := goodIn_r _ [19, 7, 20, 21, 22, 23, 5, 24, 25, 26, 27, 28, 29, 30, 31, 32, 33, 34, 35, 36, 37, 38, 39, 40, 41, 42, 43, 44, 45, 46, 47, 48, 61, 62, 63, 64, 65, 66, 67, 68, 69, 70, 71, 72, 73, 74, 75, 76, 77, 78, 79, 80, 81] (by decide +kernel) (by decide +kernel)
set_option maxRecDepth 20000 in
theorem gX7_share_X7_coming : GoodIn wsX7_share (wsV RX7 120 RX7 yX7_coming wsX7_coming) := goodIn_app (goodIn_of _ (by decide +kernel)) ggX7_share_X7_coming
set_option maxRecDepth 20000 in
theorem ggX7_share_Jxf58ca_floatToIntBits_5c35a : GoodIn wsX7_share wsJxf58ca_floatToIntBits_5c35a := goodIn_r _ [52, 53, 54, 55, 56, 57, 58, 59, 51, 60] (by decide +kernel) (by decide +kernel)
set_option maxRecDepth 20000 in
theorem gX7_share_Jxf58ca_floatToIntBits_5c35a : GoodIn wsX7_share (va_wsS RX7 152 yJxf58ca_floatToIntBits_5c35a wsJxf58ca_floatToIntBits_5c35a) := goodIn_app (goodIn_of _ (by decide +kernel)) ggX7_share_Jxf58ca_floatToIntBits_5c35a
theorem dX7_share_0 : decode cX7_share 0 = .ok (.aload_n 0, 1) := by decide +kernel
theorem dX7_share_1 : decode cX7_share 1 = .ok (.aload_n 0, 1) := by decide +kernel
theorem dX7_share_2 : decode cX7_share 2 = .ok (.invokevirtual 149, 3) := by decide +kernel
theorem dX7_share_5 : decode cX7_share 5 = .ok (.invokevirtual 129, 3) := by decide +kernel
theorem dX7_share_8 : decode cX7_share 8 = .ok (.istore_n 1, 1) := by decide +kernel
theorem dX7_share_9 : decode cX7_share 9 = .ok (.aload_n 0, 1) := by decide +kernel
theorem dX7_share_10 : decode cX7_share 10 = .ok (.aload_n 0, 1) := by decide +kernel
theorem dX7_share_11 : decode cX7_share 11 = .ok (.sipush 1000, 3) := by decide +kernel
theorem dX7_share_14 : decode cX7_share 14 = .ok (.invokevirtual 120, 3) := by decide +kernel
theorem dX7_share_17 : decode cX7_share 17 = .ok (.invokevirtual 129, 3) := by decide +kernel
theorem dX7_share_20 : decode cX7_share 20 = .ok (.i2f, 1) := by decide +kernel
theorem dX7_share_21 : decode cX7_share 21 = .ok (.iload_n 1, 1) := by decide +kernel
theorem dX7_share_22 : decode cX7_share 22 = .ok (.ifCond .ne 7, 3) := by decide +kernel
theorem dX7_share_25 : decode cX7_share 25 = .ok (.iconst 1, 1) := by decide +kernel
theorem dX7_share_26 : decode cX7_share 26 = .ok (.goto 4, 3) := by decide +kernel
theorem dX7_share_29 : decode cX7_share 29 = .ok (.iload_n 1, 1) := by decide +kernel
theorem dX7_share_30 : decode cX7_share 30 = .ok (.i2f, 1) := by decide +kernel
theorem dX7_share_31 : decode cX7_share 31 = .ok (.fdiv, 1) := by decide +kernel
theorem dX7_share_32 : decode cX7_share 32 = .ok (.fstore_n 2, 1) := by decide +kernel
theorem dX7_share_33 : decode cX7_share 33 = .ok (.iload_n 1, 1) := by decide +kernel
theorem dX7_share_34 : decode cX7_share 34 = .ok (.ifCond .ne 8, 3) := by decide +kernel
theorem dX7_share_37 : decode cX7_share 37 = .ok (.ldc 46, 2) := by decide +kernel
theorem dX7_share_39 : decode cX7_share 39 = .ok (.goto 7, 3) := by decide +kernel
theorem dX7_share_42 : decode cX7_share 42 = .ok (.fload_n 2, 1) := by decide +kernel
theorem dX7_share_43 : decode cX7_share 43 = .ok (.invokestatic 152, 3) := by decide +kernel
theorem dX7_share_46 : decode cX7_share 46 = .ok (.ireturn, 1) := by decide +kernel
set_option maxRecDepth 20000 in
theorem ggX7_isJoined_X7_coming : GoodIn wsX7_isJoined wsX7_coming := goodIn_r _ [6, 1, 7, 8, 9, 10, 5, 11, 12, 13, 14, 15, 16, 17, 18, 19, 20, 21, 22, 23, 24, 25, 26, 27, 28, 29, 30, 31, 32, 33, 34, 35, 54, 55, 56, 57, 58, 59, 60, 61, 62, 63, 64, 65, 66, 67, 68, 69, 70, 71, 72, 73, 74] (by decide +kernel) (by decide +kernel)
set_option maxRecDepth 20000 in
theorem gX7_isJoined_X7_coming : GoodIn wsX7_isJoined (wsV RX7 120 RX7 yX7_coming wsX7_coming) := goodIn_app (goodIn_of _ (by decide +kernel)) ggX7_isJoined_X7_coming
set_option maxRecDepth 20000 in
theorem ggX7_isJoined_X7_allLines : GoodIn wsX7_isJoined wsX7_allLines := goodIn_r _ [39, 1, 54, 55, 56, 57, 58, 59, 60, 61, 62, 63, 64, 65, 66, 67, 68, 69, 70, 71, 72, 73, 74] (by decide +kernel) (by decide +kernel)
set_option maxRecDepth 20000 in
theorem gX7_isJoined_X7_allLines : GoodIn wsX7_isJoined (wsV RX7 149 RX7 yX7_allLines wsX7_allLines) := goodIn_app (goodIn_of _ (by decide +kernel)) ggX7_isJoined_X7_allLines
set_option maxRecDepth 20000 in
theorem ggX7_isJoined_X7_laysCells : GoodIn wsX7_isJoined wsX7_laysCells := goodIn_r _ [43, 1, 7, 44, 45, 8, 9, 10, 5, 11, 12, 13, 14, 15, 16, 17, 18, 19, 20, 21, 22, 23, 24, 25, 26, 27, 28, 29, 30, 31, 32, 33, 34, 35, 46, 47, 48, 49, 50, 51, 52, 53, 54, 55, 56, 57, 58, 59, 60, 61, 62, 63, 64, 65, 66, 67, 68, 69, 70, 71, 72, 73, 74] (by decide +kernel) (by decide +kernel)
set_option maxRecDepth 20000 in
theorem gX7_isJoined_X7_laysCells : GoodIn wsX7_isJoined (wsV RX7 132 RX7 yX7_laysCells wsX7_laysCells) := goodIn_app (goodIn_of _ (by decide +kernel)) ggX7_isJoined_X7_laysCells
theorem dX7_isJoined_0 : decode cX7_isJoined 0 = .ok (.aload_n 0, 1) := by decide +kernel
theorem dX7_isJoined_1 : decode cX7_isJoined 1 = .ok (.getfield 7, 3) := by decide +kernel
theorem dX7_isJoined_4 : decode cX7_isJoined 4 = .ok (.iconst 0, 1) := by decide +kernel
theorem dX7_isJoined_5 : decode cX7_isJoined 5 = .ok (.iaload, 1) := by decide +kernel
theorem dX7_isJoined_6 : decode cX7_isJoined 6 = .ok (.ifCond .le 29, 3) := by decide +kernel
theorem dX7_isJoined_9 : decode cX7_isJoined 9 = .ok (.aload_n 0, 1) := by decide +kernel
theorem dX7_isJoined_10 : decode cX7_isJoined 10 = .ok (.sipush 1000, 3) := by decide +kernel
theorem dX7_isJoined_13 : decode cX7_isJoined 13 = .ok (.invokevirtual 120, 3) := by decide +kernel
theorem dX7_isJoined_16 : decode cX7_isJoined 16 = .ok (.aload_n 0, 1) := by decide +kernel
theorem dX7_isJoined_17 : decode cX7_isJoined 17 = .ok (.invokevirtual 149, 3) := by decide +kernel
theorem dX7_isJoined_20 : decode cX7_isJoined 20 = .ok (.if_icmp .ne 15, 3) := by decide +kernel
theorem dX7_isJoined_23 : decode cX7_isJoined 23 = .ok (.aload_n 0, 1) := by decide +kernel
theorem dX7_isJoined_24 : decode cX7_isJoined 24 = .ok (.invokevirtual 132, 3) := by decide +kernel
theorem dX7_isJoined_27 : decode cX7_isJoined 27 = .ok (.iconst 1, 1) := by decide +kernel
theorem dX7_isJoined_28 : decode cX7_isJoined 28 = .ok (.if_icmp .ne 7, 3) := by decide +kernel
theorem dX7_isJoined_31 : decode cX7_isJoined 31 = .ok (.iconst 1, 1) := by decide +kernel
theorem dX7_isJoined_32 : decode cX7_isJoined 32 = .ok (.goto 4, 3) := by decide +kernel
theorem dX7_isJoined_35 : decode cX7_isJoined 35 = .ok (.iconst 0, 1) := by decide +kernel
theorem dX7_isJoined_36 : decode cX7_isJoined 36 = .ok (.ireturn, 1) := by decide +kernel
set_option maxRecDepth 20000 in
theorem ggX7_isAsItWas_X7_follows : GoodIn wsX7_isAsItWas wsX7_follows := goodIn_r _ [7, 8, 9, 1, 10, 2, 11, 12, 13, 6, 14, 15, 16, 17, 18, 19, 20, 21, 22, 23, 24, 25, 26, 27, 28, 29, 30, 31, 58, 59, 60, 61, 62, 63, 64, 65, 66, 67, 68, 69, 70, 71, 72, 73, 74, 75, 76, 77, 78] (by decide +kernel) (by decide +kernel)
set_option maxRecDepth 20000 in
theorem gX7_isAsItWas_X7_follows : GoodIn wsX7_isAsItWas (wsV RX7 112 RX7 yX7_follows wsX7_follows) := goodIn_app (goodIn_of _ (by decide +kernel)) ggX7_isAsItWas_X7_follows
set_option maxRecDepth 20000 in
theorem ggX7_isAsItWas_X7_isJoined : GoodIn wsX7_isAsItWas wsX7_isJoined := goodIn_r _ [35, 2, 36, 37, 38, 6, 39, 10, 3, 4, 5, 7, 8, 9, 1, 11, 12, 13, 14, 15, 16, 17, 18, 19, 20, 21, 22, 23, 24, 25, 26, 27, 28, 29, 30, 31, 40, 41, 42, 43, 44, 45, 46, 47, 48, 49, 50, 51, 52, 53, 54, 55, 56, 57, 58, 59, 60, 61, 62, 63, 64, 65, 66, 67, 68, 69, 70, 71, 72, 73, 74, 75, 76, 77, 78] (by decide +kernel) (by decide +kernel)
set_option maxRecDepth 20000 in
theorem gX7_isAsItWas_X7_isJoined : GoodIn wsX7_isAsItWas (wsV RX7 158 RX7 yX7_isJoined wsX7_isJoined) := goodIn_app (goodIn_of _ (by decide +kernel)) ggX7_isAsItWas_X7_isJoined
theorem dX7_isAsItWas_0 : decode cX7_isAsItWas 0 = .ok (.aload_n 0, 1) := by decide +kernel
theorem dX7_isAsItWas_1 : decode cX7_isAsItWas 1 = .ok (.iconst 0, 1) := by decide +kernel
theorem dX7_isAsItWas_2 : decode cX7_isAsItWas 2 = .ok (.sipush 1000, 3) := by decide +kernel
theorem dX7_isAsItWas_5 : decode cX7_isAsItWas 5 = .ok (.invokevirtual 112, 3) := by decide +kernel
theorem dX7_isAsItWas_8 : decode cX7_isAsItWas 8 = .ok (.aload_n 0, 1) := by decide +kernel
theorem dX7_isAsItWas_9 : decode cX7_isAsItWas 9 = .ok (.getfield 91, 3) := by decide +kernel
theorem dX7_isAsItWas_12 : decode cX7_isAsItWas 12 = .ok (.istore_n 1, 1) := by decide +kernel
theorem dX7_isAsItWas_13 : decode cX7_isAsItWas 13 = .ok (.aload_n 0, 1) := by decide +kernel
theorem dX7_isAsItWas_14 : decode cX7_isAsItWas 14 = .ok (.invokevirtual 158, 3) := by decide +kernel
theorem dX7_isAsItWas_17 : decode cX7_isAsItWas 17 = .ok (.istore_n 2, 1) := by decide +kernel
theorem dX7_isAsItWas_18 : decode cX7_isAsItWas 18 = .ok (.iconst 0, 1) := by decide +kernel
theorem dX7_isAsItWas_19 : decode cX7_isAsItWas 19 = .ok (.istore_n 3, 1) := by decide +kernel
theorem dX7_isAsItWas_20 : decode cX7_isAsItWas 20 = .ok (.iload_n 3, 1) := by decide +kernel
theorem dX7_isAsItWas_21 : decode cX7_isAsItWas 21 = .ok (.aload_n 0, 1) := by decide +kernel
theorem dX7_isAsItWas_22 : decode cX7_isAsItWas 22 = .ok (.getfield 7, 3) := by decide +kernel
theorem dX7_isAsItWas_25 : decode cX7_isAsItWas 25 = .ok (.iconst 0, 1) := by decide +kernel
theorem dX7_isAsItWas_26 : decode cX7_isAsItWas 26 = .ok (.iaload, 1) := by decide +kernel
theorem dX7_isAsItWas_27 : decode cX7_isAsItWas 27 = .ok (.if_icmp .ge 35, 3) := by decide +kernel
theorem dX7_isAsItWas_30 : decode cX7_isAsItWas 30 = .ok (.aload_n 0, 1) := by decide +kernel
theorem dX7_isAsItWas_31 : decode cX7_isAsItWas 31 = .ok (.iload_n 3, 1) := by decide +kernel
theorem dX7_isAsItWas_32 : decode cX7_isAsItWas 32 = .ok (.sipush 1000, 3) := by decide +kernel
theorem dX7_isAsItWas_35 : decode cX7_isAsItWas 35 = .ok (.invokevirtual 112, 3) := by decide +kernel
theorem dX7_isAsItWas_38 : decode cX7_isAsItWas 38 = .ok (.iload_n 2, 1) := by decide +kernel
theorem dX7_isAsItWas_39 : decode cX7_isAsItWas 39 = .ok (.ifCond .eq 15, 3) := by decide +kernel
theorem dX7_isAsItWas_42 : decode cX7_isAsItWas 42 = .ok (.aload_n 0, 1) := by decide +kernel
theorem dX7_isAsItWas_43 : decode cX7_isAsItWas 43 = .ok (.getfield 91, 3) := by decide +kernel
theorem dX7_isAsItWas_46 : decode cX7_isAsItWas 46 = .ok (.iload_n 1, 1) := by decide +kernel
theorem dX7_isAsItWas_47 : decode cX7_isAsItWas 47 = .ok (.if_icmp .ne 7, 3) := by decide +kernel
theorem dX7_isAsItWas_50 : decode cX7_isAsItWas 50 = .ok (.iconst 1, 1) := by decide +kernel
theorem dX7_isAsItWas_51 : decode cX7_isAsItWas 51 = .ok (.goto 4, 3) := by decide +kernel
theorem dX7_isAsItWas_54 : decode cX7_isAsItWas 54 = .ok (.iconst 0, 1) := by decide +kernel
theorem dX7_isAsItWas_55 : decode cX7_isAsItWas 55 = .ok (.istore_n 2, 1) := by decide +kernel
theorem dX7_isAsItWas_56 : decode cX7_isAsItWas 56 = .ok (.iinc 3 1, 3) := by decide +kernel
theorem dX7_isAsItWas_59 : decode cX7_isAsItWas 59 = .ok (.goto (-39), 3) := by decide +kernel
theorem dX7_isAsItWas_62 : decode cX7_isAsItWas 62 = .ok (.iload_n 2, 1) := by decide +kernel
theorem dX7_isAsItWas_63 : decode cX7_isAsItWas 63 = .ok (.ireturn, 1) := by decide +kernel
set_option maxRecDepth 20000 in
theorem ggX7_lostAtThings_X7_of : GoodIn wsX7_lostAtThings wsX7_of := goodIn_r _ [6, 1, 40, 41, 42, 43, 44, 45, 46, 47, 48, 49, 50, 51, 52, 53, 54, 55, 56, 57, 58, 59, 60] (by decide +kernel) (by decide +kernel)
set_option maxRecDepth 20000 in
theorem gX7_lostAtThings_X7_of : GoodIn wsX7_lostAtThings (wsV RX7 42 RX7 yX7_of wsX7_of) := goodIn_app (goodIn_of _ (by decide +kernel)) ggX7_lostAtThings_X7_of
set_option maxRecDepth 20000 in
theorem ggX7_lostAtThings_X7_lostAt : GoodIn wsX7_lostAtThings wsX7_lostAt := goodIn_r _ [10, 1, 11, 12, 13, 14, 15, 5, 16, 17, 18, 2, 3, 4, 6, 19, 20, 21, 22, 23, 24, 25, 26, 27, 28, 29, 30, 31, 32, 33, 34, 35, 36, 37, 38, 39, 40, 41, 42, 43, 44, 45, 46, 47, 48, 49, 50, 51, 52, 53, 54, 55, 56, 57, 58, 59, 60] (by decide +kernel) (by decide +kernel)
set_option maxRecDepth 20000 in
theorem gX7_lostAtThings_X7_lostAt : GoodIn wsX7_lostAtThings (wsV RX7 123 RX7 yX7_lostAt wsX7_lostAt) := goodIn_app (goodIn_of _ (by decide +kernel)) ggX7_lostAtThings_X7_lostAt
theorem dX7_lostAtThings_0 : decode cX7_lostAtThings 0 = .ok (.iconst 0, 1) := by decide +kernel
theorem dX7_lostAtThings_1 : decode cX7_lostAtThings 1 = .ok (.istore_n 1, 1) := by decide +kernel
theorem dX7_lostAtThings_2 : decode cX7_lostAtThings 2 = .ok (.iconst 0, 1) := by decide +kernel
theorem dX7_lostAtThings_3 : decode cX7_lostAtThings 3 = .ok (.istore_n 2, 1) := by decide +kernel
theorem dX7_lostAtThings_4 : decode cX7_lostAtThings 4 = .ok (.iload_n 2, 1) := by decide +kernel
theorem dX7_lostAtThings_5 : decode cX7_lostAtThings 5 = .ok (.aload_n 0, 1) := by decide +kernel
theorem dX7_lostAtThings_6 : decode cX7_lostAtThings 6 = .ok (.getfield 7, 3) := by decide +kernel
theorem dX7_lostAtThings_9 : decode cX7_lostAtThings 9 = .ok (.iconst 1, 1) := by decide +kernel
theorem dX7_lostAtThings_10 : decode cX7_lostAtThings 10 = .ok (.iaload, 1) := by decide +kernel
theorem dX7_lostAtThings_11 : decode cX7_lostAtThings 11 = .ok (.if_icmp .ge 22, 3) := by decide +kernel
theorem dX7_lostAtThings_14 : decode cX7_lostAtThings 14 = .ok (.iload_n 1, 1) := by decide +kernel
theorem dX7_lostAtThings_15 : decode cX7_lostAtThings 15 = .ok (.aload_n 0, 1) := by decide +kernel
theorem dX7_lostAtThings_16 : decode cX7_lostAtThings 16 = .ok (.aload_n 0, 1) := by decide +kernel
theorem dX7_lostAtThings_17 : decode cX7_lostAtThings 17 = .ok (.iload_n 2, 1) := by decide +kernel
theorem dX7_lostAtThings_18 : decode cX7_lostAtThings 18 = .ok (.iconst 0, 1) := by decide +kernel
theorem dX7_lostAtThings_19 : decode cX7_lostAtThings 19 = .ok (.invokevirtual 42, 3) := by decide +kernel
theorem dX7_lostAtThings_22 : decode cX7_lostAtThings 22 = .ok (.invokevirtual 123, 3) := by decide +kernel
theorem dX7_lostAtThings_25 : decode cX7_lostAtThings 25 = .ok (.iadd, 1) := by decide +kernel
theorem dX7_lostAtThings_26 : decode cX7_lostAtThings 26 = .ok (.istore_n 1, 1) := by decide +kernel
theorem dX7_lostAtThings_27 : decode cX7_lostAtThings 27 = .ok (.iinc 2 1, 3) := by decide +kernel
theorem dX7_lostAtThings_30 : decode cX7_lostAtThings 30 = .ok (.goto (-26), 3) := by decide +kernel
theorem dX7_lostAtThings_33 : decode cX7_lostAtThings 33 = .ok (.iload_n 1, 1) := by decide +kernel
theorem dX7_lostAtThings_34 : decode cX7_lostAtThings 34 = .ok (.ireturn, 1) := by decide +kernel
set_option maxRecDepth 20000 in
theorem ggX7_count_X7_coming : GoodIn wsX7_count wsX7_coming := goodIn_r _ [9, 1, 10, 11, 12, 13, 8, 14, 15, 16, 17, 18, 19, 20, 21, 22, 23, 24, 25, 26, 27, 28, 29, 30, 31, 32, 33, 34, 35, 36, 37, 38, 85, 86, 87, 88, 89, 90, 91, 92, 93, 94, 95, 96, 97, 98, 99, 100, 101, 102, 103, 104, 105] (by decide +kernel) (by decide +kernel)
set_option maxRecDepth 20000 in
theorem gX7_count_X7_coming : GoodIn wsX7_count (wsV RX7 120 RX7 yX7_coming wsX7_coming) := goodIn_app (goodIn_of _ (by decide +kernel)) ggX7_count_X7_coming
set_option maxRecDepth 20000 in
theorem ggX7_count_X7_spread : GoodIn wsX7_count wsX7_spread := goodIn_r _ [42, 1, 10, 16, 11, 12, 13, 8, 14, 15, 17, 18, 19, 20, 21, 22, 23, 24, 25, 26, 27, 28, 29, 30, 31, 32, 33, 34, 35, 36, 37, 38, 85, 86, 87, 88, 89, 90, 91, 92, 93, 94, 95, 96, 97, 98, 99, 100, 101, 102, 103, 104, 105] (by decide +kernel) (by decide +kernel)
set_option maxRecDepth 20000 in
theorem gX7_count_X7_spread : GoodIn wsX7_count (wsV RX7 146 RX7 yX7_spread wsX7_spread) := goodIn_app (goodIn_of _ (by decide +kernel)) ggX7_count_X7_spread
set_option maxRecDepth 20000 in
theorem ggX7_count_X7_isJoined : GoodIn wsX7_count wsX7_isJoined := goodIn_r _ [46, 1, 5, 6, 7, 8, 9, 10, 11, 12, 13, 14, 15, 16, 17, 18, 19, 20, 21, 22, 23, 24, 25, 26, 27, 28, 29, 30, 31, 32, 33, 34, 35, 36, 37, 38, 47, 48, 49, 50, 51, 52, 53, 54, 55, 56, 57, 58, 59, 60, 61, 62, 63, 64, 85, 86, 87, 88, 89, 90, 91, 92, 93, 94, 95, 96, 97, 98, 99, 100, 101, 102, 103, 104, 105] (by decide +kernel) (by decide +kernel)
set_option maxRecDepth 20000 in
theorem gX7_count_X7_isJoined : GoodIn wsX7_count (wsV RX7 158 RX7 yX7_isJoined wsX7_isJoined) := goodIn_app (goodIn_of _ (by decide +kernel)) ggX7_count_X7_isJoined
set_option maxRecDepth 20000 in
theorem ggX7_count_X7_isAsItWas : GoodIn wsX7_count wsX7_isAsItWas := goodIn_r _ [68, 17, 1, 11, 12, 13, 8, 14, 15, 16, 10, 18, 19, 20, 21, 22, 23, 24, 25, 26, 27, 28, 29, 30, 31, 32, 33, 34, 35, 36, 37, 38, 43, 44, 45, 46, 5, 6, 7, 9, 47, 48, 49, 50, 51, 52, 53, 54, 55, 56, 57, 58, 59, 60, 61, 62, 63, 64, 85, 86, 87, 88, 89, 90, 91, 92, 93, 94, 95, 96, 97, 98, 99, 100, 101, 102, 103, 104, 105] (by decide +kernel) (by decide +kernel)
set_option maxRecDepth 20000 in
theorem gX7_count_X7_isAsItWas : GoodIn wsX7_count (wsV RX7 162 RX7 yX7_isAsItWas wsX7_isAsItWas) := goodIn_app (goodIn_of _ (by decide +kernel)) ggX7_count_X7_isAsItWas
set_option maxRecDepth 20000 in
theorem ggX7_count_X7_allLines : GoodIn wsX7_count wsX7_allLines := goodIn_r _ [50, 1, 85, 86, 87, 88, 89, 90, 91, 92, 93, 94, 95, 96, 97, 98, 99, 100, 101, 102, 103, 104, 105] (by decide +kernel) (by decide +kernel)
set_option maxRecDepth 20000 in
theorem gX7_count_X7_allLines : GoodIn wsX7_count (wsV RX7 149 RX7 yX7_allLines wsX7_allLines) := goodIn_app (goodIn_of _ (by decide +kernel)) ggX7_count_X7_allLines
set_option maxRecDepth 20000 in
theorem ggX7_count_X7_lightIn : GoodIn wsX7_count wsX7_lightIn := goodIn_r _ [72, 1, 73, 74, 75, 8, 76, 85, 86, 87, 88, 89, 90, 91, 92, 93, 94, 95, 96, 97, 98, 99, 100, 101, 102, 103, 104, 105] (by decide +kernel) (by decide +kernel)
set_option maxRecDepth 20000 in
theorem gX7_count_X7_lightIn : GoodIn wsX7_count (wsV RX7 129 RX7 yX7_lightIn wsX7_lightIn) := goodIn_app (goodIn_of _ (by decide +kernel)) ggX7_count_X7_lightIn
set_option maxRecDepth 20000 in
theorem ggX7_count_X7_lostAtThings : GoodIn wsX7_count wsX7_lostAtThings := goodIn_r _ [80, 1, 18, 19, 20, 8, 21, 81, 82, 83, 84, 10, 15, 11, 12, 13, 14, 16, 17, 22, 23, 24, 25, 26, 27, 28, 29, 30, 31, 32, 33, 34, 35, 36, 37, 38, 73, 74, 75, 76, 85, 86, 87, 88, 89, 90, 91, 92, 93, 94, 95, 96, 97, 98, 99, 100, 101, 102, 103, 104, 105] (by decide +kernel) (by decide +kernel)
set_option maxRecDepth 20000 in
theorem gX7_count_X7_lostAtThings : GoodIn wsX7_count (wsV RX7 165 RX7 yX7_lostAtThings wsX7_lostAtThings) := goodIn_app (goodIn_of _ (by decide +kernel)) ggX7_count_X7_lostAtThings
set_option maxRecDepth 20000 in
theorem ggX7_count_X7_lostAt : GoodIn wsX7_count wsX7_lostAt := goodIn_r _ [84, 1, 10, 15, 11, 12, 13, 8, 14, 16, 17, 18, 19, 20, 21, 22, 23, 24, 25, 26, 27, 28, 29, 30, 31, 32, 33, 34, 35, 36, 37, 38, 73, 74, 75, 76, 85, 86, 87, 88, 89, 90, 91, 92, 93, 94, 95, 96, 97, 98, 99, 100, 101, 102, 103, 104, 105] (by decide +kernel) (by decide +kernel)
set_option maxRecDepth 20000 in
theorem gX7_count_X7_lostAt : GoodIn wsX7_count (wsV RX7 123 RX7 yX7_lostAt wsX7_lostAt) := goodIn_app (goodIn_of _ (by decide +kernel)) ggX7_count_X7_lostAt
set_option maxRecDepth 20000 in
theorem ggX7_count_X7_laysCells : GoodIn wsX7_count wsX7_laysCells := goodIn_r _ [54, 1, 10, 55, 56, 11, 12, 13, 8, 14, 15, 16, 17, 18, 19, 20, 21, 22, 23, 24, 25, 26, 27, 28, 29, 30, 31, 32, 33, 34, 35, 36, 37, 38, 57, 58, 59, 60, 61, 62, 63, 64, 85, 86, 87, 88, 89, 90, 91, 92, 93, 94, 95, 96, 97, 98, 99, 100, 101, 102, 103, 104, 105] (by decide +kernel) (by decide +kernel)
set_option maxRecDepth 20000 in
theorem gX7_count_X7_laysCells : GoodIn wsX7_count (wsV RX7 132 RX7 yX7_laysCells wsX7_laysCells) := goodIn_app (goodIn_of _ (by decide +kernel)) ggX7_count_X7_laysCells
theorem dX7_count_0 : decode cX7_count 0 = .ok (.iload_n 1, 1) := by decide +kernel
theorem dX7_count_1 : decode cX7_count 1 = .ok (.tableswitch 201 0 20 #[99, 99, 106, 114, 119, 132, 145, 154, 166, 171, 179, 184, 189, 201, 201, 201, 201, 201, 201, 201, 194], 99) := by decide +kernel
theorem dX7_count_100 : decode cX7_count 100 = .ok (.aload_n 0, 1) := by decide +kernel
theorem dX7_count_101 : decode cX7_count 101 = .ok (.getfield 7, 3) := by decide +kernel
theorem dX7_count_104 : decode cX7_count 104 = .ok (.iload_n 1, 1) := by decide +kernel
theorem dX7_count_105 : decode cX7_count 105 = .ok (.iaload, 1) := by decide +kernel
theorem dX7_count_106 : decode cX7_count 106 = .ok (.ireturn, 1) := by decide +kernel
theorem dX7_count_107 : decode cX7_count 107 = .ok (.aload_n 0, 1) := by decide +kernel
theorem dX7_count_108 : decode cX7_count 108 = .ok (.sipush 1000, 3) := by decide +kernel
theorem dX7_count_111 : decode cX7_count 111 = .ok (.invokevirtual 120, 3) := by decide +kernel
theorem dX7_count_114 : decode cX7_count 114 = .ok (.ireturn, 1) := by decide +kernel
theorem dX7_count_115 : decode cX7_count 115 = .ok (.aload_n 0, 1) := by decide +kernel
theorem dX7_count_116 : decode cX7_count 116 = .ok (.invokevirtual 146, 3) := by decide +kernel
theorem dX7_count_119 : decode cX7_count 119 = .ok (.ireturn, 1) := by decide +kernel
theorem dX7_count_120 : decode cX7_count 120 = .ok (.aload_n 0, 1) := by decide +kernel
theorem dX7_count_121 : decode cX7_count 121 = .ok (.invokevirtual 158, 3) := by decide +kernel
theorem dX7_count_124 : decode cX7_count 124 = .ok (.ifCond .eq 7, 3) := by decide +kernel
theorem dX7_count_127 : decode cX7_count 127 = .ok (.iconst 1, 1) := by decide +kernel
theorem dX7_count_128 : decode cX7_count 128 = .ok (.goto 4, 3) := by decide +kernel
theorem dX7_count_131 : decode cX7_count 131 = .ok (.iconst 0, 1) := by decide +kernel
theorem dX7_count_132 : decode cX7_count 132 = .ok (.ireturn, 1) := by decide +kernel
theorem dX7_count_133 : decode cX7_count 133 = .ok (.aload_n 0, 1) := by decide +kernel
theorem dX7_count_134 : decode cX7_count 134 = .ok (.invokevirtual 162, 3) := by decide +kernel
theorem dX7_count_137 : decode cX7_count 137 = .ok (.ifCond .eq 7, 3) := by decide +kernel
theorem dX7_count_140 : decode cX7_count 140 = .ok (.iconst 1, 1) := by decide +kernel
theorem dX7_count_141 : decode cX7_count 141 = .ok (.goto 4, 3) := by decide +kernel
theorem dX7_count_144 : decode cX7_count 144 = .ok (.iconst 0, 1) := by decide +kernel
theorem dX7_count_145 : decode cX7_count 145 = .ok (.ireturn, 1) := by decide +kernel
theorem dX7_count_146 : decode cX7_count 146 = .ok (.aload_n 0, 1) := by decide +kernel
theorem dX7_count_147 : decode cX7_count 147 = .ok (.aload_n 0, 1) := by decide +kernel
theorem dX7_count_148 : decode cX7_count 148 = .ok (.invokevirtual 149, 3) := by decide +kernel
theorem dX7_count_151 : decode cX7_count 151 = .ok (.invokevirtual 129, 3) := by decide +kernel
theorem dX7_count_154 : decode cX7_count 154 = .ok (.ireturn, 1) := by decide +kernel
theorem dX7_count_155 : decode cX7_count 155 = .ok (.aload_n 0, 1) := by decide +kernel
theorem dX7_count_156 : decode cX7_count 156 = .ok (.aload_n 0, 1) := by decide +kernel
theorem dX7_count_157 : decode cX7_count 157 = .ok (.sipush 1000, 3) := by decide +kernel
theorem dX7_count_160 : decode cX7_count 160 = .ok (.invokevirtual 120, 3) := by decide +kernel
theorem dX7_count_163 : decode cX7_count 163 = .ok (.invokevirtual 129, 3) := by decide +kernel
theorem dX7_count_166 : decode cX7_count 166 = .ok (.ireturn, 1) := by decide +kernel
theorem dX7_count_167 : decode cX7_count 167 = .ok (.aload_n 0, 1) := by decide +kernel
theorem dX7_count_168 : decode cX7_count 168 = .ok (.invokevirtual 165, 3) := by decide +kernel
theorem dX7_count_171 : decode cX7_count 171 = .ok (.ireturn, 1) := by decide +kernel
theorem dX7_count_172 : decode cX7_count 172 = .ok (.aload_n 0, 1) := by decide +kernel
theorem dX7_count_173 : decode cX7_count 173 = .ok (.sipush 1000, 3) := by decide +kernel
theorem dX7_count_176 : decode cX7_count 176 = .ok (.invokevirtual 123, 3) := by decide +kernel
theorem dX7_count_179 : decode cX7_count 179 = .ok (.ireturn, 1) := by decide +kernel
theorem dX7_count_180 : decode cX7_count 180 = .ok (.aload_n 0, 1) := by decide +kernel
theorem dX7_count_181 : decode cX7_count 181 = .ok (.invokevirtual 132, 3) := by decide +kernel
theorem dX7_count_184 : decode cX7_count 184 = .ok (.ireturn, 1) := by decide +kernel
theorem dX7_count_185 : decode cX7_count 185 = .ok (.aload_n 0, 1) := by decide +kernel
theorem dX7_count_186 : decode cX7_count 186 = .ok (.getfield 38, 3) := by decide +kernel
theorem dX7_count_189 : decode cX7_count 189 = .ok (.ireturn, 1) := by decide +kernel
theorem dX7_count_190 : decode cX7_count 190 = .ok (.aload_n 0, 1) := by decide +kernel
theorem dX7_count_191 : decode cX7_count 191 = .ok (.getfield 168, 3) := by decide +kernel
theorem dX7_count_194 : decode cX7_count 194 = .ok (.ireturn, 1) := by decide +kernel
theorem dX7_count_195 : decode cX7_count 195 = .ok (.aload_n 0, 1) := by decide +kernel
theorem dX7_count_196 : decode cX7_count 196 = .ok (.getfield 7, 3) := by decide +kernel
theorem dX7_count_199 : decode cX7_count 199 = .ok (.iconst 2, 1) := by decide +kernel
theorem dX7_count_200 : decode cX7_count 200 = .ok (.iaload, 1) := by decide +kernel
theorem dX7_count_201 : decode cX7_count 201 = .ok (.ireturn, 1) := by decide +kernel
theorem dX7_count_202 : decode cX7_count 202 = .ok (.ldc 51, 2) := by decide +kernel
theorem dX7_count_204 : decode cX7_count 204 = .ok (.ireturn, 1) := by decide +kernel
theorem dX7_undo_0 : decode cX7_undo 0 = .ok (.aload_n 0, 1) := by decide +kernel
theorem dX7_undo_1 : decode cX7_undo 1 = .ok (.getfield 38, 3) := by decide +kernel
theorem dX7_undo_4 : decode cX7_undo 4 = .ok (.ifCond .ne 6, 3) := by decide +kernel
theorem dX7_undo_7 : decode cX7_undo 7 = .ok (.ldc 67, 2) := by decide +kernel
theorem dX7_undo_9 : decode cX7_undo 9 = .ok (.ireturn, 1) := by decide +kernel
theorem dX7_undo_10 : decode cX7_undo 10 = .ok (.aload_n 0, 1) := by decide +kernel
theorem dX7_undo_11 : decode cX7_undo 11 = .ok (.dup, 1) := by decide +kernel
theorem dX7_undo_12 : decode cX7_undo 12 = .ok (.getfield 38, 3) := by decide +kernel
theorem dX7_undo_15 : decode cX7_undo 15 = .ok (.iconst 1, 1) := by decide +kernel
theorem dX7_undo_16 : decode cX7_undo 16 = .ok (.isub, 1) := by decide +kernel
theorem dX7_undo_17 : decode cX7_undo 17 = .ok (.putfield 38, 3) := by decide +kernel
theorem dX7_undo_20 : decode cX7_undo 20 = .ok (.iconst 0, 1) := by decide +kernel
theorem dX7_undo_21 : decode cX7_undo 21 = .ok (.istore_n 1, 1) := by decide +kernel
theorem dX7_undo_22 : decode cX7_undo 22 = .ok (.iload_n 1, 1) := by decide +kernel
theorem dX7_undo_23 : decode cX7_undo 23 = .ok (.bipush 59, 2) := by decide +kernel
theorem dX7_undo_25 : decode cX7_undo 25 = .ok (.if_icmp .ge 29, 3) := by decide +kernel
theorem dX7_undo_28 : decode cX7_undo 28 = .ok (.aload_n 0, 1) := by decide +kernel
theorem dX7_undo_29 : decode cX7_undo 29 = .ok (.getfield 7, 3) := by decide +kernel
theorem dX7_undo_32 : decode cX7_undo 32 = .ok (.iload_n 1, 1) := by decide +kernel
theorem dX7_undo_33 : decode cX7_undo 33 = .ok (.aload_n 0, 1) := by decide +kernel
theorem dX7_undo_34 : decode cX7_undo 34 = .ok (.getfield 13, 3) := by decide +kernel
theorem dX7_undo_37 : decode cX7_undo 37 = .ok (.bipush 59, 2) := by decide +kernel
theorem dX7_undo_39 : decode cX7_undo 39 = .ok (.aload_n 0, 1) := by decide +kernel
theorem dX7_undo_40 : decode cX7_undo 40 = .ok (.getfield 38, 3) := by decide +kernel
theorem dX7_undo_43 : decode cX7_undo 43 = .ok (.imul, 1) := by decide +kernel
theorem dX7_undo_44 : decode cX7_undo 44 = .ok (.iload_n 1, 1) := by decide +kernel
theorem dX7_undo_45 : decode cX7_undo 45 = .ok (.iadd, 1) := by decide +kernel
theorem dX7_undo_46 : decode cX7_undo 46 = .ok (.iaload, 1) := by decide +kernel
theorem dX7_undo_47 : decode cX7_undo 47 = .ok (.iastore, 1) := by decide +kernel
theorem dX7_undo_48 : decode cX7_undo 48 = .ok (.iinc 1 1, 3) := by decide +kernel
theorem dX7_undo_51 : decode cX7_undo 51 = .ok (.goto (-29), 3) := by decide +kernel
theorem dX7_undo_54 : decode cX7_undo 54 = .ok (.aload_n 0, 1) := by decide +kernel
theorem dX7_undo_55 : decode cX7_undo 55 = .ok (.getfield 38, 3) := by decide +kernel
theorem dX7_undo_58 : decode cX7_undo 58 = .ok (.ireturn, 1) := by decide +kernel
set_option maxRecDepth 20000 in
theorem ggX7_type_X7_in : GoodIn wsX7_type wsX7_in := goodIn_r _ [8] (by decide +kernel) (by decide +kernel)
set_option maxRecDepth 20000 in
theorem gX7_type_X7_in : GoodIn wsX7_type (va_wsS RX7 47 yX7_in wsX7_in) := goodIn_app (goodIn_of _ (by decide +kernel)) ggX7_type_X7_in
theorem dX7_type_0 : decode cX7_type 0 = .ok (.iload_n 1, 1) := by decide +kernel
theorem dX7_type_1 : decode cX7_type 1 = .ok (.bipush 32, 2) := by decide +kernel
theorem dX7_type_3 : decode cX7_type 3 = .ok (.bipush 126, 2) := by decide +kernel
theorem dX7_type_5 : decode cX7_type 5 = .ok (.invokestatic 47, 3) := by decide +kernel
theorem dX7_type_8 : decode cX7_type 8 = .ok (.ifCond .ne 6, 3) := by decide +kernel
theorem dX7_type_11 : decode cX7_type 11 = .ok (.ldc 51, 2) := by decide +kernel
theorem dX7_type_13 : decode cX7_type 13 = .ok (.ireturn, 1) := by decide +kernel
theorem dX7_type_14 : decode cX7_type 14 = .ok (.aload_n 0, 1) := by decide +kernel
theorem dX7_type_15 : decode cX7_type 15 = .ok (.getfield 168, 3) := by decide +kernel
theorem dX7_type_18 : decode cX7_type 18 = .ok (.bipush 60, 2) := by decide +kernel
theorem dX7_type_20 : decode cX7_type 20 = .ok (.if_icmp .ne 6, 3) := by decide +kernel
theorem dX7_type_23 : decode cX7_type 23 = .ok (.ldc 52, 2) := by decide +kernel
theorem dX7_type_25 : decode cX7_type 25 = .ok (.ireturn, 1) := by decide +kernel
theorem dX7_type_26 : decode cX7_type 26 = .ok (.aload_n 0, 1) := by decide +kernel
theorem dX7_type_27 : decode cX7_type 27 = .ok (.getfield 22, 3) := by decide +kernel
theorem dX7_type_30 : decode cX7_type 30 = .ok (.aload_n 0, 1) := by decide +kernel
theorem dX7_type_31 : decode cX7_type 31 = .ok (.getfield 168, 3) := by decide +kernel
theorem dX7_type_34 : decode cX7_type 34 = .ok (.iload_n 1, 1) := by decide +kernel
theorem dX7_type_35 : decode cX7_type 35 = .ok (.iastore, 1) := by decide +kernel
theorem dX7_type_36 : decode cX7_type 36 = .ok (.aload_n 0, 1) := by decide +kernel
theorem dX7_type_37 : decode cX7_type 37 = .ok (.dup, 1) := by decide +kernel
theorem dX7_type_38 : decode cX7_type 38 = .ok (.getfield 168, 3) := by decide +kernel
theorem dX7_type_41 : decode cX7_type 41 = .ok (.iconst 1, 1) := by decide +kernel
theorem dX7_type_42 : decode cX7_type 42 = .ok (.iadd, 1) := by decide +kernel
theorem dX7_type_43 : decode cX7_type 43 = .ok (.putfield 168, 3) := by decide +kernel
theorem dX7_type_46 : decode cX7_type 46 = .ok (.aload_n 0, 1) := by decide +kernel
theorem dX7_type_47 : decode cX7_type 47 = .ok (.getfield 168, 3) := by decide +kernel
theorem dX7_type_50 : decode cX7_type 50 = .ok (.ireturn, 1) := by decide +kernel
theorem dX7_clearText_0 : decode cX7_clearText 0 = .ok (.aload_n 0, 1) := by decide +kernel
theorem dX7_clearText_1 : decode cX7_clearText 1 = .ok (.getfield 168, 3) := by decide +kernel
theorem dX7_clearText_4 : decode cX7_clearText 4 = .ok (.istore_n 1, 1) := by decide +kernel
theorem dX7_clearText_5 : decode cX7_clearText 5 = .ok (.aload_n 0, 1) := by decide +kernel
theorem dX7_clearText_6 : decode cX7_clearText 6 = .ok (.iconst 0, 1) := by decide +kernel
theorem dX7_clearText_7 : decode cX7_clearText 7 = .ok (.putfield 168, 3) := by decide +kernel
theorem dX7_clearText_10 : decode cX7_clearText 10 = .ok (.iload_n 1, 1) := by decide +kernel
theorem dX7_clearText_11 : decode cX7_clearText 11 = .ok (.ireturn, 1) := by decide +kernel
set_option maxRecDepth 20000 in
theorem ggX7_isAt_X7_in : GoodIn wsX7_isAt wsX7_in := goodIn_r _ [7] (by decide +kernel) (by decide +kernel)
set_option maxRecDepth 20000 in
theorem gX7_isAt_X7_in : GoodIn wsX7_isAt (va_wsS RX7 47 yX7_in wsX7_in) := goodIn_app (goodIn_of _ (by decide +kernel)) ggX7_isAt_X7_in
theorem dX7_isAt_0 : decode cX7_isAt 0 = .ok (.aload_n 0, 1) := by decide +kernel
theorem dX7_isAt_1 : decode cX7_isAt 1 = .ok (.getfield 171, 3) := by decide +kernel
theorem dX7_isAt_4 : decode cX7_isAt 4 = .ok (.aload_n 0, 1) := by decide +kernel
theorem dX7_isAt_5 : decode cX7_isAt 5 = .ok (.getfield 168, 3) := by decide +kernel
theorem dX7_isAt_8 : decode cX7_isAt 8 = .ok (.if_icmp .ge 24, 3) := by decide +kernel
theorem dX7_isAt_11 : decode cX7_isAt 11 = .ok (.aload_n 0, 1) := by decide +kernel
theorem dX7_isAt_12 : decode cX7_isAt 12 = .ok (.getfield 22, 3) := by decide +kernel
theorem dX7_isAt_15 : decode cX7_isAt 15 = .ok (.aload_n 0, 1) := by decide +kernel
theorem dX7_isAt_16 : decode cX7_isAt 16 = .ok (.getfield 171, 3) := by decide +kernel
theorem dX7_isAt_19 : decode cX7_isAt 19 = .ok (.iaload, 1) := by decide +kernel
theorem dX7_isAt_20 : decode cX7_isAt 20 = .ok (.iload_n 1, 1) := by decide +kernel
theorem dX7_isAt_21 : decode cX7_isAt 21 = .ok (.iload_n 2, 1) := by decide +kernel
theorem dX7_isAt_22 : decode cX7_isAt 22 = .ok (.invokestatic 47, 3) := by decide +kernel
theorem dX7_isAt_25 : decode cX7_isAt 25 = .ok (.ifCond .eq 7, 3) := by decide +kernel
theorem dX7_isAt_28 : decode cX7_isAt 28 = .ok (.iconst 1, 1) := by decide +kernel
theorem dX7_isAt_29 : decode cX7_isAt 29 = .ok (.goto 4, 3) := by decide +kernel
theorem dX7_isAt_32 : decode cX7_isAt 32 = .ok (.iconst 0, 1) := by decide +kernel
theorem dX7_isAt_33 : decode cX7_isAt 33 = .ok (.ireturn, 1) := by decide +kernel
set_option maxRecDepth 20000 in
theorem ggX7_sign_X7_isAt : GoodIn wsX7_sign wsX7_isAt := goodIn_r _ [6, 1, 7, 8, 9, 10, 5, 11, 12, 13, 14, 15, 16, 17, 18, 19, 20, 21, 22, 23, 24, 25, 26, 27, 28, 29, 30, 31, 32] (by decide +kernel) (by decide +kernel)
set_option maxRecDepth 20000 in
theorem gX7_sign_X7_isAt : GoodIn wsX7_sign (wsV RX7 174 RX7 yX7_isAt wsX7_isAt) := goodIn_app (goodIn_of _ (by decide +kernel)) ggX7_sign_X7_isAt
theorem dX7_sign_0 : decode cX7_sign 0 = .ok (.aload_n 0, 1) := by decide +kernel
theorem dX7_sign_1 : decode cX7_sign 1 = .ok (.iload_n 1, 1) := by decide +kernel
theorem dX7_sign_2 : decode cX7_sign 2 = .ok (.iload_n 1, 1) := by decide +kernel
theorem dX7_sign_3 : decode cX7_sign 3 = .ok (.invokevirtual 174, 3) := by decide +kernel
theorem dX7_sign_6 : decode cX7_sign 6 = .ok (.istore_n 2, 1) := by decide +kernel
theorem dX7_sign_7 : decode cX7_sign 7 = .ok (.aload_n 0, 1) := by decide +kernel
theorem dX7_sign_8 : decode cX7_sign 8 = .ok (.dup, 1) := by decide +kernel
theorem dX7_sign_9 : decode cX7_sign 9 = .ok (.getfield 171, 3) := by decide +kernel
theorem dX7_sign_12 : decode cX7_sign 12 = .ok (.iload_n 2, 1) := by decide +kernel
theorem dX7_sign_13 : decode cX7_sign 13 = .ok (.ifCond .eq 7, 3) := by decide +kernel
theorem dX7_sign_16 : decode cX7_sign 16 = .ok (.iconst 1, 1) := by decide +kernel
theorem dX7_sign_17 : decode cX7_sign 17 = .ok (.goto 4, 3) := by decide +kernel
theorem dX7_sign_20 : decode cX7_sign 20 = .ok (.iconst 0, 1) := by decide +kernel
theorem dX7_sign_21 : decode cX7_sign 21 = .ok (.iadd, 1) := by decide +kernel
theorem dX7_sign_22 : decode cX7_sign 22 = .ok (.putfield 171, 3) := by decide +kernel
theorem dX7_sign_25 : decode cX7_sign 25 = .ok (.iload_n 2, 1) := by decide +kernel
theorem dX7_sign_26 : decode cX7_sign 26 = .ok (.ireturn, 1) := by decide +kernel
set_option maxRecDepth 20000 in
theorem ggX7_numbered_X7_isAt : GoodIn wsX7_numbered wsX7_isAt := goodIn_r _ [8, 1, 9, 3, 10, 11, 7, 12, 13, 14, 15, 16, 17, 18, 19, 20, 21, 22, 23, 24, 25, 26, 27, 28, 29, 30, 31, 32, 33] (by decide +kernel) (by decide +kernel)
set_option maxRecDepth 20000 in
theorem gX7_numbered_X7_isAt : GoodIn wsX7_numbered (wsV RX7 174 RX7 yX7_isAt wsX7_isAt) := goodIn_app (goodIn_of _ (by decide +kernel)) ggX7_numbered_X7_isAt
theorem dX7_numbered_0 : decode cX7_numbered 0 = .ok (.aload_n 0, 1) := by decide +kernel
theorem dX7_numbered_1 : decode cX7_numbered 1 = .ok (.getfield 171, 3) := by decide +kernel
theorem dX7_numbered_4 : decode cX7_numbered 4 = .ok (.istore_n 2, 1) := by decide +kernel
theorem dX7_numbered_5 : decode cX7_numbered 5 = .ok (.aload_n 0, 1) := by decide +kernel
theorem dX7_numbered_6 : decode cX7_numbered 6 = .ok (.getfield 31, 3) := by decide +kernel
theorem dX7_numbered_9 : decode cX7_numbered 9 = .ok (.iload_n 1, 1) := by decide +kernel
theorem dX7_numbered_10 : decode cX7_numbered 10 = .ok (.iconst 0, 1) := by decide +kernel
theorem dX7_numbered_11 : decode cX7_numbered 11 = .ok (.iastore, 1) := by decide +kernel
theorem dX7_numbered_12 : decode cX7_numbered 12 = .ok (.aload_n 0, 1) := by decide +kernel
theorem dX7_numbered_13 : decode cX7_numbered 13 = .ok (.bipush 48, 2) := by decide +kernel
theorem dX7_numbered_15 : decode cX7_numbered 15 = .ok (.bipush 57, 2) := by decide +kernel
theorem dX7_numbered_17 : decode cX7_numbered 17 = .ok (.invokevirtual 174, 3) := by decide +kernel
theorem dX7_numbered_20 : decode cX7_numbered 20 = .ok (.ifCond .eq 54, 3) := by decide +kernel
theorem dX7_numbered_23 : decode cX7_numbered 23 = .ok (.aload_n 0, 1) := by decide +kernel
theorem dX7_numbered_24 : decode cX7_numbered 24 = .ok (.getfield 171, 3) := by decide +kernel
theorem dX7_numbered_27 : decode cX7_numbered 27 = .ok (.iload_n 2, 1) := by decide +kernel
theorem dX7_numbered_28 : decode cX7_numbered 28 = .ok (.isub, 1) := by decide +kernel
theorem dX7_numbered_29 : decode cX7_numbered 29 = .ok (.iconst 4, 1) := by decide +kernel
theorem dX7_numbered_30 : decode cX7_numbered 30 = .ok (.if_icmp .ge 44, 3) := by decide +kernel
theorem dX7_numbered_33 : decode cX7_numbered 33 = .ok (.aload_n 0, 1) := by decide +kernel
theorem dX7_numbered_34 : decode cX7_numbered 34 = .ok (.getfield 31, 3) := by decide +kernel
theorem dX7_numbered_37 : decode cX7_numbered 37 = .ok (.iload_n 1, 1) := by decide +kernel
theorem dX7_numbered_38 : decode cX7_numbered 38 = .ok (.bipush 10, 2) := by decide +kernel
theorem dX7_numbered_40 : decode cX7_numbered 40 = .ok (.aload_n 0, 1) := by decide +kernel
theorem dX7_numbered_41 : decode cX7_numbered 41 = .ok (.getfield 31, 3) := by decide +kernel
theorem dX7_numbered_44 : decode cX7_numbered 44 = .ok (.iload_n 1, 1) := by decide +kernel
theorem dX7_numbered_45 : decode cX7_numbered 45 = .ok (.iaload, 1) := by decide +kernel
theorem dX7_numbered_46 : decode cX7_numbered 46 = .ok (.imul, 1) := by decide +kernel
theorem dX7_numbered_47 : decode cX7_numbered 47 = .ok (.aload_n 0, 1) := by decide +kernel
theorem dX7_numbered_48 : decode cX7_numbered 48 = .ok (.getfield 22, 3) := by decide +kernel
theorem dX7_numbered_51 : decode cX7_numbered 51 = .ok (.aload_n 0, 1) := by decide +kernel
theorem dX7_numbered_52 : decode cX7_numbered 52 = .ok (.getfield 171, 3) := by decide +kernel
theorem dX7_numbered_55 : decode cX7_numbered 55 = .ok (.iaload, 1) := by decide +kernel
theorem dX7_numbered_56 : decode cX7_numbered 56 = .ok (.iadd, 1) := by decide +kernel
theorem dX7_numbered_57 : decode cX7_numbered 57 = .ok (.bipush 48, 2) := by decide +kernel
theorem dX7_numbered_59 : decode cX7_numbered 59 = .ok (.isub, 1) := by decide +kernel
theorem dX7_numbered_60 : decode cX7_numbered 60 = .ok (.iastore, 1) := by decide +kernel
theorem dX7_numbered_61 : decode cX7_numbered 61 = .ok (.aload_n 0, 1) := by decide +kernel
theorem dX7_numbered_62 : decode cX7_numbered 62 = .ok (.dup, 1) := by decide +kernel
theorem dX7_numbered_63 : decode cX7_numbered 63 = .ok (.getfield 171, 3) := by decide +kernel
theorem dX7_numbered_66 : decode cX7_numbered 66 = .ok (.iconst 1, 1) := by decide +kernel
theorem dX7_numbered_67 : decode cX7_numbered 67 = .ok (.iadd, 1) := by decide +kernel
theorem dX7_numbered_68 : decode cX7_numbered 68 = .ok (.putfield 171, 3) := by decide +kernel
theorem dX7_numbered_71 : decode cX7_numbered 71 = .ok (.goto (-59), 3) := by decide +kernel
theorem dX7_numbered_74 : decode cX7_numbered 74 = .ok (.aload_n 0, 1) := by decide +kernel
theorem dX7_numbered_75 : decode cX7_numbered 75 = .ok (.getfield 171, 3) := by decide +kernel
theorem dX7_numbered_78 : decode cX7_numbered 78 = .ok (.iload_n 2, 1) := by decide +kernel
theorem dX7_numbered_79 : decode cX7_numbered 79 = .ok (.if_icmp .le 7, 3) := by decide +kernel
theorem dX7_numbered_82 : decode cX7_numbered 82 = .ok (.iconst 1, 1) := by decide +kernel
theorem dX7_numbered_83 : decode cX7_numbered 83 = .ok (.goto 4, 3) := by decide +kernel
theorem dX7_numbered_86 : decode cX7_numbered 86 = .ok (.iconst 0, 1) := by decide +kernel
theorem dX7_numbered_87 : decode cX7_numbered 87 = .ok (.ireturn, 1) := by decide +kernel
theorem dX7_numbersOf_0 : decode cX7_numbersOf 0 = .ok (.iload_n 0, 1) := by decide +kernel
theorem dX7_numbersOf_1 : decode cX7_numbersOf 1 = .ok (.bipush 117, 2) := by decide +kernel
theorem dX7_numbersOf_3 : decode cX7_numbersOf 3 = .ok (.if_icmp .eq 9, 3) := by decide +kernel
theorem dX7_numbersOf_6 : decode cX7_numbersOf 6 = .ok (.iload_n 0, 1) := by decide +kernel
theorem dX7_numbersOf_7 : decode cX7_numbersOf 7 = .ok (.bipush 100, 2) := by decide +kernel
theorem dX7_numbersOf_9 : decode cX7_numbersOf 9 = .ok (.if_icmp .ne 7, 3) := by decide +kernel
theorem dX7_numbersOf_12 : decode cX7_numbersOf 12 = .ok (.iconst 3, 1) := by decide +kernel
theorem dX7_numbersOf_13 : decode cX7_numbersOf 13 = .ok (.goto 30, 3) := by decide +kernel
theorem dX7_numbersOf_16 : decode cX7_numbersOf 16 = .ok (.iload_n 0, 1) := by decide +kernel
theorem dX7_numbersOf_17 : decode cX7_numbersOf 17 = .ok (.bipush 108, 2) := by decide +kernel
theorem dX7_numbersOf_19 : decode cX7_numbersOf 19 = .ok (.if_icmp .eq 9, 3) := by decide +kernel
theorem dX7_numbersOf_22 : decode cX7_numbersOf 22 = .ok (.iload_n 0, 1) := by decide +kernel
theorem dX7_numbersOf_23 : decode cX7_numbersOf 23 = .ok (.bipush 115, 2) := by decide +kernel
theorem dX7_numbersOf_25 : decode cX7_numbersOf 25 = .ok (.if_icmp .ne 7, 3) := by decide +kernel
theorem dX7_numbersOf_28 : decode cX7_numbersOf 28 = .ok (.iconst 2, 1) := by decide +kernel
theorem dX7_numbersOf_29 : decode cX7_numbersOf 29 = .ok (.goto 14, 3) := by decide +kernel
theorem dX7_numbersOf_32 : decode cX7_numbersOf 32 = .ok (.iload_n 0, 1) := by decide +kernel
theorem dX7_numbersOf_33 : decode cX7_numbersOf 33 = .ok (.bipush 120, 2) := by decide +kernel
theorem dX7_numbersOf_35 : decode cX7_numbersOf 35 = .ok (.if_icmp .ne 7, 3) := by decide +kernel
theorem dX7_numbersOf_38 : decode cX7_numbersOf 38 = .ok (.iconst 1, 1) := by decide +kernel
theorem dX7_numbersOf_39 : decode cX7_numbersOf 39 = .ok (.goto 4, 3) := by decide +kernel
theorem dX7_numbersOf_42 : decode cX7_numbersOf 42 = .ok (.iconst 0, 1) := by decide +kernel
theorem dX7_numbersOf_43 : decode cX7_numbersOf 43 = .ok (.ireturn, 1) := by decide +kernel
set_option maxRecDepth 20000 in
theorem ggX7_reads_X7_isAt : GoodIn wsX7_reads wsX7_isAt := goodIn_r _ [8, 2, 9, 1, 10, 11, 7, 12, 25, 26, 27, 28, 29, 30, 31, 32, 33, 34, 35, 36, 37, 38, 39, 40, 41, 42, 43, 44, 45] (by decide +kernel) (by decide +kernel)
set_option maxRecDepth 20000 in
theorem gX7_reads_X7_isAt : GoodIn wsX7_reads (wsV RX7 174 RX7 yX7_isAt wsX7_isAt) := goodIn_app (goodIn_of _ (by decide +kernel)) ggX7_reads_X7_isAt
set_option maxRecDepth 20000 in
theorem ggX7_reads_X7_numbersOf : GoodIn wsX7_reads wsX7_numbersOf := goodIn_r _ [15] (by decide +kernel) (by decide +kernel)
set_option maxRecDepth 20000 in
theorem gX7_reads_X7_numbersOf : GoodIn wsX7_reads (va_wsS RX7 180 yX7_numbersOf wsX7_numbersOf) := goodIn_app (goodIn_of _ (by decide +kernel)) ggX7_reads_X7_numbersOf
set_option maxRecDepth 20000 in
theorem ggX7_reads_X7_numbered : GoodIn wsX7_reads wsX7_numbered := goodIn_r _ [19, 2, 20, 1, 4, 5, 6, 7, 8, 9, 10, 11, 12, 25, 26, 27, 28, 29, 30, 31, 32, 33, 34, 35, 36, 37, 38, 39, 40, 41, 42, 43, 44, 45] (by decide +kernel) (by decide +kernel)
set_option maxRecDepth 20000 in
theorem gX7_reads_X7_numbered : GoodIn wsX7_reads (wsV RX7 183 RX7 yX7_numbered wsX7_numbered) := goodIn_app (goodIn_of _ (by decide +kernel)) ggX7_reads_X7_numbered
set_option maxRecDepth 20000 in
theorem ggX7_reads_X7_sign : GoodIn wsX7_reads wsX7_sign := goodIn_r _ [24, 2, 4, 5, 6, 7, 8, 9, 1, 10, 11, 12, 25, 26, 27, 28, 29, 30, 31, 32, 33, 34, 35, 36, 37, 38, 39, 40, 41, 42, 43, 44, 45] (by decide +kernel) (by decide +kernel)
set_option maxRecDepth 20000 in
theorem gX7_reads_X7_sign : GoodIn wsX7_reads (wsV RX7 186 RX7 yX7_sign wsX7_sign) := goodIn_app (goodIn_of _ (by decide +kernel)) ggX7_reads_X7_sign
theorem dX7_reads_0 : decode cX7_reads 0 = .ok (.aload_n 0, 1) := by decide +kernel
theorem dX7_reads_1 : decode cX7_reads 1 = .ok (.aload_n 0, 1) := by decide +kernel
theorem dX7_reads_2 : decode cX7_reads 2 = .ok (.bipush 33, 2) := by decide +kernel
theorem dX7_reads_4 : decode cX7_reads 4 = .ok (.bipush 126, 2) := by decide +kernel
theorem dX7_reads_6 : decode cX7_reads 6 = .ok (.invokevirtual 174, 3) := by decide +kernel
theorem dX7_reads_9 : decode cX7_reads 9 = .ok (.ifCond .eq 15, 3) := by decide +kernel
theorem dX7_reads_12 : decode cX7_reads 12 = .ok (.aload_n 0, 1) := by decide +kernel
theorem dX7_reads_13 : decode cX7_reads 13 = .ok (.getfield 22, 3) := by decide +kernel
theorem dX7_reads_16 : decode cX7_reads 16 = .ok (.aload_n 0, 1) := by decide +kernel
theorem dX7_reads_17 : decode cX7_reads 17 = .ok (.getfield 171, 3) := by decide +kernel
theorem dX7_reads_20 : decode cX7_reads 20 = .ok (.iaload, 1) := by decide +kernel
theorem dX7_reads_21 : decode cX7_reads 21 = .ok (.goto 4, 3) := by decide +kernel
theorem dX7_reads_24 : decode cX7_reads 24 = .ok (.iconst 0, 1) := by decide +kernel
theorem dX7_reads_25 : decode cX7_reads 25 = .ok (.putfield 177, 3) := by decide +kernel
theorem dX7_reads_28 : decode cX7_reads 28 = .ok (.aload_n 0, 1) := by decide +kernel
theorem dX7_reads_29 : decode cX7_reads 29 = .ok (.getfield 177, 3) := by decide +kernel
theorem dX7_reads_32 : decode cX7_reads 32 = .ok (.invokestatic 180, 3) := by decide +kernel
theorem dX7_reads_35 : decode cX7_reads 35 = .ok (.istore_n 1, 1) := by decide +kernel
theorem dX7_reads_36 : decode cX7_reads 36 = .ok (.iload_n 1, 1) := by decide +kernel
theorem dX7_reads_37 : decode cX7_reads 37 = .ok (.ifCond .ne 5, 3) := by decide +kernel
theorem dX7_reads_40 : decode cX7_reads 40 = .ok (.iconst 0, 1) := by decide +kernel
theorem dX7_reads_41 : decode cX7_reads 41 = .ok (.ireturn, 1) := by decide +kernel
theorem dX7_reads_42 : decode cX7_reads 42 = .ok (.aload_n 0, 1) := by decide +kernel
theorem dX7_reads_43 : decode cX7_reads 43 = .ok (.dup, 1) := by decide +kernel
theorem dX7_reads_44 : decode cX7_reads 44 = .ok (.getfield 171, 3) := by decide +kernel
theorem dX7_reads_47 : decode cX7_reads 47 = .ok (.iconst 1, 1) := by decide +kernel
theorem dX7_reads_48 : decode cX7_reads 48 = .ok (.iadd, 1) := by decide +kernel
theorem dX7_reads_49 : decode cX7_reads 49 = .ok (.putfield 171, 3) := by decide +kernel
theorem dX7_reads_52 : decode cX7_reads 52 = .ok (.aload_n 0, 1) := by decide +kernel
theorem dX7_reads_53 : decode cX7_reads 53 = .ok (.iconst 0, 1) := by decide +kernel
theorem dX7_reads_54 : decode cX7_reads 54 = .ok (.invokevirtual 183, 3) := by decide +kernel
theorem dX7_reads_57 : decode cX7_reads 57 = .ok (.istore_n 2, 1) := by decide +kernel
theorem dX7_reads_58 : decode cX7_reads 58 = .ok (.iconst 1, 1) := by decide +kernel
theorem dX7_reads_59 : decode cX7_reads 59 = .ok (.istore_n 3, 1) := by decide +kernel
theorem dX7_reads_60 : decode cX7_reads 60 = .ok (.iload_n 3, 1) := by decide +kernel
theorem dX7_reads_61 : decode cX7_reads 61 = .ok (.iload_n 1, 1) := by decide +kernel
theorem dX7_reads_62 : decode cX7_reads 62 = .ok (.if_icmp .ge 36, 3) := by decide +kernel
theorem dX7_reads_65 : decode cX7_reads 65 = .ok (.iload_n 2, 1) := by decide +kernel
theorem dX7_reads_66 : decode cX7_reads 66 = .ok (.ifCond .eq 32, 3) := by decide +kernel
theorem dX7_reads_69 : decode cX7_reads 69 = .ok (.aload_n 0, 1) := by decide +kernel
theorem dX7_reads_70 : decode cX7_reads 70 = .ok (.bipush 44, 2) := by decide +kernel
theorem dX7_reads_72 : decode cX7_reads 72 = .ok (.invokevirtual 186, 3) := by decide +kernel
theorem dX7_reads_75 : decode cX7_reads 75 = .ok (.ifCond .eq 15, 3) := by decide +kernel
theorem dX7_reads_78 : decode cX7_reads 78 = .ok (.aload_n 0, 1) := by decide +kernel
theorem dX7_reads_79 : decode cX7_reads 79 = .ok (.iload_n 3, 1) := by decide +kernel
theorem dX7_reads_80 : decode cX7_reads 80 = .ok (.invokevirtual 183, 3) := by decide +kernel
theorem dX7_reads_83 : decode cX7_reads 83 = .ok (.ifCond .eq 7, 3) := by decide +kernel
theorem dX7_reads_86 : decode cX7_reads 86 = .ok (.iconst 1, 1) := by decide +kernel
theorem dX7_reads_87 : decode cX7_reads 87 = .ok (.goto 4, 3) := by decide +kernel
theorem dX7_reads_90 : decode cX7_reads 90 = .ok (.iconst 0, 1) := by decide +kernel
theorem dX7_reads_91 : decode cX7_reads 91 = .ok (.istore_n 2, 1) := by decide +kernel
theorem dX7_reads_92 : decode cX7_reads 92 = .ok (.iinc 3 1, 3) := by decide +kernel
theorem dX7_reads_95 : decode cX7_reads 95 = .ok (.goto (-35), 3) := by decide +kernel
theorem dX7_reads_98 : decode cX7_reads 98 = .ok (.iload_n 2, 1) := by decide +kernel
theorem dX7_reads_99 : decode cX7_reads 99 = .ok (.ifCond .eq 16, 3) := by decide +kernel
theorem dX7_reads_102 : decode cX7_reads 102 = .ok (.aload_n 0, 1) := by decide +kernel
theorem dX7_reads_103 : decode cX7_reads 103 = .ok (.bipush 59, 2) := by decide +kernel
theorem dX7_reads_105 : decode cX7_reads 105 = .ok (.invokevirtual 186, 3) := by decide +kernel
theorem dX7_reads_108 : decode cX7_reads 108 = .ok (.ifCond .eq 7, 3) := by decide +kernel
theorem dX7_reads_111 : decode cX7_reads 111 = .ok (.iconst 1, 1) := by decide +kernel
theorem dX7_reads_112 : decode cX7_reads 112 = .ok (.goto 4, 3) := by decide +kernel
theorem dX7_reads_115 : decode cX7_reads 115 = .ok (.iconst 0, 1) := by decide +kernel
theorem dX7_reads_116 : decode cX7_reads 116 = .ok (.ireturn, 1) := by decide +kernel
set_option maxRecDepth 20000 in
theorem ggX7_calls_X7_line : GoodIn wsX7_calls wsX7_line := goodIn_r _ [7, 8, 9, 10, 11, 12, 6, 13, 14, 15, 16, 17, 18, 19, 20, 62, 63, 64, 65, 66, 67, 68, 69, 70, 71, 72, 73, 74, 75, 76, 77, 78, 79, 80, 81, 82] (by decide +kernel) (by decide +kernel)
set_option maxRecDepth 20000 in
theorem gX7_calls_X7_line : GoodIn wsX7_calls (wsV RX7 189 RX7 yX7_line wsX7_line) := goodIn_app (goodIn_of _ (by decide +kernel)) ggX7_calls_X7_line
set_option maxRecDepth 20000 in
theorem ggX7_calls_X7_prism : GoodIn wsX7_calls wsX7_prism := goodIn_r _ [24, 8, 25, 26, 6, 27, 11, 12, 13, 28, 29, 30, 31, 32, 9, 10, 33, 34, 35, 36, 37, 38, 39, 40, 41, 14, 15, 16, 17, 18, 19, 20, 42, 43, 44, 45, 46, 47, 48, 49, 62, 63, 64, 65, 66, 67, 68, 69, 70, 71, 72, 73, 74, 75, 76, 77, 78, 79, 80, 81, 82] (by decide +kernel) (by decide +kernel)
set_option maxRecDepth 20000 in
theorem gX7_calls_X7_prism : GoodIn wsX7_calls (wsV RX7 192 RX7 yX7_prism wsX7_prism) := goodIn_app (goodIn_of _ (by decide +kernel)) ggX7_calls_X7_prism
set_option maxRecDepth 20000 in
theorem ggX7_calls_X7_slit : GoodIn wsX7_calls wsX7_slit := goodIn_r _ [53, 8, 25, 26, 6, 27, 11, 12, 13, 28, 29, 30, 31, 32, 9, 10, 33, 34, 35, 36, 37, 38, 39, 40, 41, 14, 15, 16, 17, 18, 19, 20, 42, 43, 44, 45, 46, 47, 48, 49, 62, 63, 64, 65, 66, 67, 68, 69, 70, 71, 72, 73, 74, 75, 76, 77, 78, 79, 80, 81, 82] (by decide +kernel) (by decide +kernel)
set_option maxRecDepth 20000 in
theorem gX7_calls_X7_slit : GoodIn wsX7_calls (wsV RX7 196 RX7 yX7_slit wsX7_slit) := goodIn_app (goodIn_of _ (by decide +kernel)) ggX7_calls_X7_slit
set_option maxRecDepth 20000 in
theorem ggX7_calls_X7_take : GoodIn wsX7_calls wsX7_take := goodIn_r _ [57, 8, 9, 33, 34, 35, 6, 36, 37, 38, 39, 40, 41, 14, 15, 16, 17, 18, 19, 20, 58, 59, 60, 61, 62, 63, 64, 65, 66, 67, 68, 69, 70, 71, 72, 73, 74, 75, 76, 77, 78, 79, 80, 81, 82] (by decide +kernel) (by decide +kernel)
set_option maxRecDepth 20000 in
theorem gX7_calls_X7_take : GoodIn wsX7_calls (wsV RX7 200 RX7 yX7_take wsX7_take) := goodIn_app (goodIn_of _ (by decide +kernel)) ggX7_calls_X7_take
theorem dX7_calls_0 : decode cX7_calls 0 = .ok (.aload_n 0, 1) := by decide +kernel
theorem dX7_calls_1 : decode cX7_calls 1 = .ok (.getfield 177, 3) := by decide +kernel
theorem dX7_calls_4 : decode cX7_calls 4 = .ok (.lookupswitch 133 #[(100, 85), (108, 44), (115, 109), (117, 61)], 44) := by decide +kernel
theorem dX7_calls_48 : decode cX7_calls 48 = .ok (.aload_n 0, 1) := by decide +kernel
theorem dX7_calls_49 : decode cX7_calls 49 = .ok (.aload_n 0, 1) := by decide +kernel
theorem dX7_calls_50 : decode cX7_calls 50 = .ok (.getfield 31, 3) := by decide +kernel
theorem dX7_calls_53 : decode cX7_calls 53 = .ok (.iconst 0, 1) := by decide +kernel
theorem dX7_calls_54 : decode cX7_calls 54 = .ok (.iaload, 1) := by decide +kernel
theorem dX7_calls_55 : decode cX7_calls 55 = .ok (.aload_n 0, 1) := by decide +kernel
theorem dX7_calls_56 : decode cX7_calls 56 = .ok (.getfield 31, 3) := by decide +kernel
theorem dX7_calls_59 : decode cX7_calls 59 = .ok (.iconst 1, 1) := by decide +kernel
theorem dX7_calls_60 : decode cX7_calls 60 = .ok (.iaload, 1) := by decide +kernel
theorem dX7_calls_61 : decode cX7_calls 61 = .ok (.invokevirtual 189, 3) := by decide +kernel
theorem dX7_calls_64 : decode cX7_calls 64 = .ok (.ireturn, 1) := by decide +kernel
theorem dX7_calls_65 : decode cX7_calls 65 = .ok (.aload_n 0, 1) := by decide +kernel
theorem dX7_calls_66 : decode cX7_calls 66 = .ok (.aload_n 0, 1) := by decide +kernel
theorem dX7_calls_67 : decode cX7_calls 67 = .ok (.getfield 31, 3) := by decide +kernel
theorem dX7_calls_70 : decode cX7_calls 70 = .ok (.iconst 0, 1) := by decide +kernel
theorem dX7_calls_71 : decode cX7_calls 71 = .ok (.iaload, 1) := by decide +kernel
theorem dX7_calls_72 : decode cX7_calls 72 = .ok (.aload_n 0, 1) := by decide +kernel
theorem dX7_calls_73 : decode cX7_calls 73 = .ok (.getfield 31, 3) := by decide +kernel
theorem dX7_calls_76 : decode cX7_calls 76 = .ok (.iconst 1, 1) := by decide +kernel
theorem dX7_calls_77 : decode cX7_calls 77 = .ok (.iaload, 1) := by decide +kernel
theorem dX7_calls_78 : decode cX7_calls 78 = .ok (.aload_n 0, 1) := by decide +kernel
theorem dX7_calls_79 : decode cX7_calls 79 = .ok (.getfield 31, 3) := by decide +kernel
theorem dX7_calls_82 : decode cX7_calls 82 = .ok (.iconst 2, 1) := by decide +kernel
theorem dX7_calls_83 : decode cX7_calls 83 = .ok (.iaload, 1) := by decide +kernel
theorem dX7_calls_84 : decode cX7_calls 84 = .ok (.iconst 1, 1) := by decide +kernel
theorem dX7_calls_85 : decode cX7_calls 85 = .ok (.invokevirtual 192, 3) := by decide +kernel
theorem dX7_calls_88 : decode cX7_calls 88 = .ok (.ireturn, 1) := by decide +kernel
theorem dX7_calls_89 : decode cX7_calls 89 = .ok (.aload_n 0, 1) := by decide +kernel
theorem dX7_calls_90 : decode cX7_calls 90 = .ok (.aload_n 0, 1) := by decide +kernel
theorem dX7_calls_91 : decode cX7_calls 91 = .ok (.getfield 31, 3) := by decide +kernel
theorem dX7_calls_94 : decode cX7_calls 94 = .ok (.iconst 0, 1) := by decide +kernel
theorem dX7_calls_95 : decode cX7_calls 95 = .ok (.iaload, 1) := by decide +kernel
theorem dX7_calls_96 : decode cX7_calls 96 = .ok (.aload_n 0, 1) := by decide +kernel
theorem dX7_calls_97 : decode cX7_calls 97 = .ok (.getfield 31, 3) := by decide +kernel
theorem dX7_calls_100 : decode cX7_calls 100 = .ok (.iconst 1, 1) := by decide +kernel
theorem dX7_calls_101 : decode cX7_calls 101 = .ok (.iaload, 1) := by decide +kernel
theorem dX7_calls_102 : decode cX7_calls 102 = .ok (.aload_n 0, 1) := by decide +kernel
theorem dX7_calls_103 : decode cX7_calls 103 = .ok (.getfield 31, 3) := by decide +kernel
theorem dX7_calls_106 : decode cX7_calls 106 = .ok (.iconst 2, 1) := by decide +kernel
theorem dX7_calls_107 : decode cX7_calls 107 = .ok (.iaload, 1) := by decide +kernel
theorem dX7_calls_108 : decode cX7_calls 108 = .ok (.iconst (-1), 1) := by decide +kernel
theorem dX7_calls_109 : decode cX7_calls 109 = .ok (.invokevirtual 192, 3) := by decide +kernel
theorem dX7_calls_112 : decode cX7_calls 112 = .ok (.ireturn, 1) := by decide +kernel
theorem dX7_calls_113 : decode cX7_calls 113 = .ok (.aload_n 0, 1) := by decide +kernel
theorem dX7_calls_114 : decode cX7_calls 114 = .ok (.aload_n 0, 1) := by decide +kernel
theorem dX7_calls_115 : decode cX7_calls 115 = .ok (.getfield 31, 3) := by decide +kernel
theorem dX7_calls_118 : decode cX7_calls 118 = .ok (.iconst 0, 1) := by decide +kernel
theorem dX7_calls_119 : decode cX7_calls 119 = .ok (.iaload, 1) := by decide +kernel
theorem dX7_calls_120 : decode cX7_calls 120 = .ok (.aload_n 0, 1) := by decide +kernel
theorem dX7_calls_121 : decode cX7_calls 121 = .ok (.getfield 31, 3) := by decide +kernel
theorem dX7_calls_124 : decode cX7_calls 124 = .ok (.iconst 1, 1) := by decide +kernel
theorem dX7_calls_125 : decode cX7_calls 125 = .ok (.iaload, 1) := by decide +kernel
theorem dX7_calls_126 : decode cX7_calls 126 = .ok (.ineg, 1) := by decide +kernel
theorem dX7_calls_127 : decode cX7_calls 127 = .ok (.aload_n 0, 1) := by decide +kernel
theorem dX7_calls_128 : decode cX7_calls 128 = .ok (.getfield 31, 3) := by decide +kernel
theorem dX7_calls_131 : decode cX7_calls 131 = .ok (.iconst 1, 1) := by decide +kernel
theorem dX7_calls_132 : decode cX7_calls 132 = .ok (.iaload, 1) := by decide +kernel
theorem dX7_calls_133 : decode cX7_calls 133 = .ok (.invokevirtual 196, 3) := by decide +kernel
theorem dX7_calls_136 : decode cX7_calls 136 = .ok (.ireturn, 1) := by decide +kernel
theorem dX7_calls_137 : decode cX7_calls 137 = .ok (.aload_n 0, 1) := by decide +kernel
theorem dX7_calls_138 : decode cX7_calls 138 = .ok (.aload_n 0, 1) := by decide +kernel
theorem dX7_calls_139 : decode cX7_calls 139 = .ok (.getfield 31, 3) := by decide +kernel
theorem dX7_calls_142 : decode cX7_calls 142 = .ok (.iconst 0, 1) := by decide +kernel
theorem dX7_calls_143 : decode cX7_calls 143 = .ok (.iaload, 1) := by decide +kernel
theorem dX7_calls_144 : decode cX7_calls 144 = .ok (.invokevirtual 200, 3) := by decide +kernel
theorem dX7_calls_147 : decode cX7_calls 147 = .ok (.ireturn, 1) := by decide +kernel
set_option maxRecDepth 20000 in
theorem ggX7_plays_X7_reads : GoodIn wsX7_plays wsX7_reads := goodIn_r _ [12, 13, 2, 14, 15, 16, 17, 11, 18, 5, 19, 20, 21, 22, 23, 24, 25, 26, 27, 28, 29, 30, 31, 32, 33, 92, 93, 94, 95, 96, 97, 98, 99, 100, 101, 102, 103, 104, 105, 106, 107, 108, 109, 110, 111, 112] (by decide +kernel) (by decide +kernel)
set_option maxRecDepth 20000 in
theorem gX7_plays_X7_reads : GoodIn wsX7_plays (wsV RX7 209 RX7 yX7_reads wsX7_reads) := goodIn_app (goodIn_of _ (by decide +kernel)) ggX7_plays_X7_reads
set_option maxRecDepth 20000 in
theorem ggX7_plays_X7_calls : GoodIn wsX7_plays wsX7_calls := goodIn_r _ [37, 14, 29, 38, 39, 40, 11, 41, 42, 43, 44, 19, 20, 21, 45, 46, 47, 48, 1, 49, 50, 51, 52, 53, 54, 55, 56, 57, 58, 59, 60, 61, 62, 63, 64, 65, 66, 67, 68, 69, 70, 71, 72, 73, 74, 75, 76, 77, 78, 79, 80, 81, 82, 83, 84, 85, 86, 87, 88, 89, 90, 91, 92, 93, 94, 95, 96, 97, 98, 99, 100, 101, 102, 103, 104, 105, 106, 107, 108, 109, 110, 111, 112] (by decide +kernel) (by decide +kernel)
set_option maxRecDepth 20000 in
theorem gX7_plays_X7_calls : GoodIn wsX7_plays (wsV RX7 212 RX7 yX7_calls wsX7_calls) := goodIn_app (goodIn_of _ (by decide +kernel)) ggX7_plays_X7_calls
theorem dX7_plays_0 : decode cX7_plays 0 = .ok (.aload_n 0, 1) := by decide +kernel
theorem dX7_plays_1 : decode cX7_plays 1 = .ok (.iconst 1, 1) := by decide +kernel
theorem dX7_plays_2 : decode cX7_plays 2 = .ok (.putfield 34, 3) := by decide +kernel
theorem dX7_plays_5 : decode cX7_plays 5 = .ok (.aload_n 0, 1) := by decide +kernel
theorem dX7_plays_6 : decode cX7_plays 6 = .ok (.iconst 0, 1) := by decide +kernel
theorem dX7_plays_7 : decode cX7_plays 7 = .ok (.putfield 171, 3) := by decide +kernel
theorem dX7_plays_10 : decode cX7_plays 10 = .ok (.aload_n 0, 1) := by decide +kernel
theorem dX7_plays_11 : decode cX7_plays 11 = .ok (.iconst 0, 1) := by decide +kernel
theorem dX7_plays_12 : decode cX7_plays 12 = .ok (.putfield 203, 3) := by decide +kernel
theorem dX7_plays_15 : decode cX7_plays 15 = .ok (.aload_n 0, 1) := by decide +kernel
theorem dX7_plays_16 : decode cX7_plays 16 = .ok (.iconst 0, 1) := by decide +kernel
theorem dX7_plays_17 : decode cX7_plays 17 = .ok (.putfield 206, 3) := by decide +kernel
theorem dX7_plays_20 : decode cX7_plays 20 = .ok (.iconst 1, 1) := by decide +kernel
theorem dX7_plays_21 : decode cX7_plays 21 = .ok (.istore_n 1, 1) := by decide +kernel
theorem dX7_plays_22 : decode cX7_plays 22 = .ok (.aload_n 0, 1) := by decide +kernel
theorem dX7_plays_23 : decode cX7_plays 23 = .ok (.getfield 171, 3) := by decide +kernel
theorem dX7_plays_26 : decode cX7_plays 26 = .ok (.aload_n 0, 1) := by decide +kernel
theorem dX7_plays_27 : decode cX7_plays 27 = .ok (.getfield 168, 3) := by decide +kernel
theorem dX7_plays_30 : decode cX7_plays 30 = .ok (.if_icmp .ge 94, 3) := by decide +kernel
theorem dX7_plays_33 : decode cX7_plays 33 = .ok (.iload_n 1, 1) := by decide +kernel
theorem dX7_plays_34 : decode cX7_plays 34 = .ok (.ifCond .eq 90, 3) := by decide +kernel
theorem dX7_plays_37 : decode cX7_plays 37 = .ok (.aload_n 0, 1) := by decide +kernel
theorem dX7_plays_38 : decode cX7_plays 38 = .ok (.aload_n 0, 1) := by decide +kernel
theorem dX7_plays_39 : decode cX7_plays 39 = .ok (.getfield 171, 3) := by decide +kernel
theorem dX7_plays_42 : decode cX7_plays 42 = .ok (.putfield 203, 3) := by decide +kernel
theorem dX7_plays_45 : decode cX7_plays 45 = .ok (.aload_n 0, 1) := by decide +kernel
theorem dX7_plays_46 : decode cX7_plays 46 = .ok (.invokevirtual 209, 3) := by decide +kernel
theorem dX7_plays_49 : decode cX7_plays 49 = .ok (.istore_n 2, 1) := by decide +kernel
theorem dX7_plays_50 : decode cX7_plays 50 = .ok (.iload_n 2, 1) := by decide +kernel
theorem dX7_plays_51 : decode cX7_plays 51 = .ok (.ifCond .eq 10, 3) := by decide +kernel
theorem dX7_plays_54 : decode cX7_plays 54 = .ok (.aload_n 0, 1) := by decide +kernel
theorem dX7_plays_55 : decode cX7_plays 55 = .ok (.invokevirtual 212, 3) := by decide +kernel
theorem dX7_plays_58 : decode cX7_plays 58 = .ok (.goto 4, 3) := by decide +kernel
theorem dX7_plays_61 : decode cX7_plays 61 = .ok (.iconst 0, 1) := by decide +kernel
theorem dX7_plays_62 : decode cX7_plays 62 = .ok (.istore_n 3, 1) := by decide +kernel
theorem dX7_plays_63 : decode cX7_plays 63 = .ok (.iload_n 2, 1) := by decide +kernel
theorem dX7_plays_64 : decode cX7_plays 64 = .ok (.ifCond .eq 11, 3) := by decide +kernel
theorem dX7_plays_67 : decode cX7_plays 67 = .ok (.iload_n 3, 1) := by decide +kernel
theorem dX7_plays_68 : decode cX7_plays 68 = .ok (.ifCond .lt 7, 3) := by decide +kernel
theorem dX7_plays_71 : decode cX7_plays 71 = .ok (.iconst 1, 1) := by decide +kernel
theorem dX7_plays_72 : decode cX7_plays 72 = .ok (.goto 4, 3) := by decide +kernel
theorem dX7_plays_75 : decode cX7_plays 75 = .ok (.iconst 0, 1) := by decide +kernel
theorem dX7_plays_76 : decode cX7_plays 76 = .ok (.istore_n 1, 1) := by decide +kernel
theorem dX7_plays_77 : decode cX7_plays 77 = .ok (.aload_n 0, 1) := by decide +kernel
theorem dX7_plays_78 : decode cX7_plays 78 = .ok (.iload_n 2, 1) := by decide +kernel
theorem dX7_plays_79 : decode cX7_plays 79 = .ok (.ifCond .eq 7, 3) := by decide +kernel
theorem dX7_plays_82 : decode cX7_plays 82 = .ok (.iconst 2, 1) := by decide +kernel
theorem dX7_plays_83 : decode cX7_plays 83 = .ok (.goto 4, 3) := by decide +kernel
theorem dX7_plays_86 : decode cX7_plays 86 = .ok (.iconst 1, 1) := by decide +kernel
theorem dX7_plays_87 : decode cX7_plays 87 = .ok (.putfield 215, 3) := by decide +kernel
theorem dX7_plays_90 : decode cX7_plays 90 = .ok (.aload_n 0, 1) := by decide +kernel
theorem dX7_plays_91 : decode cX7_plays 91 = .ok (.iload_n 2, 1) := by decide +kernel
theorem dX7_plays_92 : decode cX7_plays 92 = .ok (.ifCond .eq 7, 3) := by decide +kernel
theorem dX7_plays_95 : decode cX7_plays 95 = .ok (.iload_n 3, 1) := by decide +kernel
theorem dX7_plays_96 : decode cX7_plays 96 = .ok (.goto 12, 3) := by decide +kernel
theorem dX7_plays_99 : decode cX7_plays 99 = .ok (.aload_n 0, 1) := by decide +kernel
theorem dX7_plays_100 : decode cX7_plays 100 = .ok (.getfield 171, 3) := by decide +kernel
theorem dX7_plays_103 : decode cX7_plays 103 = .ok (.aload_n 0, 1) := by decide +kernel
theorem dX7_plays_104 : decode cX7_plays 104 = .ok (.getfield 203, 3) := by decide +kernel
theorem dX7_plays_107 : decode cX7_plays 107 = .ok (.isub, 1) := by decide +kernel
theorem dX7_plays_108 : decode cX7_plays 108 = .ok (.putfield 218, 3) := by decide +kernel
theorem dX7_plays_111 : decode cX7_plays 111 = .ok (.aload_n 0, 1) := by decide +kernel
theorem dX7_plays_112 : decode cX7_plays 112 = .ok (.dup, 1) := by decide +kernel
theorem dX7_plays_113 : decode cX7_plays 113 = .ok (.getfield 206, 3) := by decide +kernel
theorem dX7_plays_116 : decode cX7_plays 116 = .ok (.iconst 1, 1) := by decide +kernel
theorem dX7_plays_117 : decode cX7_plays 117 = .ok (.iadd, 1) := by decide +kernel
theorem dX7_plays_118 : decode cX7_plays 118 = .ok (.putfield 206, 3) := by decide +kernel
theorem dX7_plays_121 : decode cX7_plays 121 = .ok (.goto (-99), 3) := by decide +kernel
theorem dX7_plays_124 : decode cX7_plays 124 = .ok (.aload_n 0, 1) := by decide +kernel
theorem dX7_plays_125 : decode cX7_plays 125 = .ok (.iconst 0, 1) := by decide +kernel
theorem dX7_plays_126 : decode cX7_plays 126 = .ok (.putfield 34, 3) := by decide +kernel
theorem dX7_plays_129 : decode cX7_plays 129 = .ok (.iload_n 1, 1) := by decide +kernel
theorem dX7_plays_130 : decode cX7_plays 130 = .ok (.ireturn, 1) := by decide +kernel
set_option maxRecDepth 20000 in
theorem ggX7_fault_X7_in : GoodIn wsX7_fault wsX7_in := goodIn_r _ [11] (by decide +kernel) (by decide +kernel)
set_option maxRecDepth 20000 in
theorem gX7_fault_X7_in : GoodIn wsX7_fault (va_wsS RX7 47 yX7_in wsX7_in) := goodIn_app (goodIn_of _ (by decide +kernel)) ggX7_fault_X7_in
set_option maxRecDepth 20000 in
theorem ggX7_fault_X7_copies : GoodIn wsX7_fault wsX7_copies := goodIn_r _ [14] (by decide +kernel) (by decide +kernel)
set_option maxRecDepth 20000 in
theorem gX7_fault_X7_copies : GoodIn wsX7_fault (va_wsS RX7 139 yX7_copies wsX7_copies) := goodIn_app (goodIn_of _ (by decide +kernel)) ggX7_fault_X7_copies
set_option maxRecDepth 20000 in
theorem ggX7_fault_X7_plays : GoodIn wsX7_fault wsX7_plays := goodIn_r _ [18, 19, 20, 5, 21, 22, 6, 7, 23, 24, 25, 10, 26, 27, 28, 29, 30, 31, 32, 8, 9, 11, 33, 34, 35, 36, 37, 38, 39, 40, 41, 42, 43, 44, 45, 46, 47, 48, 49, 50, 51, 52, 1, 2, 53, 54, 55, 56, 57, 58, 59, 60, 61, 62, 63, 64, 65, 66, 67, 68, 69, 70, 71, 72, 73, 74, 75, 4, 76, 77, 78, 79, 80, 81, 82, 83, 84, 85, 86, 87, 88, 89, 90, 91, 92, 93, 94, 95, 96, 97, 98, 99, 100, 101, 102, 103, 104, 105, 106, 107, 108, 109, 110, 111, 112, 113, 114, 115, 116, 117, 118, 119, 120] (by decide +kernel) (by decide +kernel)
set_option maxRecDepth 20000 in
theorem gX7_fault_X7_plays : GoodIn wsX7_fault (wsV RX7 221 RX7 yX7_plays wsX7_plays) := goodIn_app (goodIn_of _ (by decide +kernel)) ggX7_fault_X7_plays
theorem dX7_fault_0 : decode cX7_fault 0 = .ok (.iload_n 1, 1) := by decide +kernel
theorem dX7_fault_1 : decode cX7_fault 1 = .ok (.iconst 0, 1) := by decide +kernel
theorem dX7_fault_2 : decode cX7_fault 2 = .ok (.iconst 2, 1) := by decide +kernel
theorem dX7_fault_3 : decode cX7_fault 3 = .ok (.invokestatic 47, 3) := by decide +kernel
theorem dX7_fault_6 : decode cX7_fault 6 = .ok (.ifCond .ne 6, 3) := by decide +kernel
theorem dX7_fault_9 : decode cX7_fault 9 = .ok (.ldc 51, 2) := by decide +kernel
theorem dX7_fault_11 : decode cX7_fault 11 = .ok (.ireturn, 1) := by decide +kernel
theorem dX7_fault_12 : decode cX7_fault 12 = .ok (.aload_n 0, 1) := by decide +kernel
theorem dX7_fault_13 : decode cX7_fault 13 = .ok (.getfield 7, 3) := by decide +kernel
theorem dX7_fault_16 : decode cX7_fault 16 = .ok (.aload_n 0, 1) := by decide +kernel
theorem dX7_fault_17 : decode cX7_fault 17 = .ok (.getfield 16, 3) := by decide +kernel
theorem dX7_fault_20 : decode cX7_fault 20 = .ok (.invokestatic 139, 3) := by decide +kernel
theorem dX7_fault_23 : decode cX7_fault 23 = .ok (.aload_n 0, 1) := by decide +kernel
theorem dX7_fault_24 : decode cX7_fault 24 = .ok (.invokevirtual 221, 3) := by decide +kernel
theorem dX7_fault_27 : decode cX7_fault 27 = .ok (.istore_n 2, 1) := by decide +kernel
theorem dX7_fault_28 : decode cX7_fault 28 = .ok (.aload_n 0, 1) := by decide +kernel
theorem dX7_fault_29 : decode cX7_fault 29 = .ok (.getfield 16, 3) := by decide +kernel
theorem dX7_fault_32 : decode cX7_fault 32 = .ok (.aload_n 0, 1) := by decide +kernel
theorem dX7_fault_33 : decode cX7_fault 33 = .ok (.getfield 7, 3) := by decide +kernel
theorem dX7_fault_36 : decode cX7_fault 36 = .ok (.invokestatic 139, 3) := by decide +kernel
theorem dX7_fault_39 : decode cX7_fault 39 = .ok (.iload_n 2, 1) := by decide +kernel
theorem dX7_fault_40 : decode cX7_fault 40 = .ok (.ifCond .eq 8, 3) := by decide +kernel
theorem dX7_fault_43 : decode cX7_fault 43 = .ok (.ldc 46, 2) := by decide +kernel
theorem dX7_fault_45 : decode cX7_fault 45 = .ok (.goto 30, 3) := by decide +kernel
theorem dX7_fault_48 : decode cX7_fault 48 = .ok (.iload_n 1, 1) := by decide +kernel
theorem dX7_fault_49 : decode cX7_fault 49 = .ok (.ifCond .ne 10, 3) := by decide +kernel
theorem dX7_fault_52 : decode cX7_fault 52 = .ok (.aload_n 0, 1) := by decide +kernel
theorem dX7_fault_53 : decode cX7_fault 53 = .ok (.getfield 203, 3) := by decide +kernel
theorem dX7_fault_56 : decode cX7_fault 56 = .ok (.goto 19, 3) := by decide +kernel
theorem dX7_fault_59 : decode cX7_fault 59 = .ok (.iload_n 1, 1) := by decide +kernel
theorem dX7_fault_60 : decode cX7_fault 60 = .ok (.iconst 1, 1) := by decide +kernel
theorem dX7_fault_61 : decode cX7_fault 61 = .ok (.if_icmp .ne 10, 3) := by decide +kernel
theorem dX7_fault_64 : decode cX7_fault 64 = .ok (.aload_n 0, 1) := by decide +kernel
theorem dX7_fault_65 : decode cX7_fault 65 = .ok (.getfield 215, 3) := by decide +kernel
theorem dX7_fault_68 : decode cX7_fault 68 = .ok (.goto 7, 3) := by decide +kernel
theorem dX7_fault_71 : decode cX7_fault 71 = .ok (.aload_n 0, 1) := by decide +kernel
theorem dX7_fault_72 : decode cX7_fault 72 = .ok (.getfield 218, 3) := by decide +kernel
theorem dX7_fault_75 : decode cX7_fault 75 = .ok (.ireturn, 1) := by decide +kernel
set_option maxRecDepth 20000 in
theorem ggX7_play_X7_copies : GoodIn wsX7_play wsX7_copies := goodIn_r _ [9] (by decide +kernel) (by decide +kernel)
set_option maxRecDepth 20000 in
theorem gX7_play_X7_copies : GoodIn wsX7_play (va_wsS RX7 139 yX7_copies wsX7_copies) := goodIn_app (goodIn_of _ (by decide +kernel)) ggX7_play_X7_copies
set_option maxRecDepth 20000 in
theorem ggX7_play_X7_plays : GoodIn wsX7_play wsX7_plays := goodIn_r _ [13, 14, 15, 16, 4, 17, 18, 19, 20, 21, 22, 8, 23, 24, 25, 26, 27, 28, 29, 30, 31, 32, 33, 34, 35, 36, 37, 38, 39, 40, 41, 42, 43, 44, 45, 46, 47, 48, 49, 50, 51, 52, 53, 1, 54, 55, 56, 57, 58, 59, 60, 61, 62, 63, 64, 65, 66, 67, 68, 69, 70, 71, 3, 72, 73, 74, 75, 5, 76, 77, 78, 79, 80, 81, 82, 83, 84, 85, 86, 87, 88, 89, 90, 91, 92, 93, 94, 95, 96, 97, 98, 99, 100, 101, 102, 103, 104, 105, 106, 107, 108, 109, 110, 111, 112, 113, 114, 115, 116, 117, 118, 119, 120] (by decide +kernel) (by decide +kernel)
set_option maxRecDepth 20000 in
theorem gX7_play_X7_plays : GoodIn wsX7_play (wsV RX7 221 RX7 yX7_plays wsX7_plays) := goodIn_app (goodIn_of _ (by decide +kernel)) ggX7_play_X7_plays
set_option maxRecDepth 20000 in
theorem ggX7_play_X7_changes : GoodIn wsX7_play wsX7_changes := goodIn_r _ [58, 14, 59, 60, 1, 100, 101, 102, 103, 104, 105, 106, 107, 108, 109, 110, 111, 112, 113, 114, 115, 116, 117, 118, 119, 120] (by decide +kernel) (by decide +kernel)
set_option maxRecDepth 20000 in
theorem gX7_play_X7_changes : GoodIn wsX7_play (wsV RX7 53 RX7 yX7_changes wsX7_changes) := goodIn_app (goodIn_of _ (by decide +kernel)) ggX7_play_X7_changes
theorem dX7_play_0 : decode cX7_play 0 = .ok (.aload_n 0, 1) := by decide +kernel
theorem dX7_play_1 : decode cX7_play 1 = .ok (.getfield 7, 3) := by decide +kernel
theorem dX7_play_4 : decode cX7_play 4 = .ok (.aload_n 0, 1) := by decide +kernel
theorem dX7_play_5 : decode cX7_play 5 = .ok (.getfield 16, 3) := by decide +kernel
theorem dX7_play_8 : decode cX7_play 8 = .ok (.invokestatic 139, 3) := by decide +kernel
theorem dX7_play_11 : decode cX7_play 11 = .ok (.aload_n 0, 1) := by decide +kernel
theorem dX7_play_12 : decode cX7_play 12 = .ok (.invokevirtual 221, 3) := by decide +kernel
theorem dX7_play_15 : decode cX7_play 15 = .ok (.istore_n 1, 1) := by decide +kernel
theorem dX7_play_16 : decode cX7_play 16 = .ok (.aload_n 0, 1) := by decide +kernel
theorem dX7_play_17 : decode cX7_play 17 = .ok (.getfield 16, 3) := by decide +kernel
theorem dX7_play_20 : decode cX7_play 20 = .ok (.aload_n 0, 1) := by decide +kernel
theorem dX7_play_21 : decode cX7_play 21 = .ok (.getfield 7, 3) := by decide +kernel
theorem dX7_play_24 : decode cX7_play 24 = .ok (.invokestatic 139, 3) := by decide +kernel
theorem dX7_play_27 : decode cX7_play 27 = .ok (.iload_n 1, 1) := by decide +kernel
theorem dX7_play_28 : decode cX7_play 28 = .ok (.ifCond .ne 6, 3) := by decide +kernel
theorem dX7_play_31 : decode cX7_play 31 = .ok (.ldc 67, 2) := by decide +kernel
theorem dX7_play_33 : decode cX7_play 33 = .ok (.ireturn, 1) := by decide +kernel
theorem dX7_play_34 : decode cX7_play 34 = .ok (.aload_n 0, 1) := by decide +kernel
theorem dX7_play_35 : decode cX7_play 35 = .ok (.invokevirtual 53, 3) := by decide +kernel
theorem dX7_play_38 : decode cX7_play 38 = .ok (.aload_n 0, 1) := by decide +kernel
theorem dX7_play_39 : decode cX7_play 39 = .ok (.invokevirtual 221, 3) := by decide +kernel
theorem dX7_play_42 : decode cX7_play 42 = .ok (.ifCond .eq 10, 3) := by decide +kernel
theorem dX7_play_45 : decode cX7_play 45 = .ok (.aload_n 0, 1) := by decide +kernel
theorem dX7_play_46 : decode cX7_play 46 = .ok (.getfield 206, 3) := by decide +kernel
theorem dX7_play_49 : decode cX7_play 49 = .ok (.goto 5, 3) := by decide +kernel
theorem dX7_play_52 : decode cX7_play 52 = .ok (.ldc 46, 2) := by decide +kernel
theorem dX7_play_54 : decode cX7_play 54 = .ok (.ireturn, 1) := by decide +kernel
