set_option maxRecDepth 20000 in
theorem dX0_init_0 : decode cX0_init 0 = .ok (.aload_n 0, 1) := by decide +kernel
theorem dX0_init_1 : decode cX0_init 1 = .ok (.invokespecial 3, 3) := by decide +kernel
theorem dX0_init_4 : decode cX0_init 4 = .ok (.aload_n 0, 1) := by decide +kernel
theorem dX0_init_5 : decode cX0_init 5 = .ok (.bipush 8, 2) := by decide +kernel
theorem dX0_init_7 : decode cX0_init 7 = .ok (.newarray .int, 2) := by decide +kernel
theorem dX0_init_9 : decode cX0_init 9 = .ok (.putfield 9, 3) := by decide +kernel
theorem dX0_init_12 : decode cX0_init 12 = .ok (.aload_n 0, 1) := by decide +kernel
theorem dX0_init_13 : decode cX0_init 13 = .ok (.bipush 8, 2) := by decide +kernel
theorem dX0_init_15 : decode cX0_init 15 = .ok (.newarray .int, 2) := by decide +kernel
theorem dX0_init_17 : decode cX0_init 17 = .ok (.putfield 15, 3) := by decide +kernel
theorem dX0_init_20 : decode cX0_init 20 = .ok (.aload_n 0, 1) := by decide +kernel
theorem dX0_init_21 : decode cX0_init 21 = .ok (.iconst 0, 1) := by decide +kernel
theorem dX0_init_22 : decode cX0_init 22 = .ok (.putfield 18, 3) := by decide +kernel
theorem dX0_init_25 : decode cX0_init 25 = .ok (.aload_n 0, 1) := by decide +kernel
theorem dX0_init_26 : decode cX0_init 26 = .ok (.bipush 8, 2) := by decide +kernel
theorem dX0_init_28 : decode cX0_init 28 = .ok (.newarray .int, 2) := by decide +kernel
theorem dX0_init_30 : decode cX0_init 30 = .ok (.putfield 22, 3) := by decide +kernel
theorem dX0_init_33 : decode cX0_init 33 = .ok (.aload_n 0, 1) := by decide +kernel
theorem dX0_init_34 : decode cX0_init 34 = .ok (.bipush 8, 2) := by decide +kernel
theorem dX0_init_36 : decode cX0_init 36 = .ok (.newarray .int, 2) := by decide +kernel
theorem dX0_init_38 : decode cX0_init 38 = .ok (.putfield 25, 3) := by decide +kernel
theorem dX0_init_41 : decode cX0_init 41 = .ok (.aload_n 0, 1) := by decide +kernel
theorem dX0_init_42 : decode cX0_init 42 = .ok (.bipush 8, 2) := by decide +kernel
theorem dX0_init_44 : decode cX0_init 44 = .ok (.newarray .int, 2) := by decide +kernel
theorem dX0_init_46 : decode cX0_init 46 = .ok (.putfield 28, 3) := by decide +kernel
theorem dX0_init_49 : decode cX0_init 49 = .ok (.aload_n 0, 1) := by decide +kernel
theorem dX0_init_50 : decode cX0_init 50 = .ok (.bipush 8, 2) := by decide +kernel
theorem dX0_init_52 : decode cX0_init 52 = .ok (.newarray .int, 2) := by decide +kernel
theorem dX0_init_54 : decode cX0_init 54 = .ok (.putfield 31, 3) := by decide +kernel
theorem dX0_init_57 : decode cX0_init 57 = .ok (.aload_n 0, 1) := by decide +kernel
theorem dX0_init_58 : decode cX0_init 58 = .ok (.bipush 8, 2) := by decide +kernel
theorem dX0_init_60 : decode cX0_init 60 = .ok (.newarray .int, 2) := by decide +kernel
theorem dX0_init_62 : decode cX0_init 62 = .ok (.putfield 34, 3) := by decide +kernel
theorem dX0_init_65 : decode cX0_init 65 = .ok (.aload_n 0, 1) := by decide +kernel
theorem dX0_init_66 : decode cX0_init 66 = .ok (.iconst 0, 1) := by decide +kernel
theorem dX0_init_67 : decode cX0_init 67 = .ok (.putfield 37, 3) := by decide +kernel
theorem dX0_init_70 : decode cX0_init 70 = .ok (.aload_n 0, 1) := by decide +kernel
theorem dX0_init_71 : decode cX0_init 71 = .ok (.bipush 20, 2) := by decide +kernel
theorem dX0_init_73 : decode cX0_init 73 = .ok (.putfield 40, 3) := by decide +kernel
theorem dX0_init_76 : decode cX0_init 76 = .ok (.return_, 1) := by decide +kernel
theorem dX0_copyFrom_0 : decode cX0_copyFrom 0 = .ok (.aload_n 1, 1) := by decide +kernel
theorem dX0_copyFrom_1 : decode cX0_copyFrom 1 = .ok (.getfield 9, 3) := by decide +kernel
theorem dX0_copyFrom_4 : decode cX0_copyFrom 4 = .ok (.iconst 0, 1) := by decide +kernel
theorem dX0_copyFrom_5 : decode cX0_copyFrom 5 = .ok (.aload_n 0, 1) := by decide +kernel
theorem dX0_copyFrom_6 : decode cX0_copyFrom 6 = .ok (.getfield 9, 3) := by decide +kernel
theorem dX0_copyFrom_9 : decode cX0_copyFrom 9 = .ok (.iconst 0, 1) := by decide +kernel
theorem dX0_copyFrom_10 : decode cX0_copyFrom 10 = .ok (.bipush 8, 2) := by decide +kernel
theorem dX0_copyFrom_12 : decode cX0_copyFrom 12 = .ok (.invokestatic 43, 3) := by decide +kernel
theorem dX0_copyFrom_15 : decode cX0_copyFrom 15 = .ok (.aload_n 1, 1) := by decide +kernel
theorem dX0_copyFrom_16 : decode cX0_copyFrom 16 = .ok (.getfield 15, 3) := by decide +kernel
theorem dX0_copyFrom_19 : decode cX0_copyFrom 19 = .ok (.iconst 0, 1) := by decide +kernel
theorem dX0_copyFrom_20 : decode cX0_copyFrom 20 = .ok (.aload_n 0, 1) := by decide +kernel
theorem dX0_copyFrom_21 : decode cX0_copyFrom 21 = .ok (.getfield 15, 3) := by decide +kernel
theorem dX0_copyFrom_24 : decode cX0_copyFrom 24 = .ok (.iconst 0, 1) := by decide +kernel
theorem dX0_copyFrom_25 : decode cX0_copyFrom 25 = .ok (.bipush 8, 2) := by decide +kernel
theorem dX0_copyFrom_27 : decode cX0_copyFrom 27 = .ok (.invokestatic 43, 3) := by decide +kernel
theorem dX0_copyFrom_30 : decode cX0_copyFrom 30 = .ok (.aload_n 0, 1) := by decide +kernel
theorem dX0_copyFrom_31 : decode cX0_copyFrom 31 = .ok (.aload_n 1, 1) := by decide +kernel
theorem dX0_copyFrom_32 : decode cX0_copyFrom 32 = .ok (.getfield 18, 3) := by decide +kernel
theorem dX0_copyFrom_35 : decode cX0_copyFrom 35 = .ok (.putfield 18, 3) := by decide +kernel
theorem dX0_copyFrom_38 : decode cX0_copyFrom 38 = .ok (.aload_n 1, 1) := by decide +kernel
theorem dX0_copyFrom_39 : decode cX0_copyFrom 39 = .ok (.getfield 22, 3) := by decide +kernel
theorem dX0_copyFrom_42 : decode cX0_copyFrom 42 = .ok (.iconst 0, 1) := by decide +kernel
theorem dX0_copyFrom_43 : decode cX0_copyFrom 43 = .ok (.aload_n 0, 1) := by decide +kernel
theorem dX0_copyFrom_44 : decode cX0_copyFrom 44 = .ok (.getfield 22, 3) := by decide +kernel
theorem dX0_copyFrom_47 : decode cX0_copyFrom 47 = .ok (.iconst 0, 1) := by decide +kernel
theorem dX0_copyFrom_48 : decode cX0_copyFrom 48 = .ok (.bipush 8, 2) := by decide +kernel
theorem dX0_copyFrom_50 : decode cX0_copyFrom 50 = .ok (.invokestatic 43, 3) := by decide +kernel
theorem dX0_copyFrom_53 : decode cX0_copyFrom 53 = .ok (.aload_n 1, 1) := by decide +kernel
theorem dX0_copyFrom_54 : decode cX0_copyFrom 54 = .ok (.getfield 25, 3) := by decide +kernel
theorem dX0_copyFrom_57 : decode cX0_copyFrom 57 = .ok (.iconst 0, 1) := by decide +kernel
theorem dX0_copyFrom_58 : decode cX0_copyFrom 58 = .ok (.aload_n 0, 1) := by decide +kernel
theorem dX0_copyFrom_59 : decode cX0_copyFrom 59 = .ok (.getfield 25, 3) := by decide +kernel
theorem dX0_copyFrom_62 : decode cX0_copyFrom 62 = .ok (.iconst 0, 1) := by decide +kernel
theorem dX0_copyFrom_63 : decode cX0_copyFrom 63 = .ok (.bipush 8, 2) := by decide +kernel
theorem dX0_copyFrom_65 : decode cX0_copyFrom 65 = .ok (.invokestatic 43, 3) := by decide +kernel
theorem dX0_copyFrom_68 : decode cX0_copyFrom 68 = .ok (.aload_n 1, 1) := by decide +kernel
theorem dX0_copyFrom_69 : decode cX0_copyFrom 69 = .ok (.getfield 28, 3) := by decide +kernel
theorem dX0_copyFrom_72 : decode cX0_copyFrom 72 = .ok (.iconst 0, 1) := by decide +kernel
theorem dX0_copyFrom_73 : decode cX0_copyFrom 73 = .ok (.aload_n 0, 1) := by decide +kernel
theorem dX0_copyFrom_74 : decode cX0_copyFrom 74 = .ok (.getfield 28, 3) := by decide +kernel
theorem dX0_copyFrom_77 : decode cX0_copyFrom 77 = .ok (.iconst 0, 1) := by decide +kernel
theorem dX0_copyFrom_78 : decode cX0_copyFrom 78 = .ok (.bipush 8, 2) := by decide +kernel
theorem dX0_copyFrom_80 : decode cX0_copyFrom 80 = .ok (.invokestatic 43, 3) := by decide +kernel
theorem dX0_copyFrom_83 : decode cX0_copyFrom 83 = .ok (.aload_n 1, 1) := by decide +kernel
theorem dX0_copyFrom_84 : decode cX0_copyFrom 84 = .ok (.getfield 31, 3) := by decide +kernel
theorem dX0_copyFrom_87 : decode cX0_copyFrom 87 = .ok (.iconst 0, 1) := by decide +kernel
theorem dX0_copyFrom_88 : decode cX0_copyFrom 88 = .ok (.aload_n 0, 1) := by decide +kernel
theorem dX0_copyFrom_89 : decode cX0_copyFrom 89 = .ok (.getfield 31, 3) := by decide +kernel
theorem dX0_copyFrom_92 : decode cX0_copyFrom 92 = .ok (.iconst 0, 1) := by decide +kernel
theorem dX0_copyFrom_93 : decode cX0_copyFrom 93 = .ok (.bipush 8, 2) := by decide +kernel
theorem dX0_copyFrom_95 : decode cX0_copyFrom 95 = .ok (.invokestatic 43, 3) := by decide +kernel
theorem dX0_copyFrom_98 : decode cX0_copyFrom 98 = .ok (.aload_n 1, 1) := by decide +kernel
theorem dX0_copyFrom_99 : decode cX0_copyFrom 99 = .ok (.getfield 34, 3) := by decide +kernel
theorem dX0_copyFrom_102 : decode cX0_copyFrom 102 = .ok (.iconst 0, 1) := by decide +kernel
theorem dX0_copyFrom_103 : decode cX0_copyFrom 103 = .ok (.aload_n 0, 1) := by decide +kernel
theorem dX0_copyFrom_104 : decode cX0_copyFrom 104 = .ok (.getfield 34, 3) := by decide +kernel
theorem dX0_copyFrom_107 : decode cX0_copyFrom 107 = .ok (.iconst 0, 1) := by decide +kernel
theorem dX0_copyFrom_108 : decode cX0_copyFrom 108 = .ok (.bipush 8, 2) := by decide +kernel
theorem dX0_copyFrom_110 : decode cX0_copyFrom 110 = .ok (.invokestatic 43, 3) := by decide +kernel
theorem dX0_copyFrom_113 : decode cX0_copyFrom 113 = .ok (.aload_n 0, 1) := by decide +kernel
theorem dX0_copyFrom_114 : decode cX0_copyFrom 114 = .ok (.aload_n 1, 1) := by decide +kernel
theorem dX0_copyFrom_115 : decode cX0_copyFrom 115 = .ok (.getfield 37, 3) := by decide +kernel
theorem dX0_copyFrom_118 : decode cX0_copyFrom 118 = .ok (.putfield 37, 3) := by decide +kernel
theorem dX0_copyFrom_121 : decode cX0_copyFrom 121 = .ok (.aload_n 0, 1) := by decide +kernel
theorem dX0_copyFrom_122 : decode cX0_copyFrom 122 = .ok (.aload_n 1, 1) := by decide +kernel
theorem dX0_copyFrom_123 : decode cX0_copyFrom 123 = .ok (.getfield 40, 3) := by decide +kernel
theorem dX0_copyFrom_126 : decode cX0_copyFrom 126 = .ok (.putfield 40, 3) := by decide +kernel
theorem dX0_copyFrom_129 : decode cX0_copyFrom 129 = .ok (.return_, 1) := by decide +kernel
theorem dX0_hasLine_0 : decode cX0_hasLine 0 = .ok (.iload_n 1, 1) := by decide +kernel
theorem dX0_hasLine_1 : decode cX0_hasLine 1 = .ok (.ifCond .lt 21, 3) := by decide +kernel
theorem dX0_hasLine_4 : decode cX0_hasLine 4 = .ok (.iload_n 1, 1) := by decide +kernel
theorem dX0_hasLine_5 : decode cX0_hasLine 5 = .ok (.aload_n 0, 1) := by decide +kernel
theorem dX0_hasLine_6 : decode cX0_hasLine 6 = .ok (.getfield 18, 3) := by decide +kernel
theorem dX0_hasLine_9 : decode cX0_hasLine 9 = .ok (.if_icmp .ge 13, 3) := by decide +kernel
theorem dX0_hasLine_12 : decode cX0_hasLine 12 = .ok (.iload_n 1, 1) := by decide +kernel
theorem dX0_hasLine_13 : decode cX0_hasLine 13 = .ok (.bipush 8, 2) := by decide +kernel
theorem dX0_hasLine_15 : decode cX0_hasLine 15 = .ok (.if_icmp .ge 7, 3) := by decide +kernel
theorem dX0_hasLine_18 : decode cX0_hasLine 18 = .ok (.iconst 1, 1) := by decide +kernel
theorem dX0_hasLine_19 : decode cX0_hasLine 19 = .ok (.goto 4, 3) := by decide +kernel
theorem dX0_hasLine_22 : decode cX0_hasLine 22 = .ok (.iconst 0, 1) := by decide +kernel
theorem dX0_hasLine_23 : decode cX0_hasLine 23 = .ok (.ireturn, 1) := by decide +kernel
theorem dX0_hasThing_0 : decode cX0_hasThing 0 = .ok (.iload_n 1, 1) := by decide +kernel
theorem dX0_hasThing_1 : decode cX0_hasThing 1 = .ok (.ifCond .lt 21, 3) := by decide +kernel
theorem dX0_hasThing_4 : decode cX0_hasThing 4 = .ok (.iload_n 1, 1) := by decide +kernel
theorem dX0_hasThing_5 : decode cX0_hasThing 5 = .ok (.aload_n 0, 1) := by decide +kernel
theorem dX0_hasThing_6 : decode cX0_hasThing 6 = .ok (.getfield 37, 3) := by decide +kernel
theorem dX0_hasThing_9 : decode cX0_hasThing 9 = .ok (.if_icmp .ge 13, 3) := by decide +kernel
theorem dX0_hasThing_12 : decode cX0_hasThing 12 = .ok (.iload_n 1, 1) := by decide +kernel
theorem dX0_hasThing_13 : decode cX0_hasThing 13 = .ok (.bipush 8, 2) := by decide +kernel
theorem dX0_hasThing_15 : decode cX0_hasThing 15 = .ok (.if_icmp .ge 7, 3) := by decide +kernel
theorem dX0_hasThing_18 : decode cX0_hasThing 18 = .ok (.iconst 1, 1) := by decide +kernel
theorem dX0_hasThing_19 : decode cX0_hasThing 19 = .ok (.goto 4, 3) := by decide +kernel
theorem dX0_hasThing_22 : decode cX0_hasThing 22 = .ok (.iconst 0, 1) := by decide +kernel
theorem dX0_hasThing_23 : decode cX0_hasThing 23 = .ok (.ireturn, 1) := by decide +kernel
set_option maxRecDepth 20000 in
theorem ggX0_indexOf_X0_hasThing : GoodIn wsX0_indexOf wsX0_hasThing := goodIn_r _ [6, 7, 8, 9, 10, 11, 12, 13, 14, 15, 16, 17] (by decide +kernel) (by decide +kernel)
set_option maxRecDepth 20000 in
theorem gX0_indexOf_X0_hasThing : GoodIn wsX0_indexOf (wsV RX0 49 RX0 yX0_hasThing wsX0_hasThing) := goodIn_app (goodIn_of _ (by decide +kernel)) ggX0_indexOf_X0_hasThing
theorem dX0_indexOf_0 : decode cX0_indexOf 0 = .ok (.iconst 0, 1) := by decide +kernel
theorem dX0_indexOf_1 : decode cX0_indexOf 1 = .ok (.istore_n 2, 1) := by decide +kernel
theorem dX0_indexOf_2 : decode cX0_indexOf 2 = .ok (.iload_n 2, 1) := by decide +kernel
theorem dX0_indexOf_3 : decode cX0_indexOf 3 = .ok (.bipush 8, 2) := by decide +kernel
theorem dX0_indexOf_5 : decode cX0_indexOf 5 = .ok (.if_icmp .ge 29, 3) := by decide +kernel
theorem dX0_indexOf_8 : decode cX0_indexOf 8 = .ok (.aload_n 0, 1) := by decide +kernel
theorem dX0_indexOf_9 : decode cX0_indexOf 9 = .ok (.iload_n 2, 1) := by decide +kernel
theorem dX0_indexOf_10 : decode cX0_indexOf 10 = .ok (.invokevirtual 49, 3) := by decide +kernel
theorem dX0_indexOf_13 : decode cX0_indexOf 13 = .ok (.ifCond .eq 21, 3) := by decide +kernel
theorem dX0_indexOf_16 : decode cX0_indexOf 16 = .ok (.aload_n 0, 1) := by decide +kernel
theorem dX0_indexOf_17 : decode cX0_indexOf 17 = .ok (.getfield 22, 3) := by decide +kernel
theorem dX0_indexOf_20 : decode cX0_indexOf 20 = .ok (.iload_n 2, 1) := by decide +kernel
theorem dX0_indexOf_21 : decode cX0_indexOf 21 = .ok (.iaload, 1) := by decide +kernel
theorem dX0_indexOf_22 : decode cX0_indexOf 22 = .ok (.iload_n 1, 1) := by decide +kernel
theorem dX0_indexOf_23 : decode cX0_indexOf 23 = .ok (.if_icmp .ne 5, 3) := by decide +kernel
theorem dX0_indexOf_26 : decode cX0_indexOf 26 = .ok (.iload_n 2, 1) := by decide +kernel
theorem dX0_indexOf_27 : decode cX0_indexOf 27 = .ok (.ireturn, 1) := by decide +kernel
theorem dX0_indexOf_28 : decode cX0_indexOf 28 = .ok (.iinc 2 1, 3) := by decide +kernel
theorem dX0_indexOf_31 : decode cX0_indexOf 31 = .ok (.goto (-29), 3) := by decide +kernel
theorem dX0_indexOf_34 : decode cX0_indexOf 34 = .ok (.iconst (-1), 1) := by decide +kernel
theorem dX0_indexOf_35 : decode cX0_indexOf 35 = .ok (.ireturn, 1) := by decide +kernel
set_option maxRecDepth 20000 in
theorem ggX0_thingsAhead_X0_hasThing : GoodIn wsX0_thingsAhead wsX0_hasThing := goodIn_r _ [6, 7, 8, 9, 10, 11, 12, 13, 14, 15, 16, 17] (by decide +kernel) (by decide +kernel)
set_option maxRecDepth 20000 in
theorem gX0_thingsAhead_X0_hasThing : GoodIn wsX0_thingsAhead (wsV RX0 49 RX0 yX0_hasThing wsX0_hasThing) := goodIn_app (goodIn_of _ (by decide +kernel)) ggX0_thingsAhead_X0_hasThing
theorem dX0_thingsAhead_0 : decode cX0_thingsAhead 0 = .ok (.iconst 0, 1) := by decide +kernel
theorem dX0_thingsAhead_1 : decode cX0_thingsAhead 1 = .ok (.istore_n 2, 1) := by decide +kernel
theorem dX0_thingsAhead_2 : decode cX0_thingsAhead 2 = .ok (.iload_n 2, 1) := by decide +kernel
theorem dX0_thingsAhead_3 : decode cX0_thingsAhead 3 = .ok (.bipush 8, 2) := by decide +kernel
theorem dX0_thingsAhead_5 : decode cX0_thingsAhead 5 = .ok (.if_icmp .ge 27, 3) := by decide +kernel
theorem dX0_thingsAhead_8 : decode cX0_thingsAhead 8 = .ok (.aload_n 0, 1) := by decide +kernel
theorem dX0_thingsAhead_9 : decode cX0_thingsAhead 9 = .ok (.iload_n 2, 1) := by decide +kernel
theorem dX0_thingsAhead_10 : decode cX0_thingsAhead 10 = .ok (.invokevirtual 49, 3) := by decide +kernel
theorem dX0_thingsAhead_13 : decode cX0_thingsAhead 13 = .ok (.ifCond .eq 19, 3) := by decide +kernel
theorem dX0_thingsAhead_16 : decode cX0_thingsAhead 16 = .ok (.aload_n 0, 1) := by decide +kernel
theorem dX0_thingsAhead_17 : decode cX0_thingsAhead 17 = .ok (.getfield 22, 3) := by decide +kernel
theorem dX0_thingsAhead_20 : decode cX0_thingsAhead 20 = .ok (.iload_n 2, 1) := by decide +kernel
theorem dX0_thingsAhead_21 : decode cX0_thingsAhead 21 = .ok (.iaload, 1) := by decide +kernel
theorem dX0_thingsAhead_22 : decode cX0_thingsAhead 22 = .ok (.iload_n 1, 1) := by decide +kernel
theorem dX0_thingsAhead_23 : decode cX0_thingsAhead 23 = .ok (.if_icmp .ge 9, 3) := by decide +kernel
theorem dX0_thingsAhead_26 : decode cX0_thingsAhead 26 = .ok (.iinc 2 1, 3) := by decide +kernel
theorem dX0_thingsAhead_29 : decode cX0_thingsAhead 29 = .ok (.goto (-27), 3) := by decide +kernel
theorem dX0_thingsAhead_32 : decode cX0_thingsAhead 32 = .ok (.iload_n 2, 1) := by decide +kernel
theorem dX0_thingsAhead_33 : decode cX0_thingsAhead 33 = .ok (.ireturn, 1) := by decide +kernel
set_option maxRecDepth 20000 in
theorem ggX0_cellOf_J9_floorDiv_7cf53 : GoodIn wsX0_cellOf wsJ9_floorDiv_7cf53 := goodIn_r _ [5] (by decide +kernel) (by decide +kernel)
set_option maxRecDepth 20000 in
theorem gX0_cellOf_J9_floorDiv_7cf53 : GoodIn wsX0_cellOf (va_wsS RX0 53 yJ9_floorDiv_7cf53 wsJ9_floorDiv_7cf53) := goodIn_app (goodIn_of _ (by decide +kernel)) ggX0_cellOf_J9_floorDiv_7cf53
theorem dX0_cellOf_0 : decode cX0_cellOf 0 = .ok (.aload_n 0, 1) := by decide +kernel
theorem dX0_cellOf_1 : decode cX0_cellOf 1 = .ok (.getfield 40, 3) := by decide +kernel
theorem dX0_cellOf_4 : decode cX0_cellOf 4 = .ok (.ifCond .le 14, 3) := by decide +kernel
theorem dX0_cellOf_7 : decode cX0_cellOf 7 = .ok (.iload_n 1, 1) := by decide +kernel
theorem dX0_cellOf_8 : decode cX0_cellOf 8 = .ok (.aload_n 0, 1) := by decide +kernel
theorem dX0_cellOf_9 : decode cX0_cellOf 9 = .ok (.getfield 40, 3) := by decide +kernel
theorem dX0_cellOf_12 : decode cX0_cellOf 12 = .ok (.invokestatic 53, 3) := by decide +kernel
theorem dX0_cellOf_15 : decode cX0_cellOf 15 = .ok (.goto 4, 3) := by decide +kernel
theorem dX0_cellOf_18 : decode cX0_cellOf 18 = .ok (.iconst 0, 1) := by decide +kernel
theorem dX0_cellOf_19 : decode cX0_cellOf 19 = .ok (.ireturn, 1) := by decide +kernel
set_option maxRecDepth 20000 in
theorem ggX0_lightOfAll_X0_hasLine : GoodIn wsX0_lightOfAll wsX0_hasLine := goodIn_r _ [6, 7, 8, 9, 10, 11, 12, 13, 14, 15, 16, 17] (by decide +kernel) (by decide +kernel)
set_option maxRecDepth 20000 in
theorem gX0_lightOfAll_X0_hasLine : GoodIn wsX0_lightOfAll (wsV RX0 59 RX0 yX0_hasLine wsX0_hasLine) := goodIn_app (goodIn_of _ (by decide +kernel)) ggX0_lightOfAll_X0_hasLine
theorem dX0_lightOfAll_0 : decode cX0_lightOfAll 0 = .ok (.iconst 0, 1) := by decide +kernel
theorem dX0_lightOfAll_1 : decode cX0_lightOfAll 1 = .ok (.istore_n 1, 1) := by decide +kernel
theorem dX0_lightOfAll_2 : decode cX0_lightOfAll 2 = .ok (.iconst 0, 1) := by decide +kernel
theorem dX0_lightOfAll_3 : decode cX0_lightOfAll 3 = .ok (.istore_n 2, 1) := by decide +kernel
theorem dX0_lightOfAll_4 : decode cX0_lightOfAll 4 = .ok (.iload_n 2, 1) := by decide +kernel
theorem dX0_lightOfAll_5 : decode cX0_lightOfAll 5 = .ok (.bipush 8, 2) := by decide +kernel
theorem dX0_lightOfAll_7 : decode cX0_lightOfAll 7 = .ok (.if_icmp .ge 26, 3) := by decide +kernel
theorem dX0_lightOfAll_10 : decode cX0_lightOfAll 10 = .ok (.aload_n 0, 1) := by decide +kernel
theorem dX0_lightOfAll_11 : decode cX0_lightOfAll 11 = .ok (.iload_n 2, 1) := by decide +kernel
theorem dX0_lightOfAll_12 : decode cX0_lightOfAll 12 = .ok (.invokevirtual 59, 3) := by decide +kernel
theorem dX0_lightOfAll_15 : decode cX0_lightOfAll 15 = .ok (.ifCond .eq 18, 3) := by decide +kernel
theorem dX0_lightOfAll_18 : decode cX0_lightOfAll 18 = .ok (.iload_n 1, 1) := by decide +kernel
theorem dX0_lightOfAll_19 : decode cX0_lightOfAll 19 = .ok (.aload_n 0, 1) := by decide +kernel
theorem dX0_lightOfAll_20 : decode cX0_lightOfAll 20 = .ok (.getfield 15, 3) := by decide +kernel
theorem dX0_lightOfAll_23 : decode cX0_lightOfAll 23 = .ok (.iload_n 2, 1) := by decide +kernel
theorem dX0_lightOfAll_24 : decode cX0_lightOfAll 24 = .ok (.iaload, 1) := by decide +kernel
theorem dX0_lightOfAll_25 : decode cX0_lightOfAll 25 = .ok (.iadd, 1) := by decide +kernel
theorem dX0_lightOfAll_26 : decode cX0_lightOfAll 26 = .ok (.istore_n 1, 1) := by decide +kernel
theorem dX0_lightOfAll_27 : decode cX0_lightOfAll 27 = .ok (.iinc 2 1, 3) := by decide +kernel
theorem dX0_lightOfAll_30 : decode cX0_lightOfAll 30 = .ok (.goto (-26), 3) := by decide +kernel
theorem dX0_lightOfAll_33 : decode cX0_lightOfAll 33 = .ok (.iload_n 1, 1) := by decide +kernel
theorem dX0_lightOfAll_34 : decode cX0_lightOfAll 34 = .ok (.ireturn, 1) := by decide +kernel
set_option maxRecDepth 20000 in
theorem ggX0_addLine_X6_within : GoodIn wsX0_addLine wsX6_within := goodIn_r _ [8] (by decide +kernel) (by decide +kernel)
set_option maxRecDepth 20000 in
theorem gX0_addLine_X6_within_n62 : GoodIn wsX0_addLine (wsX6_within) := ggX0_addLine_X6_within
theorem dX0_addLine_0 : decode cX0_addLine 0 = .ok (.iload_n 1, 1) := by decide +kernel
theorem dX0_addLine_1 : decode cX0_addLine 1 = .ok (.sipush 380, 3) := by decide +kernel
theorem dX0_addLine_4 : decode cX0_addLine 4 = .ok (.sipush 780, 3) := by decide +kernel
theorem dX0_addLine_7 : decode cX0_addLine 7 = .ok (.invokestatic 62, 3) := by decide +kernel
theorem dX0_addLine_10 : decode cX0_addLine 10 = .ok (.ifCond .eq 14, 3) := by decide +kernel
theorem dX0_addLine_13 : decode cX0_addLine 13 = .ok (.iload_n 2, 1) := by decide +kernel
theorem dX0_addLine_14 : decode cX0_addLine 14 = .ok (.iconst 1, 1) := by decide +kernel
theorem dX0_addLine_15 : decode cX0_addLine 15 = .ok (.sipush 999, 3) := by decide +kernel
theorem dX0_addLine_18 : decode cX0_addLine 18 = .ok (.invokestatic 62, 3) := by decide +kernel
theorem dX0_addLine_21 : decode cX0_addLine 21 = .ok (.ifCond .ne 6, 3) := by decide +kernel
theorem dX0_addLine_24 : decode cX0_addLine 24 = .ok (.ldc 66, 2) := by decide +kernel
theorem dX0_addLine_26 : decode cX0_addLine 26 = .ok (.ireturn, 1) := by decide +kernel
theorem dX0_addLine_27 : decode cX0_addLine 27 = .ok (.aload_n 0, 1) := by decide +kernel
theorem dX0_addLine_28 : decode cX0_addLine 28 = .ok (.getfield 18, 3) := by decide +kernel
theorem dX0_addLine_31 : decode cX0_addLine 31 = .ok (.istore_n 3, 1) := by decide +kernel
theorem dX0_addLine_32 : decode cX0_addLine 32 = .ok (.iload_n 3, 1) := by decide +kernel
theorem dX0_addLine_33 : decode cX0_addLine 33 = .ok (.ifCond .lt 9, 3) := by decide +kernel
theorem dX0_addLine_36 : decode cX0_addLine 36 = .ok (.iload_n 3, 1) := by decide +kernel
theorem dX0_addLine_37 : decode cX0_addLine 37 = .ok (.bipush 8, 2) := by decide +kernel
theorem dX0_addLine_39 : decode cX0_addLine 39 = .ok (.if_icmp .lt 6, 3) := by decide +kernel
theorem dX0_addLine_42 : decode cX0_addLine 42 = .ok (.ldc 67, 2) := by decide +kernel
theorem dX0_addLine_44 : decode cX0_addLine 44 = .ok (.ireturn, 1) := by decide +kernel
theorem dX0_addLine_45 : decode cX0_addLine 45 = .ok (.aload_n 0, 1) := by decide +kernel
theorem dX0_addLine_46 : decode cX0_addLine 46 = .ok (.getfield 9, 3) := by decide +kernel
theorem dX0_addLine_49 : decode cX0_addLine 49 = .ok (.iload_n 3, 1) := by decide +kernel
theorem dX0_addLine_50 : decode cX0_addLine 50 = .ok (.iload_n 1, 1) := by decide +kernel
theorem dX0_addLine_51 : decode cX0_addLine 51 = .ok (.iastore, 1) := by decide +kernel
theorem dX0_addLine_52 : decode cX0_addLine 52 = .ok (.aload_n 0, 1) := by decide +kernel
theorem dX0_addLine_53 : decode cX0_addLine 53 = .ok (.getfield 15, 3) := by decide +kernel
theorem dX0_addLine_56 : decode cX0_addLine 56 = .ok (.iload_n 3, 1) := by decide +kernel
theorem dX0_addLine_57 : decode cX0_addLine 57 = .ok (.iload_n 2, 1) := by decide +kernel
theorem dX0_addLine_58 : decode cX0_addLine 58 = .ok (.iastore, 1) := by decide +kernel
theorem dX0_addLine_59 : decode cX0_addLine 59 = .ok (.aload_n 0, 1) := by decide +kernel
theorem dX0_addLine_60 : decode cX0_addLine 60 = .ok (.iload_n 3, 1) := by decide +kernel
theorem dX0_addLine_61 : decode cX0_addLine 61 = .ok (.iconst 1, 1) := by decide +kernel
theorem dX0_addLine_62 : decode cX0_addLine 62 = .ok (.iadd, 1) := by decide +kernel
theorem dX0_addLine_63 : decode cX0_addLine 63 = .ok (.putfield 18, 3) := by decide +kernel
theorem dX0_addLine_66 : decode cX0_addLine 66 = .ok (.iload_n 3, 1) := by decide +kernel
theorem dX0_addLine_67 : decode cX0_addLine 67 = .ok (.ireturn, 1) := by decide +kernel
set_option maxRecDepth 20000 in
theorem ggX0_changeLight_X0_hasLine : GoodIn wsX0_changeLight wsX0_hasLine := goodIn_r _ [7, 8, 12, 13, 14, 15, 16, 17, 18, 19, 20, 21] (by decide +kernel) (by decide +kernel)
set_option maxRecDepth 20000 in
theorem gX0_changeLight_X0_hasLine : GoodIn wsX0_changeLight (wsV RX0 59 RX0 yX0_hasLine wsX0_hasLine) := goodIn_app (goodIn_of _ (by decide +kernel)) ggX0_changeLight_X0_hasLine
set_option maxRecDepth 20000 in
theorem ggX0_changeLight_X6_within : GoodIn wsX0_changeLight wsX6_within := goodIn_r _ [11] (by decide +kernel) (by decide +kernel)
set_option maxRecDepth 20000 in
theorem gX0_changeLight_X6_within_n62 : GoodIn wsX0_changeLight (wsX6_within) := ggX0_changeLight_X6_within
theorem dX0_changeLight_0 : decode cX0_changeLight 0 = .ok (.aload_n 0, 1) := by decide +kernel
theorem dX0_changeLight_1 : decode cX0_changeLight 1 = .ok (.iload_n 1, 1) := by decide +kernel
theorem dX0_changeLight_2 : decode cX0_changeLight 2 = .ok (.invokevirtual 59, 3) := by decide +kernel
theorem dX0_changeLight_5 : decode cX0_changeLight 5 = .ok (.ifCond .eq 14, 3) := by decide +kernel
theorem dX0_changeLight_8 : decode cX0_changeLight 8 = .ok (.iload_n 2, 1) := by decide +kernel
theorem dX0_changeLight_9 : decode cX0_changeLight 9 = .ok (.iconst 1, 1) := by decide +kernel
theorem dX0_changeLight_10 : decode cX0_changeLight 10 = .ok (.sipush 999, 3) := by decide +kernel
theorem dX0_changeLight_13 : decode cX0_changeLight 13 = .ok (.invokestatic 62, 3) := by decide +kernel
theorem dX0_changeLight_16 : decode cX0_changeLight 16 = .ok (.ifCond .ne 6, 3) := by decide +kernel
theorem dX0_changeLight_19 : decode cX0_changeLight 19 = .ok (.ldc 66, 2) := by decide +kernel
theorem dX0_changeLight_21 : decode cX0_changeLight 21 = .ok (.ireturn, 1) := by decide +kernel
theorem dX0_changeLight_22 : decode cX0_changeLight 22 = .ok (.aload_n 0, 1) := by decide +kernel
theorem dX0_changeLight_23 : decode cX0_changeLight 23 = .ok (.getfield 15, 3) := by decide +kernel
theorem dX0_changeLight_26 : decode cX0_changeLight 26 = .ok (.iload_n 1, 1) := by decide +kernel
theorem dX0_changeLight_27 : decode cX0_changeLight 27 = .ok (.iaload, 1) := by decide +kernel
theorem dX0_changeLight_28 : decode cX0_changeLight 28 = .ok (.istore_n 3, 1) := by decide +kernel
theorem dX0_changeLight_29 : decode cX0_changeLight 29 = .ok (.aload_n 0, 1) := by decide +kernel
theorem dX0_changeLight_30 : decode cX0_changeLight 30 = .ok (.getfield 15, 3) := by decide +kernel
theorem dX0_changeLight_33 : decode cX0_changeLight 33 = .ok (.iload_n 1, 1) := by decide +kernel
theorem dX0_changeLight_34 : decode cX0_changeLight 34 = .ok (.iload_n 2, 1) := by decide +kernel
theorem dX0_changeLight_35 : decode cX0_changeLight 35 = .ok (.iastore, 1) := by decide +kernel
theorem dX0_changeLight_36 : decode cX0_changeLight 36 = .ok (.iload_n 3, 1) := by decide +kernel
theorem dX0_changeLight_37 : decode cX0_changeLight 37 = .ok (.ireturn, 1) := by decide +kernel
set_option maxRecDepth 20000 in
theorem ggX0_addPrism_X6_within : GoodIn wsX0_addPrism wsX6_within := goodIn_r _ [4] (by decide +kernel) (by decide +kernel)
set_option maxRecDepth 20000 in
theorem gX0_addPrism_X6_within_n62 : GoodIn wsX0_addPrism (wsX6_within) := ggX0_addPrism_X6_within
set_option maxRecDepth 20000 in
theorem ggX0_addPrism_X0_addThing : GoodIn wsX0_addPrism wsX0_addThing := goodIn_r _ [9, 10, 11, 12, 13, 14, 15, 16, 17, 18, 19, 20, 8, 21, 22, 23, 24, 25, 26, 27, 28, 29, 30, 31, 32, 33, 2, 3, 4, 34, 35, 36, 37, 38, 39, 40, 41, 42, 43] (by decide +kernel) (by decide +kernel)
set_option maxRecDepth 20000 in
theorem gX0_addPrism_X0_addThing : GoodIn wsX0_addPrism (wsV RX0 68 RX0 yX0_addThing wsX0_addThing) := goodIn_app (goodIn_of _ (by decide +kernel)) ggX0_addPrism_X0_addThing
theorem dX0_addPrism_0 : decode cX0_addPrism 0 = .ok (.iload_n 2, 1) := by decide +kernel
theorem dX0_addPrism_1 : decode cX0_addPrism 1 = .ok (.iconst 0, 1) := by decide +kernel
theorem dX0_addPrism_2 : decode cX0_addPrism 2 = .ok (.iconst 1, 1) := by decide +kernel
theorem dX0_addPrism_3 : decode cX0_addPrism 3 = .ok (.invokestatic 62, 3) := by decide +kernel
theorem dX0_addPrism_6 : decode cX0_addPrism 6 = .ok (.ifCond .eq 19, 3) := by decide +kernel
theorem dX0_addPrism_9 : decode cX0_addPrism 9 = .ok (.iload 4, 2) := by decide +kernel
theorem dX0_addPrism_11 : decode cX0_addPrism 11 = .ok (.iconst 1, 1) := by decide +kernel
theorem dX0_addPrism_12 : decode cX0_addPrism 12 = .ok (.if_icmp .eq 9, 3) := by decide +kernel
theorem dX0_addPrism_15 : decode cX0_addPrism 15 = .ok (.iload 4, 2) := by decide +kernel
theorem dX0_addPrism_17 : decode cX0_addPrism 17 = .ok (.iconst (-1), 1) := by decide +kernel
theorem dX0_addPrism_18 : decode cX0_addPrism 18 = .ok (.if_icmp .ne 7, 3) := by decide +kernel
theorem dX0_addPrism_21 : decode cX0_addPrism 21 = .ok (.iconst 1, 1) := by decide +kernel
theorem dX0_addPrism_22 : decode cX0_addPrism 22 = .ok (.goto 4, 3) := by decide +kernel
theorem dX0_addPrism_25 : decode cX0_addPrism 25 = .ok (.iconst 0, 1) := by decide +kernel
theorem dX0_addPrism_26 : decode cX0_addPrism 26 = .ok (.istore 5, 2) := by decide +kernel
theorem dX0_addPrism_28 : decode cX0_addPrism 28 = .ok (.iload 5, 2) := by decide +kernel
theorem dX0_addPrism_30 : decode cX0_addPrism 30 = .ok (.ifCond .eq 24, 3) := by decide +kernel
theorem dX0_addPrism_33 : decode cX0_addPrism 33 = .ok (.iload_n 1, 1) := by decide +kernel
theorem dX0_addPrism_34 : decode cX0_addPrism 34 = .ok (.iconst 1, 1) := by decide +kernel
theorem dX0_addPrism_35 : decode cX0_addPrism 35 = .ok (.sipush 999, 3) := by decide +kernel
theorem dX0_addPrism_38 : decode cX0_addPrism 38 = .ok (.invokestatic 62, 3) := by decide +kernel
theorem dX0_addPrism_41 : decode cX0_addPrism 41 = .ok (.ifCond .eq 13, 3) := by decide +kernel
theorem dX0_addPrism_44 : decode cX0_addPrism 44 = .ok (.iload_n 3, 1) := by decide +kernel
theorem dX0_addPrism_45 : decode cX0_addPrism 45 = .ok (.iconst 1, 1) := by decide +kernel
theorem dX0_addPrism_46 : decode cX0_addPrism 46 = .ok (.bipush 99, 2) := by decide +kernel
theorem dX0_addPrism_48 : decode cX0_addPrism 48 = .ok (.invokestatic 62, 3) := by decide +kernel
theorem dX0_addPrism_51 : decode cX0_addPrism 51 = .ok (.ifCond .ne 6, 3) := by decide +kernel
theorem dX0_addPrism_54 : decode cX0_addPrism 54 = .ok (.ldc 66, 2) := by decide +kernel
theorem dX0_addPrism_56 : decode cX0_addPrism 56 = .ok (.ireturn, 1) := by decide +kernel
theorem dX0_addPrism_57 : decode cX0_addPrism 57 = .ok (.aload_n 0, 1) := by decide +kernel
theorem dX0_addPrism_58 : decode cX0_addPrism 58 = .ok (.iload_n 1, 1) := by decide +kernel
theorem dX0_addPrism_59 : decode cX0_addPrism 59 = .ok (.iconst 0, 1) := by decide +kernel
theorem dX0_addPrism_60 : decode cX0_addPrism 60 = .ok (.iload_n 2, 1) := by decide +kernel
theorem dX0_addPrism_61 : decode cX0_addPrism 61 = .ok (.iload_n 3, 1) := by decide +kernel
theorem dX0_addPrism_62 : decode cX0_addPrism 62 = .ok (.iload 4, 2) := by decide +kernel
theorem dX0_addPrism_64 : decode cX0_addPrism 64 = .ok (.invokevirtual 68, 3) := by decide +kernel
theorem dX0_addPrism_67 : decode cX0_addPrism 67 = .ok (.ireturn, 1) := by decide +kernel
set_option maxRecDepth 20000 in
theorem ggX0_addSlit_X6_within : GoodIn wsX0_addSlit wsX6_within := goodIn_r _ [4] (by decide +kernel) (by decide +kernel)
set_option maxRecDepth 20000 in
theorem gX0_addSlit_X6_within_n62 : GoodIn wsX0_addSlit (wsX6_within) := ggX0_addSlit_X6_within
set_option maxRecDepth 20000 in
theorem ggX0_addSlit_X0_addThing : GoodIn wsX0_addSlit wsX0_addThing := goodIn_r _ [9, 10, 11, 12, 13, 14, 15, 16, 17, 18, 19, 20, 8, 21, 22, 23, 24, 25, 26, 27, 28, 29, 30, 31, 32, 33, 2, 3, 4, 34, 35, 36, 37, 38, 39, 40, 41, 42, 43] (by decide +kernel) (by decide +kernel)
set_option maxRecDepth 20000 in
theorem gX0_addSlit_X0_addThing : GoodIn wsX0_addSlit (wsV RX0 68 RX0 yX0_addThing wsX0_addThing) := goodIn_app (goodIn_of _ (by decide +kernel)) ggX0_addSlit_X0_addThing
theorem dX0_addSlit_0 : decode cX0_addSlit 0 = .ok (.iload_n 2, 1) := by decide +kernel
theorem dX0_addSlit_1 : decode cX0_addSlit 1 = .ok (.sipush (-9999), 3) := by decide +kernel
theorem dX0_addSlit_4 : decode cX0_addSlit 4 = .ok (.sipush 9999, 3) := by decide +kernel
theorem dX0_addSlit_7 : decode cX0_addSlit 7 = .ok (.invokestatic 62, 3) := by decide +kernel
theorem dX0_addSlit_10 : decode cX0_addSlit 10 = .ok (.ifCond .eq 18, 3) := by decide +kernel
theorem dX0_addSlit_13 : decode cX0_addSlit 13 = .ok (.iload_n 3, 1) := by decide +kernel
theorem dX0_addSlit_14 : decode cX0_addSlit 14 = .ok (.iload_n 2, 1) := by decide +kernel
theorem dX0_addSlit_15 : decode cX0_addSlit 15 = .ok (.sipush 9999, 3) := by decide +kernel
theorem dX0_addSlit_18 : decode cX0_addSlit 18 = .ok (.invokestatic 62, 3) := by decide +kernel
theorem dX0_addSlit_21 : decode cX0_addSlit 21 = .ok (.ifCond .eq 7, 3) := by decide +kernel
theorem dX0_addSlit_24 : decode cX0_addSlit 24 = .ok (.iconst 1, 1) := by decide +kernel
theorem dX0_addSlit_25 : decode cX0_addSlit 25 = .ok (.goto 4, 3) := by decide +kernel
theorem dX0_addSlit_28 : decode cX0_addSlit 28 = .ok (.iconst 0, 1) := by decide +kernel
theorem dX0_addSlit_29 : decode cX0_addSlit 29 = .ok (.istore 4, 2) := by decide +kernel
theorem dX0_addSlit_31 : decode cX0_addSlit 31 = .ok (.iload 4, 2) := by decide +kernel
theorem dX0_addSlit_33 : decode cX0_addSlit 33 = .ok (.ifCond .eq 14, 3) := by decide +kernel
theorem dX0_addSlit_36 : decode cX0_addSlit 36 = .ok (.iload_n 1, 1) := by decide +kernel
theorem dX0_addSlit_37 : decode cX0_addSlit 37 = .ok (.iconst 1, 1) := by decide +kernel
theorem dX0_addSlit_38 : decode cX0_addSlit 38 = .ok (.sipush 999, 3) := by decide +kernel
theorem dX0_addSlit_41 : decode cX0_addSlit 41 = .ok (.invokestatic 62, 3) := by decide +kernel
theorem dX0_addSlit_44 : decode cX0_addSlit 44 = .ok (.ifCond .ne 6, 3) := by decide +kernel
theorem dX0_addSlit_47 : decode cX0_addSlit 47 = .ok (.ldc 66, 2) := by decide +kernel
theorem dX0_addSlit_49 : decode cX0_addSlit 49 = .ok (.ireturn, 1) := by decide +kernel
theorem dX0_addSlit_50 : decode cX0_addSlit 50 = .ok (.aload_n 0, 1) := by decide +kernel
theorem dX0_addSlit_51 : decode cX0_addSlit 51 = .ok (.iload_n 1, 1) := by decide +kernel
theorem dX0_addSlit_52 : decode cX0_addSlit 52 = .ok (.iconst 1, 1) := by decide +kernel
theorem dX0_addSlit_53 : decode cX0_addSlit 53 = .ok (.iload_n 2, 1) := by decide +kernel
theorem dX0_addSlit_54 : decode cX0_addSlit 54 = .ok (.iload_n 3, 1) := by decide +kernel
theorem dX0_addSlit_55 : decode cX0_addSlit 55 = .ok (.iconst 1, 1) := by decide +kernel
theorem dX0_addSlit_56 : decode cX0_addSlit 56 = .ok (.invokevirtual 68, 3) := by decide +kernel
theorem dX0_addSlit_59 : decode cX0_addSlit 59 = .ok (.ireturn, 1) := by decide +kernel
set_option maxRecDepth 20000 in
theorem ggX0_addThing_X0_indexOf : GoodIn wsX0_addThing wsX0_indexOf := goodIn_r _ [13, 4, 14, 15, 16, 12, 17, 2, 29, 30, 31, 32, 33, 34, 35, 36, 37, 38] (by decide +kernel) (by decide +kernel)
set_option maxRecDepth 20000 in
theorem gX0_addThing_X0_indexOf : GoodIn wsX0_addThing (wsV RX0 72 RX0 yX0_indexOf wsX0_indexOf) := goodIn_app (goodIn_of _ (by decide +kernel)) ggX0_addThing_X0_indexOf
set_option maxRecDepth 20000 in
theorem ggX0_addThing_X0_thingsAhead : GoodIn wsX0_addThing wsX0_thingsAhead := goodIn_r _ [21, 4, 14, 15, 16, 12, 17, 2, 29, 30, 31, 32, 33, 34, 35, 36, 37, 38] (by decide +kernel) (by decide +kernel)
set_option maxRecDepth 20000 in
theorem gX0_addThing_X0_thingsAhead : GoodIn wsX0_addThing (wsV RX0 77 RX0 yX0_thingsAhead wsX0_thingsAhead) := goodIn_app (goodIn_of _ (by decide +kernel)) ggX0_addThing_X0_thingsAhead
set_option maxRecDepth 20000 in
theorem ggX0_addThing_X0_copyThing : GoodIn wsX0_addThing wsX0_copyThing := goodIn_r _ [25, 4, 5, 6, 7, 8, 26, 27, 28, 29, 30, 31, 32, 33, 34, 35, 36, 37, 38] (by decide +kernel) (by decide +kernel)
set_option maxRecDepth 20000 in
theorem gX0_addThing_X0_copyThing : GoodIn wsX0_addThing (wsV RX0 80 RX0 yX0_copyThing wsX0_copyThing) := goodIn_app (goodIn_of _ (by decide +kernel)) ggX0_addThing_X0_copyThing
theorem dX0_addThing_0 : decode cX0_addThing 0 = .ok (.aload_n 0, 1) := by decide +kernel
theorem dX0_addThing_1 : decode cX0_addThing 1 = .ok (.iload_n 1, 1) := by decide +kernel
theorem dX0_addThing_2 : decode cX0_addThing 2 = .ok (.invokevirtual 72, 3) := by decide +kernel
theorem dX0_addThing_5 : decode cX0_addThing 5 = .ok (.ifCond .lt 6, 3) := by decide +kernel
theorem dX0_addThing_8 : decode cX0_addThing 8 = .ok (.ldc 76, 2) := by decide +kernel
theorem dX0_addThing_10 : decode cX0_addThing 10 = .ok (.ireturn, 1) := by decide +kernel
theorem dX0_addThing_11 : decode cX0_addThing 11 = .ok (.aload_n 0, 1) := by decide +kernel
theorem dX0_addThing_12 : decode cX0_addThing 12 = .ok (.iload_n 1, 1) := by decide +kernel
theorem dX0_addThing_13 : decode cX0_addThing 13 = .ok (.invokevirtual 77, 3) := by decide +kernel
theorem dX0_addThing_16 : decode cX0_addThing 16 = .ok (.istore 6, 2) := by decide +kernel
theorem dX0_addThing_18 : decode cX0_addThing 18 = .ok (.aload_n 0, 1) := by decide +kernel
theorem dX0_addThing_19 : decode cX0_addThing 19 = .ok (.getfield 37, 3) := by decide +kernel
theorem dX0_addThing_22 : decode cX0_addThing 22 = .ok (.bipush 8, 2) := by decide +kernel
theorem dX0_addThing_24 : decode cX0_addThing 24 = .ok (.if_icmp .ge 10, 3) := by decide +kernel
theorem dX0_addThing_27 : decode cX0_addThing 27 = .ok (.iload 6, 2) := by decide +kernel
theorem dX0_addThing_29 : decode cX0_addThing 29 = .ok (.bipush 8, 2) := by decide +kernel
theorem dX0_addThing_31 : decode cX0_addThing 31 = .ok (.if_icmp .lt 6, 3) := by decide +kernel
theorem dX0_addThing_34 : decode cX0_addThing 34 = .ok (.ldc 67, 2) := by decide +kernel
theorem dX0_addThing_36 : decode cX0_addThing 36 = .ok (.ireturn, 1) := by decide +kernel
theorem dX0_addThing_37 : decode cX0_addThing 37 = .ok (.aload_n 0, 1) := by decide +kernel
theorem dX0_addThing_38 : decode cX0_addThing 38 = .ok (.getfield 37, 3) := by decide +kernel
theorem dX0_addThing_41 : decode cX0_addThing 41 = .ok (.istore 7, 2) := by decide +kernel
theorem dX0_addThing_43 : decode cX0_addThing 43 = .ok (.iload 7, 2) := by decide +kernel
theorem dX0_addThing_45 : decode cX0_addThing 45 = .ok (.iload 6, 2) := by decide +kernel
theorem dX0_addThing_47 : decode cX0_addThing 47 = .ok (.if_icmp .le 19, 3) := by decide +kernel
theorem dX0_addThing_50 : decode cX0_addThing 50 = .ok (.aload_n 0, 1) := by decide +kernel
theorem dX0_addThing_51 : decode cX0_addThing 51 = .ok (.iload 7, 2) := by decide +kernel
theorem dX0_addThing_53 : decode cX0_addThing 53 = .ok (.iconst 1, 1) := by decide +kernel
theorem dX0_addThing_54 : decode cX0_addThing 54 = .ok (.isub, 1) := by decide +kernel
theorem dX0_addThing_55 : decode cX0_addThing 55 = .ok (.iload 7, 2) := by decide +kernel
theorem dX0_addThing_57 : decode cX0_addThing 57 = .ok (.invokevirtual 80, 3) := by decide +kernel
theorem dX0_addThing_60 : decode cX0_addThing 60 = .ok (.iinc 7 (-1), 3) := by decide +kernel
theorem dX0_addThing_63 : decode cX0_addThing 63 = .ok (.goto (-20), 3) := by decide +kernel
theorem dX0_addThing_66 : decode cX0_addThing 66 = .ok (.aload_n 0, 1) := by decide +kernel
theorem dX0_addThing_67 : decode cX0_addThing 67 = .ok (.getfield 22, 3) := by decide +kernel
theorem dX0_addThing_70 : decode cX0_addThing 70 = .ok (.iload 6, 2) := by decide +kernel
theorem dX0_addThing_72 : decode cX0_addThing 72 = .ok (.iload_n 1, 1) := by decide +kernel
theorem dX0_addThing_73 : decode cX0_addThing 73 = .ok (.iastore, 1) := by decide +kernel
theorem dX0_addThing_74 : decode cX0_addThing 74 = .ok (.aload_n 0, 1) := by decide +kernel
theorem dX0_addThing_75 : decode cX0_addThing 75 = .ok (.getfield 25, 3) := by decide +kernel
theorem dX0_addThing_78 : decode cX0_addThing 78 = .ok (.iload 6, 2) := by decide +kernel
theorem dX0_addThing_80 : decode cX0_addThing 80 = .ok (.iload_n 2, 1) := by decide +kernel
theorem dX0_addThing_81 : decode cX0_addThing 81 = .ok (.iastore, 1) := by decide +kernel
theorem dX0_addThing_82 : decode cX0_addThing 82 = .ok (.aload_n 0, 1) := by decide +kernel
theorem dX0_addThing_83 : decode cX0_addThing 83 = .ok (.getfield 28, 3) := by decide +kernel
theorem dX0_addThing_86 : decode cX0_addThing 86 = .ok (.iload 6, 2) := by decide +kernel
theorem dX0_addThing_88 : decode cX0_addThing 88 = .ok (.iload_n 3, 1) := by decide +kernel
theorem dX0_addThing_89 : decode cX0_addThing 89 = .ok (.iastore, 1) := by decide +kernel
theorem dX0_addThing_90 : decode cX0_addThing 90 = .ok (.aload_n 0, 1) := by decide +kernel
theorem dX0_addThing_91 : decode cX0_addThing 91 = .ok (.getfield 31, 3) := by decide +kernel
theorem dX0_addThing_94 : decode cX0_addThing 94 = .ok (.iload 6, 2) := by decide +kernel
theorem dX0_addThing_96 : decode cX0_addThing 96 = .ok (.iload 4, 2) := by decide +kernel
theorem dX0_addThing_98 : decode cX0_addThing 98 = .ok (.iastore, 1) := by decide +kernel
theorem dX0_addThing_99 : decode cX0_addThing 99 = .ok (.aload_n 0, 1) := by decide +kernel
theorem dX0_addThing_100 : decode cX0_addThing 100 = .ok (.getfield 34, 3) := by decide +kernel
theorem dX0_addThing_103 : decode cX0_addThing 103 = .ok (.iload 6, 2) := by decide +kernel
theorem dX0_addThing_105 : decode cX0_addThing 105 = .ok (.iload 5, 2) := by decide +kernel
theorem dX0_addThing_107 : decode cX0_addThing 107 = .ok (.iastore, 1) := by decide +kernel
theorem dX0_addThing_108 : decode cX0_addThing 108 = .ok (.aload_n 0, 1) := by decide +kernel
theorem dX0_addThing_109 : decode cX0_addThing 109 = .ok (.dup, 1) := by decide +kernel
theorem dX0_addThing_110 : decode cX0_addThing 110 = .ok (.getfield 37, 3) := by decide +kernel
theorem dX0_addThing_113 : decode cX0_addThing 113 = .ok (.iconst 1, 1) := by decide +kernel
theorem dX0_addThing_114 : decode cX0_addThing 114 = .ok (.iadd, 1) := by decide +kernel
theorem dX0_addThing_115 : decode cX0_addThing 115 = .ok (.putfield 37, 3) := by decide +kernel
theorem dX0_addThing_118 : decode cX0_addThing 118 = .ok (.aload_n 0, 1) := by decide +kernel
theorem dX0_addThing_119 : decode cX0_addThing 119 = .ok (.getfield 37, 3) := by decide +kernel
theorem dX0_addThing_122 : decode cX0_addThing 122 = .ok (.ireturn, 1) := by decide +kernel
set_option maxRecDepth 20000 in
theorem ggX0_copyThing_X6_within : GoodIn wsX0_copyThing wsX6_within := goodIn_r _ [8] (by decide +kernel) (by decide +kernel)
set_option maxRecDepth 20000 in
theorem gX0_copyThing_X6_within_n62 : GoodIn wsX0_copyThing (wsX6_within) := ggX0_copyThing_X6_within
theorem dX0_copyThing_0 : decode cX0_copyThing 0 = .ok (.iload_n 1, 1) := by decide +kernel
theorem dX0_copyThing_1 : decode cX0_copyThing 1 = .ok (.iconst 0, 1) := by decide +kernel
theorem dX0_copyThing_2 : decode cX0_copyThing 2 = .ok (.bipush 7, 2) := by decide +kernel
theorem dX0_copyThing_4 : decode cX0_copyThing 4 = .ok (.invokestatic 62, 3) := by decide +kernel
theorem dX0_copyThing_7 : decode cX0_copyThing 7 = .ok (.ifCond .eq 13, 3) := by decide +kernel
theorem dX0_copyThing_10 : decode cX0_copyThing 10 = .ok (.iload_n 2, 1) := by decide +kernel
theorem dX0_copyThing_11 : decode cX0_copyThing 11 = .ok (.iconst 0, 1) := by decide +kernel
theorem dX0_copyThing_12 : decode cX0_copyThing 12 = .ok (.bipush 7, 2) := by decide +kernel
theorem dX0_copyThing_14 : decode cX0_copyThing 14 = .ok (.invokestatic 62, 3) := by decide +kernel
theorem dX0_copyThing_17 : decode cX0_copyThing 17 = .ok (.ifCond .ne 4, 3) := by decide +kernel
theorem dX0_copyThing_20 : decode cX0_copyThing 20 = .ok (.return_, 1) := by decide +kernel
theorem dX0_copyThing_21 : decode cX0_copyThing 21 = .ok (.aload_n 0, 1) := by decide +kernel
theorem dX0_copyThing_22 : decode cX0_copyThing 22 = .ok (.getfield 22, 3) := by decide +kernel
theorem dX0_copyThing_25 : decode cX0_copyThing 25 = .ok (.iload_n 2, 1) := by decide +kernel
theorem dX0_copyThing_26 : decode cX0_copyThing 26 = .ok (.aload_n 0, 1) := by decide +kernel
theorem dX0_copyThing_27 : decode cX0_copyThing 27 = .ok (.getfield 22, 3) := by decide +kernel
theorem dX0_copyThing_30 : decode cX0_copyThing 30 = .ok (.iload_n 1, 1) := by decide +kernel
theorem dX0_copyThing_31 : decode cX0_copyThing 31 = .ok (.iaload, 1) := by decide +kernel
theorem dX0_copyThing_32 : decode cX0_copyThing 32 = .ok (.iastore, 1) := by decide +kernel
theorem dX0_copyThing_33 : decode cX0_copyThing 33 = .ok (.aload_n 0, 1) := by decide +kernel
theorem dX0_copyThing_34 : decode cX0_copyThing 34 = .ok (.getfield 25, 3) := by decide +kernel
theorem dX0_copyThing_37 : decode cX0_copyThing 37 = .ok (.iload_n 2, 1) := by decide +kernel
theorem dX0_copyThing_38 : decode cX0_copyThing 38 = .ok (.aload_n 0, 1) := by decide +kernel
theorem dX0_copyThing_39 : decode cX0_copyThing 39 = .ok (.getfield 25, 3) := by decide +kernel
theorem dX0_copyThing_42 : decode cX0_copyThing 42 = .ok (.iload_n 1, 1) := by decide +kernel
theorem dX0_copyThing_43 : decode cX0_copyThing 43 = .ok (.iaload, 1) := by decide +kernel
theorem dX0_copyThing_44 : decode cX0_copyThing 44 = .ok (.iastore, 1) := by decide +kernel
theorem dX0_copyThing_45 : decode cX0_copyThing 45 = .ok (.aload_n 0, 1) := by decide +kernel
theorem dX0_copyThing_46 : decode cX0_copyThing 46 = .ok (.getfield 28, 3) := by decide +kernel
theorem dX0_copyThing_49 : decode cX0_copyThing 49 = .ok (.iload_n 2, 1) := by decide +kernel
theorem dX0_copyThing_50 : decode cX0_copyThing 50 = .ok (.aload_n 0, 1) := by decide +kernel
theorem dX0_copyThing_51 : decode cX0_copyThing 51 = .ok (.getfield 28, 3) := by decide +kernel
theorem dX0_copyThing_54 : decode cX0_copyThing 54 = .ok (.iload_n 1, 1) := by decide +kernel
theorem dX0_copyThing_55 : decode cX0_copyThing 55 = .ok (.iaload, 1) := by decide +kernel
theorem dX0_copyThing_56 : decode cX0_copyThing 56 = .ok (.iastore, 1) := by decide +kernel
theorem dX0_copyThing_57 : decode cX0_copyThing 57 = .ok (.aload_n 0, 1) := by decide +kernel
theorem dX0_copyThing_58 : decode cX0_copyThing 58 = .ok (.getfield 31, 3) := by decide +kernel
theorem dX0_copyThing_61 : decode cX0_copyThing 61 = .ok (.iload_n 2, 1) := by decide +kernel
theorem dX0_copyThing_62 : decode cX0_copyThing 62 = .ok (.aload_n 0, 1) := by decide +kernel
theorem dX0_copyThing_63 : decode cX0_copyThing 63 = .ok (.getfield 31, 3) := by decide +kernel
theorem dX0_copyThing_66 : decode cX0_copyThing 66 = .ok (.iload_n 1, 1) := by decide +kernel
theorem dX0_copyThing_67 : decode cX0_copyThing 67 = .ok (.iaload, 1) := by decide +kernel
theorem dX0_copyThing_68 : decode cX0_copyThing 68 = .ok (.iastore, 1) := by decide +kernel
theorem dX0_copyThing_69 : decode cX0_copyThing 69 = .ok (.aload_n 0, 1) := by decide +kernel
theorem dX0_copyThing_70 : decode cX0_copyThing 70 = .ok (.getfield 34, 3) := by decide +kernel
theorem dX0_copyThing_73 : decode cX0_copyThing 73 = .ok (.iload_n 2, 1) := by decide +kernel
theorem dX0_copyThing_74 : decode cX0_copyThing 74 = .ok (.aload_n 0, 1) := by decide +kernel
theorem dX0_copyThing_75 : decode cX0_copyThing 75 = .ok (.getfield 34, 3) := by decide +kernel
theorem dX0_copyThing_78 : decode cX0_copyThing 78 = .ok (.iload_n 1, 1) := by decide +kernel
theorem dX0_copyThing_79 : decode cX0_copyThing 79 = .ok (.iaload, 1) := by decide +kernel
theorem dX0_copyThing_80 : decode cX0_copyThing 80 = .ok (.iastore, 1) := by decide +kernel
theorem dX0_copyThing_81 : decode cX0_copyThing 81 = .ok (.return_, 1) := by decide +kernel
set_option maxRecDepth 20000 in
theorem ggX0_removeThing_X0_indexOf : GoodIn wsX0_removeThing wsX0_indexOf := goodIn_r _ [7, 8, 9, 10, 11, 6, 12, 2, 24, 25, 26, 27, 28, 29, 30, 31, 32, 33] (by decide +kernel) (by decide +kernel)
set_option maxRecDepth 20000 in
theorem gX0_removeThing_X0_indexOf : GoodIn wsX0_removeThing (wsV RX0 72 RX0 yX0_indexOf wsX0_indexOf) := goodIn_app (goodIn_of _ (by decide +kernel)) ggX0_removeThing_X0_indexOf
set_option maxRecDepth 20000 in
theorem ggX0_removeThing_X0_hasThing : GoodIn wsX0_removeThing wsX0_hasThing := goodIn_r _ [12, 2, 24, 25, 26, 27, 28, 29, 30, 31, 32, 33] (by decide +kernel) (by decide +kernel)
set_option maxRecDepth 20000 in
theorem gX0_removeThing_X0_hasThing : GoodIn wsX0_removeThing (wsV RX0 49 RX0 yX0_hasThing wsX0_hasThing) := goodIn_app (goodIn_of _ (by decide +kernel)) ggX0_removeThing_X0_hasThing
set_option maxRecDepth 20000 in
theorem ggX0_removeThing_X0_copyThing : GoodIn wsX0_removeThing wsX0_copyThing := goodIn_r _ [16, 8, 17, 18, 19, 20, 21, 22, 23, 24, 25, 26, 27, 28, 29, 30, 31, 32, 33] (by decide +kernel) (by decide +kernel)
set_option maxRecDepth 20000 in
theorem gX0_removeThing_X0_copyThing : GoodIn wsX0_removeThing (wsV RX0 80 RX0 yX0_copyThing wsX0_copyThing) := goodIn_app (goodIn_of _ (by decide +kernel)) ggX0_removeThing_X0_copyThing
theorem dX0_removeThing_0 : decode cX0_removeThing 0 = .ok (.aload_n 0, 1) := by decide +kernel
theorem dX0_removeThing_1 : decode cX0_removeThing 1 = .ok (.iload_n 1, 1) := by decide +kernel
theorem dX0_removeThing_2 : decode cX0_removeThing 2 = .ok (.invokevirtual 72, 3) := by decide +kernel
theorem dX0_removeThing_5 : decode cX0_removeThing 5 = .ok (.istore_n 2, 1) := by decide +kernel
theorem dX0_removeThing_6 : decode cX0_removeThing 6 = .ok (.aload_n 0, 1) := by decide +kernel
theorem dX0_removeThing_7 : decode cX0_removeThing 7 = .ok (.iload_n 2, 1) := by decide +kernel
theorem dX0_removeThing_8 : decode cX0_removeThing 8 = .ok (.invokevirtual 49, 3) := by decide +kernel
theorem dX0_removeThing_11 : decode cX0_removeThing 11 = .ok (.ifCond .ne 6, 3) := by decide +kernel
theorem dX0_removeThing_14 : decode cX0_removeThing 14 = .ok (.ldc 66, 2) := by decide +kernel
theorem dX0_removeThing_16 : decode cX0_removeThing 16 = .ok (.ireturn, 1) := by decide +kernel
theorem dX0_removeThing_17 : decode cX0_removeThing 17 = .ok (.iload_n 2, 1) := by decide +kernel
theorem dX0_removeThing_18 : decode cX0_removeThing 18 = .ok (.iconst 1, 1) := by decide +kernel
theorem dX0_removeThing_19 : decode cX0_removeThing 19 = .ok (.iadd, 1) := by decide +kernel
theorem dX0_removeThing_20 : decode cX0_removeThing 20 = .ok (.istore_n 3, 1) := by decide +kernel
theorem dX0_removeThing_21 : decode cX0_removeThing 21 = .ok (.iload_n 3, 1) := by decide +kernel
theorem dX0_removeThing_22 : decode cX0_removeThing 22 = .ok (.bipush 8, 2) := by decide +kernel
theorem dX0_removeThing_24 : decode cX0_removeThing 24 = .ok (.if_icmp .ge 25, 3) := by decide +kernel
theorem dX0_removeThing_27 : decode cX0_removeThing 27 = .ok (.aload_n 0, 1) := by decide +kernel
theorem dX0_removeThing_28 : decode cX0_removeThing 28 = .ok (.iload_n 3, 1) := by decide +kernel
theorem dX0_removeThing_29 : decode cX0_removeThing 29 = .ok (.invokevirtual 49, 3) := by decide +kernel
theorem dX0_removeThing_32 : decode cX0_removeThing 32 = .ok (.ifCond .eq 17, 3) := by decide +kernel
theorem dX0_removeThing_35 : decode cX0_removeThing 35 = .ok (.aload_n 0, 1) := by decide +kernel
theorem dX0_removeThing_36 : decode cX0_removeThing 36 = .ok (.iload_n 3, 1) := by decide +kernel
theorem dX0_removeThing_37 : decode cX0_removeThing 37 = .ok (.iload_n 3, 1) := by decide +kernel
theorem dX0_removeThing_38 : decode cX0_removeThing 38 = .ok (.iconst 1, 1) := by decide +kernel
theorem dX0_removeThing_39 : decode cX0_removeThing 39 = .ok (.isub, 1) := by decide +kernel
theorem dX0_removeThing_40 : decode cX0_removeThing 40 = .ok (.invokevirtual 80, 3) := by decide +kernel
theorem dX0_removeThing_43 : decode cX0_removeThing 43 = .ok (.iinc 3 1, 3) := by decide +kernel
theorem dX0_removeThing_46 : decode cX0_removeThing 46 = .ok (.goto (-25), 3) := by decide +kernel
theorem dX0_removeThing_49 : decode cX0_removeThing 49 = .ok (.aload_n 0, 1) := by decide +kernel
theorem dX0_removeThing_50 : decode cX0_removeThing 50 = .ok (.dup, 1) := by decide +kernel
theorem dX0_removeThing_51 : decode cX0_removeThing 51 = .ok (.getfield 37, 3) := by decide +kernel
theorem dX0_removeThing_54 : decode cX0_removeThing 54 = .ok (.iconst 1, 1) := by decide +kernel
theorem dX0_removeThing_55 : decode cX0_removeThing 55 = .ok (.isub, 1) := by decide +kernel
theorem dX0_removeThing_56 : decode cX0_removeThing 56 = .ok (.putfield 37, 3) := by decide +kernel
theorem dX0_removeThing_59 : decode cX0_removeThing 59 = .ok (.aload_n 0, 1) := by decide +kernel
theorem dX0_removeThing_60 : decode cX0_removeThing 60 = .ok (.getfield 37, 3) := by decide +kernel
theorem dX0_removeThing_63 : decode cX0_removeThing 63 = .ok (.ireturn, 1) := by decide +kernel
set_option maxRecDepth 20000 in
theorem ggX0_moveThing_X0_indexOf : GoodIn wsX0_moveThing wsX0_indexOf := goodIn_r _ [11, 12, 13, 14, 15, 10, 16, 17, 38, 39, 40, 41, 42, 43, 44, 45, 46, 47] (by decide +kernel) (by decide +kernel)
set_option maxRecDepth 20000 in
theorem gX0_moveThing_X0_indexOf : GoodIn wsX0_moveThing (wsV RX0 72 RX0 yX0_indexOf wsX0_indexOf) := goodIn_app (goodIn_of _ (by decide +kernel)) ggX0_moveThing_X0_indexOf
set_option maxRecDepth 20000 in
theorem ggX0_moveThing_X0_hasThing : GoodIn wsX0_moveThing wsX0_hasThing := goodIn_r _ [16, 17, 38, 39, 40, 41, 42, 43, 44, 45, 46, 47] (by decide +kernel) (by decide +kernel)
set_option maxRecDepth 20000 in
theorem gX0_moveThing_X0_hasThing : GoodIn wsX0_moveThing (wsV RX0 49 RX0 yX0_hasThing wsX0_hasThing) := goodIn_app (goodIn_of _ (by decide +kernel)) ggX0_moveThing_X0_hasThing
set_option maxRecDepth 20000 in
theorem ggX0_moveThing_X6_within : GoodIn wsX0_moveThing wsX6_within := goodIn_r _ [20] (by decide +kernel) (by decide +kernel)
set_option maxRecDepth 20000 in
theorem gX0_moveThing_X6_within_n62 : GoodIn wsX0_moveThing (wsX6_within) := ggX0_moveThing_X6_within
set_option maxRecDepth 20000 in
theorem ggX0_moveThing_X0_removeThing : GoodIn wsX0_moveThing wsX0_removeThing := goodIn_r _ [24, 1, 17, 7, 8, 9, 10, 11, 12, 13, 14, 15, 16, 25, 26, 27, 28, 3, 4, 5, 6, 18, 19, 20, 38, 39, 40, 41, 42, 43, 44, 45, 46, 47] (by decide +kernel) (by decide +kernel)
set_option maxRecDepth 20000 in
theorem gX0_moveThing_X0_removeThing : GoodIn wsX0_moveThing (wsV RX0 84 RX0 yX0_removeThing wsX0_removeThing) := goodIn_app (goodIn_of _ (by decide +kernel)) ggX0_moveThing_X0_removeThing
set_option maxRecDepth 20000 in
theorem ggX0_moveThing_X0_addThing : GoodIn wsX0_moveThing wsX0_addThing := goodIn_r _ [32, 2, 17, 33, 12, 3, 4, 5, 6, 7, 8, 9, 10, 11, 13, 14, 15, 16, 34, 35, 36, 37, 25, 26, 27, 28, 18, 19, 20, 38, 39, 40, 41, 42, 43, 44, 45, 46, 47] (by decide +kernel) (by decide +kernel)
set_option maxRecDepth 20000 in
theorem gX0_moveThing_X0_addThing : GoodIn wsX0_moveThing (wsV RX0 68 RX0 yX0_addThing wsX0_addThing) := goodIn_app (goodIn_of _ (by decide +kernel)) ggX0_moveThing_X0_addThing
set_option maxRecDepth 20000 in
theorem ggX0_moveThing_X0_thingsAhead : GoodIn wsX0_moveThing wsX0_thingsAhead := goodIn_r _ [37, 12, 13, 14, 15, 10, 16, 17, 38, 39, 40, 41, 42, 43, 44, 45, 46, 47] (by decide +kernel) (by decide +kernel)
set_option maxRecDepth 20000 in
theorem gX0_moveThing_X0_thingsAhead : GoodIn wsX0_moveThing (wsV RX0 77 RX0 yX0_thingsAhead wsX0_thingsAhead) := goodIn_app (goodIn_of _ (by decide +kernel)) ggX0_moveThing_X0_thingsAhead
theorem dX0_moveThing_0 : decode cX0_moveThing 0 = .ok (.aload_n 0, 1) := by decide +kernel
theorem dX0_moveThing_1 : decode cX0_moveThing 1 = .ok (.iload_n 1, 1) := by decide +kernel
theorem dX0_moveThing_2 : decode cX0_moveThing 2 = .ok (.invokevirtual 72, 3) := by decide +kernel
theorem dX0_moveThing_5 : decode cX0_moveThing 5 = .ok (.istore_n 3, 1) := by decide +kernel
theorem dX0_moveThing_6 : decode cX0_moveThing 6 = .ok (.aload_n 0, 1) := by decide +kernel
theorem dX0_moveThing_7 : decode cX0_moveThing 7 = .ok (.iload_n 3, 1) := by decide +kernel
theorem dX0_moveThing_8 : decode cX0_moveThing 8 = .ok (.invokevirtual 49, 3) := by decide +kernel
theorem dX0_moveThing_11 : decode cX0_moveThing 11 = .ok (.ifCond .eq 14, 3) := by decide +kernel
theorem dX0_moveThing_14 : decode cX0_moveThing 14 = .ok (.iload_n 2, 1) := by decide +kernel
theorem dX0_moveThing_15 : decode cX0_moveThing 15 = .ok (.iconst 1, 1) := by decide +kernel
theorem dX0_moveThing_16 : decode cX0_moveThing 16 = .ok (.sipush 999, 3) := by decide +kernel
theorem dX0_moveThing_19 : decode cX0_moveThing 19 = .ok (.invokestatic 62, 3) := by decide +kernel
theorem dX0_moveThing_22 : decode cX0_moveThing 22 = .ok (.ifCond .ne 6, 3) := by decide +kernel
theorem dX0_moveThing_25 : decode cX0_moveThing 25 = .ok (.ldc 66, 2) := by decide +kernel
theorem dX0_moveThing_27 : decode cX0_moveThing 27 = .ok (.ireturn, 1) := by decide +kernel
theorem dX0_moveThing_28 : decode cX0_moveThing 28 = .ok (.aload_n 0, 1) := by decide +kernel
theorem dX0_moveThing_29 : decode cX0_moveThing 29 = .ok (.iload_n 2, 1) := by decide +kernel
theorem dX0_moveThing_30 : decode cX0_moveThing 30 = .ok (.invokevirtual 72, 3) := by decide +kernel
theorem dX0_moveThing_33 : decode cX0_moveThing 33 = .ok (.ifCond .lt 6, 3) := by decide +kernel
theorem dX0_moveThing_36 : decode cX0_moveThing 36 = .ok (.ldc 76, 2) := by decide +kernel
theorem dX0_moveThing_38 : decode cX0_moveThing 38 = .ok (.ireturn, 1) := by decide +kernel
theorem dX0_moveThing_39 : decode cX0_moveThing 39 = .ok (.aload_n 0, 1) := by decide +kernel
theorem dX0_moveThing_40 : decode cX0_moveThing 40 = .ok (.getfield 25, 3) := by decide +kernel
theorem dX0_moveThing_43 : decode cX0_moveThing 43 = .ok (.iload_n 3, 1) := by decide +kernel
theorem dX0_moveThing_44 : decode cX0_moveThing 44 = .ok (.iaload, 1) := by decide +kernel
theorem dX0_moveThing_45 : decode cX0_moveThing 45 = .ok (.istore 4, 2) := by decide +kernel
theorem dX0_moveThing_47 : decode cX0_moveThing 47 = .ok (.aload_n 0, 1) := by decide +kernel
theorem dX0_moveThing_48 : decode cX0_moveThing 48 = .ok (.getfield 28, 3) := by decide +kernel
theorem dX0_moveThing_51 : decode cX0_moveThing 51 = .ok (.iload_n 3, 1) := by decide +kernel
theorem dX0_moveThing_52 : decode cX0_moveThing 52 = .ok (.iaload, 1) := by decide +kernel
theorem dX0_moveThing_53 : decode cX0_moveThing 53 = .ok (.istore 5, 2) := by decide +kernel
theorem dX0_moveThing_55 : decode cX0_moveThing 55 = .ok (.aload_n 0, 1) := by decide +kernel
theorem dX0_moveThing_56 : decode cX0_moveThing 56 = .ok (.getfield 31, 3) := by decide +kernel
theorem dX0_moveThing_59 : decode cX0_moveThing 59 = .ok (.iload_n 3, 1) := by decide +kernel
theorem dX0_moveThing_60 : decode cX0_moveThing 60 = .ok (.iaload, 1) := by decide +kernel
theorem dX0_moveThing_61 : decode cX0_moveThing 61 = .ok (.istore 6, 2) := by decide +kernel
theorem dX0_moveThing_63 : decode cX0_moveThing 63 = .ok (.aload_n 0, 1) := by decide +kernel
theorem dX0_moveThing_64 : decode cX0_moveThing 64 = .ok (.getfield 34, 3) := by decide +kernel
theorem dX0_moveThing_67 : decode cX0_moveThing 67 = .ok (.iload_n 3, 1) := by decide +kernel
theorem dX0_moveThing_68 : decode cX0_moveThing 68 = .ok (.iaload, 1) := by decide +kernel
theorem dX0_moveThing_69 : decode cX0_moveThing 69 = .ok (.istore 7, 2) := by decide +kernel
theorem dX0_moveThing_71 : decode cX0_moveThing 71 = .ok (.aload_n 0, 1) := by decide +kernel
theorem dX0_moveThing_72 : decode cX0_moveThing 72 = .ok (.iload_n 1, 1) := by decide +kernel
theorem dX0_moveThing_73 : decode cX0_moveThing 73 = .ok (.invokevirtual 84, 3) := by decide +kernel
theorem dX0_moveThing_76 : decode cX0_moveThing 76 = .ok (.pop, 1) := by decide +kernel
theorem dX0_moveThing_77 : decode cX0_moveThing 77 = .ok (.aload_n 0, 1) := by decide +kernel
theorem dX0_moveThing_78 : decode cX0_moveThing 78 = .ok (.iload_n 2, 1) := by decide +kernel
theorem dX0_moveThing_79 : decode cX0_moveThing 79 = .ok (.iload 4, 2) := by decide +kernel
theorem dX0_moveThing_81 : decode cX0_moveThing 81 = .ok (.iload 5, 2) := by decide +kernel
theorem dX0_moveThing_83 : decode cX0_moveThing 83 = .ok (.iload 6, 2) := by decide +kernel
theorem dX0_moveThing_85 : decode cX0_moveThing 85 = .ok (.iload 7, 2) := by decide +kernel
theorem dX0_moveThing_87 : decode cX0_moveThing 87 = .ok (.invokevirtual 68, 3) := by decide +kernel
theorem dX0_moveThing_90 : decode cX0_moveThing 90 = .ok (.pop, 1) := by decide +kernel
theorem dX0_moveThing_91 : decode cX0_moveThing 91 = .ok (.aload_n 0, 1) := by decide +kernel
theorem dX0_moveThing_92 : decode cX0_moveThing 92 = .ok (.iload_n 2, 1) := by decide +kernel
theorem dX0_moveThing_93 : decode cX0_moveThing 93 = .ok (.invokevirtual 77, 3) := by decide +kernel
theorem dX0_moveThing_96 : decode cX0_moveThing 96 = .ok (.ireturn, 1) := by decide +kernel
set_option maxRecDepth 20000 in
theorem ggX0_changeSetting_X6_within : GoodIn wsX0_changeSetting wsX6_within := goodIn_r _ [5] (by decide +kernel) (by decide +kernel)
set_option maxRecDepth 20000 in
theorem gX0_changeSetting_X6_within_n62 : GoodIn wsX0_changeSetting (wsX6_within) := ggX0_changeSetting_X6_within
theorem dX0_changeSetting_0 : decode cX0_changeSetting 0 = .ok (.iload_n 1, 1) := by decide +kernel
theorem dX0_changeSetting_1 : decode cX0_changeSetting 1 = .ok (.ifCond .ne 14, 3) := by decide +kernel
theorem dX0_changeSetting_4 : decode cX0_changeSetting 4 = .ok (.iload_n 2, 1) := by decide +kernel
theorem dX0_changeSetting_5 : decode cX0_changeSetting 5 = .ok (.iconst 1, 1) := by decide +kernel
theorem dX0_changeSetting_6 : decode cX0_changeSetting 6 = .ok (.sipush 500, 3) := by decide +kernel
theorem dX0_changeSetting_9 : decode cX0_changeSetting 9 = .ok (.invokestatic 62, 3) := by decide +kernel
theorem dX0_changeSetting_12 : decode cX0_changeSetting 12 = .ok (.ifCond .ne 6, 3) := by decide +kernel
theorem dX0_changeSetting_15 : decode cX0_changeSetting 15 = .ok (.ldc 66, 2) := by decide +kernel
theorem dX0_changeSetting_17 : decode cX0_changeSetting 17 = .ok (.ireturn, 1) := by decide +kernel
theorem dX0_changeSetting_18 : decode cX0_changeSetting 18 = .ok (.aload_n 0, 1) := by decide +kernel
theorem dX0_changeSetting_19 : decode cX0_changeSetting 19 = .ok (.getfield 40, 3) := by decide +kernel
theorem dX0_changeSetting_22 : decode cX0_changeSetting 22 = .ok (.istore_n 3, 1) := by decide +kernel
theorem dX0_changeSetting_23 : decode cX0_changeSetting 23 = .ok (.aload_n 0, 1) := by decide +kernel
theorem dX0_changeSetting_24 : decode cX0_changeSetting 24 = .ok (.iload_n 2, 1) := by decide +kernel
theorem dX0_changeSetting_25 : decode cX0_changeSetting 25 = .ok (.putfield 40, 3) := by decide +kernel
theorem dX0_changeSetting_28 : decode cX0_changeSetting 28 = .ok (.iload_n 3, 1) := by decide +kernel
theorem dX0_changeSetting_29 : decode cX0_changeSetting 29 = .ok (.ireturn, 1) := by decide +kernel
set_option maxRecDepth 20000 in
theorem ggX0_bendAt_X0_hasThing : GoodIn wsX0_bendAt wsX0_hasThing := goodIn_r _ [9, 10, 19, 20, 21, 22, 23, 24, 25, 26, 27, 28] (by decide +kernel) (by decide +kernel)
set_option maxRecDepth 20000 in
theorem gX0_bendAt_X0_hasThing : GoodIn wsX0_bendAt (wsV RX0 49 RX0 yX0_hasThing wsX0_hasThing) := goodIn_app (goodIn_of _ (by decide +kernel)) ggX0_bendAt_X0_hasThing
set_option maxRecDepth 20000 in
theorem ggX0_bendAt_X6_bendingOf : GoodIn wsX0_bendAt wsX6_bendingOf := goodIn_r _ [13, 14, 15, 16, 17] (by decide +kernel) (by decide +kernel)
set_option maxRecDepth 20000 in
theorem gX0_bendAt_X6_bendingOf_n87 : GoodIn wsX0_bendAt (wsX6_bendingOf) := ggX0_bendAt_X6_bendingOf
set_option maxRecDepth 20000 in
theorem ggX0_bendAt_J9_floorDiv_7cf53 : GoodIn wsX0_bendAt wsJ9_floorDiv_7cf53 := goodIn_r _ [17] (by decide +kernel) (by decide +kernel)
set_option maxRecDepth 20000 in
theorem gX0_bendAt_J9_floorDiv_7cf53 : GoodIn wsX0_bendAt (va_wsS RX0 53 yJ9_floorDiv_7cf53 wsJ9_floorDiv_7cf53) := goodIn_app (goodIn_of _ (by decide +kernel)) ggX0_bendAt_J9_floorDiv_7cf53
theorem dX0_bendAt_0 : decode cX0_bendAt 0 = .ok (.aload_n 0, 1) := by decide +kernel
theorem dX0_bendAt_1 : decode cX0_bendAt 1 = .ok (.iload_n 1, 1) := by decide +kernel
theorem dX0_bendAt_2 : decode cX0_bendAt 2 = .ok (.invokevirtual 49, 3) := by decide +kernel
theorem dX0_bendAt_5 : decode cX0_bendAt 5 = .ok (.ifCond .eq 12, 3) := by decide +kernel
theorem dX0_bendAt_8 : decode cX0_bendAt 8 = .ok (.aload_n 0, 1) := by decide +kernel
theorem dX0_bendAt_9 : decode cX0_bendAt 9 = .ok (.getfield 25, 3) := by decide +kernel
theorem dX0_bendAt_12 : decode cX0_bendAt 12 = .ok (.iload_n 1, 1) := by decide +kernel
theorem dX0_bendAt_13 : decode cX0_bendAt 13 = .ok (.iaload, 1) := by decide +kernel
theorem dX0_bendAt_14 : decode cX0_bendAt 14 = .ok (.ifCond .eq 5, 3) := by decide +kernel
theorem dX0_bendAt_17 : decode cX0_bendAt 17 = .ok (.iconst 0, 1) := by decide +kernel
theorem dX0_bendAt_18 : decode cX0_bendAt 18 = .ok (.ireturn, 1) := by decide +kernel
theorem dX0_bendAt_19 : decode cX0_bendAt 19 = .ok (.aload_n 0, 1) := by decide +kernel
theorem dX0_bendAt_20 : decode cX0_bendAt 20 = .ok (.getfield 31, 3) := by decide +kernel
theorem dX0_bendAt_23 : decode cX0_bendAt 23 = .ok (.iload_n 1, 1) := by decide +kernel
theorem dX0_bendAt_24 : decode cX0_bendAt 24 = .ok (.iaload, 1) := by decide +kernel
theorem dX0_bendAt_25 : decode cX0_bendAt 25 = .ok (.aload_n 0, 1) := by decide +kernel
theorem dX0_bendAt_26 : decode cX0_bendAt 26 = .ok (.getfield 28, 3) := by decide +kernel
theorem dX0_bendAt_29 : decode cX0_bendAt 29 = .ok (.iload_n 1, 1) := by decide +kernel
theorem dX0_bendAt_30 : decode cX0_bendAt 30 = .ok (.iaload, 1) := by decide +kernel
theorem dX0_bendAt_31 : decode cX0_bendAt 31 = .ok (.iload_n 2, 1) := by decide +kernel
theorem dX0_bendAt_32 : decode cX0_bendAt 32 = .ok (.invokestatic 87, 3) := by decide +kernel
theorem dX0_bendAt_35 : decode cX0_bendAt 35 = .ok (.imul, 1) := by decide +kernel
theorem dX0_bendAt_36 : decode cX0_bendAt 36 = .ok (.bipush 100, 2) := by decide +kernel
theorem dX0_bendAt_38 : decode cX0_bendAt 38 = .ok (.invokestatic 53, 3) := by decide +kernel
theorem dX0_bendAt_41 : decode cX0_bendAt 41 = .ok (.istore_n 3, 1) := by decide +kernel
theorem dX0_bendAt_42 : decode cX0_bendAt 42 = .ok (.aload_n 0, 1) := by decide +kernel
theorem dX0_bendAt_43 : decode cX0_bendAt 43 = .ok (.getfield 34, 3) := by decide +kernel
theorem dX0_bendAt_46 : decode cX0_bendAt 46 = .ok (.iload_n 1, 1) := by decide +kernel
theorem dX0_bendAt_47 : decode cX0_bendAt 47 = .ok (.iaload, 1) := by decide +kernel
theorem dX0_bendAt_48 : decode cX0_bendAt 48 = .ok (.iconst 1, 1) := by decide +kernel
theorem dX0_bendAt_49 : decode cX0_bendAt 49 = .ok (.if_icmp .ne 7, 3) := by decide +kernel
theorem dX0_bendAt_52 : decode cX0_bendAt 52 = .ok (.iload_n 3, 1) := by decide +kernel
theorem dX0_bendAt_53 : decode cX0_bendAt 53 = .ok (.goto 5, 3) := by decide +kernel
theorem dX0_bendAt_56 : decode cX0_bendAt 56 = .ok (.iload_n 3, 1) := by decide +kernel
theorem dX0_bendAt_57 : decode cX0_bendAt 57 = .ok (.ineg, 1) := by decide +kernel
theorem dX0_bendAt_58 : decode cX0_bendAt 58 = .ok (.ireturn, 1) := by decide +kernel
set_option maxRecDepth 20000 in
theorem ggX0_whyLostAt_X0_isBeyond : GoodIn wsX0_whyLostAt wsX0_isBeyond := goodIn_r _ [7, 8, 9, 10] (by decide +kernel) (by decide +kernel)
set_option maxRecDepth 20000 in
theorem gX0_whyLostAt_X0_isBeyond : GoodIn wsX0_whyLostAt (va_wsS RX0 90 yX0_isBeyond wsX0_isBeyond) := goodIn_app (goodIn_of _ (by decide +kernel)) ggX0_whyLostAt_X0_isBeyond
set_option maxRecDepth 20000 in
theorem ggX0_whyLostAt_X0_hasThing : GoodIn wsX0_whyLostAt wsX0_hasThing := goodIn_r _ [14, 15, 16, 17, 18, 19, 20, 21, 22, 23, 24, 25] (by decide +kernel) (by decide +kernel)
set_option maxRecDepth 20000 in
theorem gX0_whyLostAt_X0_hasThing : GoodIn wsX0_whyLostAt (wsV RX0 49 RX0 yX0_hasThing wsX0_hasThing) := goodIn_app (goodIn_of _ (by decide +kernel)) ggX0_whyLostAt_X0_hasThing
set_option maxRecDepth 20000 in
theorem ggX0_whyLostAt_X6_within : GoodIn wsX0_whyLostAt wsX6_within := goodIn_r _ [10] (by decide +kernel) (by decide +kernel)
set_option maxRecDepth 20000 in
theorem gX0_whyLostAt_X6_within_n62 : GoodIn wsX0_whyLostAt (wsX6_within) := ggX0_whyLostAt_X6_within
theorem dX0_whyLostAt_0 : decode cX0_whyLostAt 0 = .ok (.iload_n 2, 1) := by decide +kernel
theorem dX0_whyLostAt_1 : decode cX0_whyLostAt 1 = .ok (.invokestatic 90, 3) := by decide +kernel
theorem dX0_whyLostAt_4 : decode cX0_whyLostAt 4 = .ok (.ifCond .eq 5, 3) := by decide +kernel
theorem dX0_whyLostAt_7 : decode cX0_whyLostAt 7 = .ok (.iconst 2, 1) := by decide +kernel
theorem dX0_whyLostAt_8 : decode cX0_whyLostAt 8 = .ok (.ireturn, 1) := by decide +kernel
theorem dX0_whyLostAt_9 : decode cX0_whyLostAt 9 = .ok (.aload_n 0, 1) := by decide +kernel
theorem dX0_whyLostAt_10 : decode cX0_whyLostAt 10 = .ok (.iload_n 1, 1) := by decide +kernel
theorem dX0_whyLostAt_11 : decode cX0_whyLostAt 11 = .ok (.invokevirtual 49, 3) := by decide +kernel
theorem dX0_whyLostAt_14 : decode cX0_whyLostAt 14 = .ok (.ifCond .eq 17, 3) := by decide +kernel
theorem dX0_whyLostAt_17 : decode cX0_whyLostAt 17 = .ok (.aload_n 0, 1) := by decide +kernel
theorem dX0_whyLostAt_18 : decode cX0_whyLostAt 18 = .ok (.getfield 25, 3) := by decide +kernel
theorem dX0_whyLostAt_21 : decode cX0_whyLostAt 21 = .ok (.iload_n 1, 1) := by decide +kernel
theorem dX0_whyLostAt_22 : decode cX0_whyLostAt 22 = .ok (.iaload, 1) := by decide +kernel
theorem dX0_whyLostAt_23 : decode cX0_whyLostAt 23 = .ok (.iconst 1, 1) := by decide +kernel
theorem dX0_whyLostAt_24 : decode cX0_whyLostAt 24 = .ok (.if_icmp .ne 7, 3) := by decide +kernel
theorem dX0_whyLostAt_27 : decode cX0_whyLostAt 27 = .ok (.iconst 1, 1) := by decide +kernel
theorem dX0_whyLostAt_28 : decode cX0_whyLostAt 28 = .ok (.goto 4, 3) := by decide +kernel
theorem dX0_whyLostAt_31 : decode cX0_whyLostAt 31 = .ok (.iconst 0, 1) := by decide +kernel
theorem dX0_whyLostAt_32 : decode cX0_whyLostAt 32 = .ok (.istore_n 3, 1) := by decide +kernel
theorem dX0_whyLostAt_33 : decode cX0_whyLostAt 33 = .ok (.iload_n 3, 1) := by decide +kernel
theorem dX0_whyLostAt_34 : decode cX0_whyLostAt 34 = .ok (.ifCond .eq 26, 3) := by decide +kernel
theorem dX0_whyLostAt_37 : decode cX0_whyLostAt 37 = .ok (.iload_n 2, 1) := by decide +kernel
theorem dX0_whyLostAt_38 : decode cX0_whyLostAt 38 = .ok (.aload_n 0, 1) := by decide +kernel
theorem dX0_whyLostAt_39 : decode cX0_whyLostAt 39 = .ok (.getfield 28, 3) := by decide +kernel
theorem dX0_whyLostAt_42 : decode cX0_whyLostAt 42 = .ok (.iload_n 1, 1) := by decide +kernel
theorem dX0_whyLostAt_43 : decode cX0_whyLostAt 43 = .ok (.iaload, 1) := by decide +kernel
theorem dX0_whyLostAt_44 : decode cX0_whyLostAt 44 = .ok (.aload_n 0, 1) := by decide +kernel
theorem dX0_whyLostAt_45 : decode cX0_whyLostAt 45 = .ok (.getfield 31, 3) := by decide +kernel
theorem dX0_whyLostAt_48 : decode cX0_whyLostAt 48 = .ok (.iload_n 1, 1) := by decide +kernel
theorem dX0_whyLostAt_49 : decode cX0_whyLostAt 49 = .ok (.iaload, 1) := by decide +kernel
theorem dX0_whyLostAt_50 : decode cX0_whyLostAt 50 = .ok (.invokestatic 62, 3) := by decide +kernel
theorem dX0_whyLostAt_53 : decode cX0_whyLostAt 53 = .ok (.ifCond .ne 7, 3) := by decide +kernel
theorem dX0_whyLostAt_56 : decode cX0_whyLostAt 56 = .ok (.iconst 1, 1) := by decide +kernel
theorem dX0_whyLostAt_57 : decode cX0_whyLostAt 57 = .ok (.goto 4, 3) := by decide +kernel
theorem dX0_whyLostAt_60 : decode cX0_whyLostAt 60 = .ok (.iconst 0, 1) := by decide +kernel
theorem dX0_whyLostAt_61 : decode cX0_whyLostAt 61 = .ok (.ireturn, 1) := by decide +kernel
set_option maxRecDepth 20000 in
theorem ggX0_isBeyond_X6_within : GoodIn wsX0_isBeyond wsX6_within := goodIn_r _ [3] (by decide +kernel) (by decide +kernel)
set_option maxRecDepth 20000 in
theorem gX0_isBeyond_X6_within_n62 : GoodIn wsX0_isBeyond (wsX6_within) := ggX0_isBeyond_X6_within
theorem dX0_isBeyond_0 : decode cX0_isBeyond 0 = .ok (.iload_n 0, 1) := by decide +kernel
theorem dX0_isBeyond_1 : decode cX0_isBeyond 1 = .ok (.sipush (-999), 3) := by decide +kernel
theorem dX0_isBeyond_4 : decode cX0_isBeyond 4 = .ok (.sipush 999, 3) := by decide +kernel
theorem dX0_isBeyond_7 : decode cX0_isBeyond 7 = .ok (.invokestatic 62, 3) := by decide +kernel
theorem dX0_isBeyond_10 : decode cX0_isBeyond 10 = .ok (.ifCond .ne 7, 3) := by decide +kernel
theorem dX0_isBeyond_13 : decode cX0_isBeyond 13 = .ok (.iconst 1, 1) := by decide +kernel
theorem dX0_isBeyond_14 : decode cX0_isBeyond 14 = .ok (.goto 4, 3) := by decide +kernel
theorem dX0_isBeyond_17 : decode cX0_isBeyond 17 = .ok (.iconst 0, 1) := by decide +kernel
theorem dX0_isBeyond_18 : decode cX0_isBeyond 18 = .ok (.ireturn, 1) := by decide +kernel
theorem dX1_init_0 : decode cX1_init 0 = .ok (.aload_n 0, 1) := by decide +kernel
theorem dX1_init_1 : decode cX1_init 1 = .ok (.invokespecial 3, 3) := by decide +kernel
theorem dX1_init_4 : decode cX1_init 4 = .ok (.aload_n 0, 1) := by decide +kernel
theorem dX1_init_5 : decode cX1_init 5 = .ok (.bipush 8, 2) := by decide +kernel
theorem dX1_init_7 : decode cX1_init 7 = .ok (.newarray .int, 2) := by decide +kernel
theorem dX1_init_9 : decode cX1_init 9 = .ok (.putfield 9, 3) := by decide +kernel
theorem dX1_init_12 : decode cX1_init 12 = .ok (.aload_n 0, 1) := by decide +kernel
theorem dX1_init_13 : decode cX1_init 13 = .ok (.bipush 8, 2) := by decide +kernel
theorem dX1_init_15 : decode cX1_init 15 = .ok (.newarray .int, 2) := by decide +kernel
theorem dX1_init_17 : decode cX1_init 17 = .ok (.putfield 15, 3) := by decide +kernel
theorem dX1_init_20 : decode cX1_init 20 = .ok (.aload_n 0, 1) := by decide +kernel
theorem dX1_init_21 : decode cX1_init 21 = .ok (.bipush 8, 2) := by decide +kernel
theorem dX1_init_23 : decode cX1_init 23 = .ok (.newarray .int, 2) := by decide +kernel
theorem dX1_init_25 : decode cX1_init 25 = .ok (.putfield 18, 3) := by decide +kernel
theorem dX1_init_28 : decode cX1_init 28 = .ok (.aload_n 0, 1) := by decide +kernel
theorem dX1_init_29 : decode cX1_init 29 = .ok (.iconst 0, 1) := by decide +kernel
theorem dX1_init_30 : decode cX1_init 30 = .ok (.putfield 21, 3) := by decide +kernel
theorem dX1_init_33 : decode cX1_init 33 = .ok (.return_, 1) := by decide +kernel
set_option maxRecDepth 20000 in
theorem ggX1_gather_X0_hasLine : GoodIn wsX1_gather wsX0_hasLine := goodIn_r _ [8, 9, 50, 51, 52, 53, 54, 55, 56, 57, 58, 59] (by decide +kernel) (by decide +kernel)
set_option maxRecDepth 20000 in
theorem gX1_gather_X0_hasLine : GoodIn wsX1_gather (wsV RX1 25 RX0 yX0_hasLine wsX0_hasLine) := goodIn_app (goodIn_of _ (by decide +kernel)) ggX1_gather_X0_hasLine
set_option maxRecDepth 20000 in
theorem ggX1_gather_X4_comes : GoodIn wsX1_gather wsX4_comes := goodIn_r _ [14, 15, 45, 46, 47, 48, 49] (by decide +kernel) (by decide +kernel)
set_option maxRecDepth 20000 in
theorem gX1_gather_X4_comes : GoodIn wsX1_gather (wsV RX1 31 RX4 yX4_comes wsX4_comes) := goodIn_app (goodIn_of _ (by decide +kernel)) ggX1_gather_X4_comes
set_option maxRecDepth 20000 in
theorem ggX1_gather_X0_cellOf : GoodIn wsX1_gather wsX0_cellOf := goodIn_r _ [19, 20, 21, 22, 23, 24, 50, 51, 52, 53, 54, 55, 56, 57, 58, 59] (by decide +kernel) (by decide +kernel)
set_option maxRecDepth 20000 in
theorem gX1_gather_X0_cellOf : GoodIn wsX1_gather (wsV RX1 39 RX0 yX0_cellOf wsX0_cellOf) := goodIn_app (goodIn_of _ (by decide +kernel)) ggX1_gather_X0_cellOf
set_option maxRecDepth 20000 in
theorem ggX1_gather_X1_addTo : GoodIn wsX1_gather wsX1_addTo := goodIn_r _ [29, 1, 30, 31, 32, 33, 34, 35, 28, 36, 37, 38, 39, 40, 41, 42, 43, 44] (by decide +kernel) (by decide +kernel)
set_option maxRecDepth 20000 in
theorem gX1_gather_X1_addTo : GoodIn wsX1_gather (wsV RX1 44 RX1 yX1_addTo wsX1_addTo) := goodIn_app (goodIn_of _ (by decide +kernel)) ggX1_gather_X1_addTo
theorem dX1_gather_0 : decode cX1_gather 0 = .ok (.aload_n 0, 1) := by decide +kernel
theorem dX1_gather_1 : decode cX1_gather 1 = .ok (.iconst 0, 1) := by decide +kernel
theorem dX1_gather_2 : decode cX1_gather 2 = .ok (.putfield 21, 3) := by decide +kernel
theorem dX1_gather_5 : decode cX1_gather 5 = .ok (.iconst 0, 1) := by decide +kernel
theorem dX1_gather_6 : decode cX1_gather 6 = .ok (.istore_n 3, 1) := by decide +kernel
theorem dX1_gather_7 : decode cX1_gather 7 = .ok (.iload_n 3, 1) := by decide +kernel
theorem dX1_gather_8 : decode cX1_gather 8 = .ok (.bipush 8, 2) := by decide +kernel
theorem dX1_gather_10 : decode cX1_gather 10 = .ok (.if_icmp .ge 48, 3) := by decide +kernel
theorem dX1_gather_13 : decode cX1_gather 13 = .ok (.aload_n 1, 1) := by decide +kernel
theorem dX1_gather_14 : decode cX1_gather 14 = .ok (.iload_n 3, 1) := by decide +kernel
theorem dX1_gather_15 : decode cX1_gather 15 = .ok (.invokevirtual 25, 3) := by decide +kernel
theorem dX1_gather_18 : decode cX1_gather 18 = .ok (.ifCond .eq 40, 3) := by decide +kernel
theorem dX1_gather_21 : decode cX1_gather 21 = .ok (.aload_n 2, 1) := by decide +kernel
theorem dX1_gather_22 : decode cX1_gather 22 = .ok (.iload_n 3, 1) := by decide +kernel
theorem dX1_gather_23 : decode cX1_gather 23 = .ok (.invokevirtual 31, 3) := by decide +kernel
theorem dX1_gather_26 : decode cX1_gather 26 = .ok (.ifCond .eq 26, 3) := by decide +kernel
theorem dX1_gather_29 : decode cX1_gather 29 = .ok (.aload_n 0, 1) := by decide +kernel
theorem dX1_gather_30 : decode cX1_gather 30 = .ok (.aload_n 1, 1) := by decide +kernel
theorem dX1_gather_31 : decode cX1_gather 31 = .ok (.aload_n 2, 1) := by decide +kernel
theorem dX1_gather_32 : decode cX1_gather 32 = .ok (.getfield 36, 3) := by decide +kernel
theorem dX1_gather_35 : decode cX1_gather 35 = .ok (.iload_n 3, 1) := by decide +kernel
theorem dX1_gather_36 : decode cX1_gather 36 = .ok (.iaload, 1) := by decide +kernel
theorem dX1_gather_37 : decode cX1_gather 37 = .ok (.invokevirtual 39, 3) := by decide +kernel
theorem dX1_gather_40 : decode cX1_gather 40 = .ok (.aload_n 1, 1) := by decide +kernel
theorem dX1_gather_41 : decode cX1_gather 41 = .ok (.getfield 43, 3) := by decide +kernel
theorem dX1_gather_44 : decode cX1_gather 44 = .ok (.iload_n 3, 1) := by decide +kernel
theorem dX1_gather_45 : decode cX1_gather 45 = .ok (.iaload, 1) := by decide +kernel
theorem dX1_gather_46 : decode cX1_gather 46 = .ok (.iconst 1, 1) := by decide +kernel
theorem dX1_gather_47 : decode cX1_gather 47 = .ok (.iload_n 3, 1) := by decide +kernel
theorem dX1_gather_48 : decode cX1_gather 48 = .ok (.ishl, 1) := by decide +kernel
theorem dX1_gather_49 : decode cX1_gather 49 = .ok (.invokevirtual 44, 3) := by decide +kernel
theorem dX1_gather_52 : decode cX1_gather 52 = .ok (.iinc 3 1, 3) := by decide +kernel
theorem dX1_gather_55 : decode cX1_gather 55 = .ok (.goto (-48), 3) := by decide +kernel
theorem dX1_gather_58 : decode cX1_gather 58 = .ok (.return_, 1) := by decide +kernel
set_option maxRecDepth 20000 in
theorem ggX1_addTo_X1_slotOf : GoodIn wsX1_addTo wsX1_slotOf := goodIn_r _ [9, 2, 10, 11, 12, 8, 13, 1, 14, 15, 16, 17] (by decide +kernel) (by decide +kernel)
set_option maxRecDepth 20000 in
theorem gX1_addTo_X1_slotOf : GoodIn wsX1_addTo (wsV RX1 48 RX1 yX1_slotOf wsX1_slotOf) := goodIn_app (goodIn_of _ (by decide +kernel)) ggX1_addTo_X1_slotOf
theorem dX1_addTo_0 : decode cX1_addTo 0 = .ok (.aload_n 0, 1) := by decide +kernel
theorem dX1_addTo_1 : decode cX1_addTo 1 = .ok (.iload_n 1, 1) := by decide +kernel
theorem dX1_addTo_2 : decode cX1_addTo 2 = .ok (.invokevirtual 48, 3) := by decide +kernel
theorem dX1_addTo_5 : decode cX1_addTo 5 = .ok (.istore 4, 2) := by decide +kernel
theorem dX1_addTo_7 : decode cX1_addTo 7 = .ok (.iload 4, 2) := by decide +kernel
theorem dX1_addTo_9 : decode cX1_addTo 9 = .ok (.ifCond .lt 10, 3) := by decide +kernel
theorem dX1_addTo_12 : decode cX1_addTo 12 = .ok (.iload 4, 2) := by decide +kernel
theorem dX1_addTo_14 : decode cX1_addTo 14 = .ok (.bipush 8, 2) := by decide +kernel
theorem dX1_addTo_16 : decode cX1_addTo 16 = .ok (.if_icmp .lt 4, 3) := by decide +kernel
theorem dX1_addTo_19 : decode cX1_addTo 19 = .ok (.return_, 1) := by decide +kernel
theorem dX1_addTo_20 : decode cX1_addTo 20 = .ok (.iload 4, 2) := by decide +kernel
theorem dX1_addTo_22 : decode cX1_addTo 22 = .ok (.aload_n 0, 1) := by decide +kernel
theorem dX1_addTo_23 : decode cX1_addTo 23 = .ok (.getfield 21, 3) := by decide +kernel
theorem dX1_addTo_26 : decode cX1_addTo 26 = .ok (.if_icmp .ne 37, 3) := by decide +kernel
theorem dX1_addTo_29 : decode cX1_addTo 29 = .ok (.aload_n 0, 1) := by decide +kernel
theorem dX1_addTo_30 : decode cX1_addTo 30 = .ok (.getfield 9, 3) := by decide +kernel
theorem dX1_addTo_33 : decode cX1_addTo 33 = .ok (.iload 4, 2) := by decide +kernel
theorem dX1_addTo_35 : decode cX1_addTo 35 = .ok (.iload_n 1, 1) := by decide +kernel
theorem dX1_addTo_36 : decode cX1_addTo 36 = .ok (.iastore, 1) := by decide +kernel
theorem dX1_addTo_37 : decode cX1_addTo 37 = .ok (.aload_n 0, 1) := by decide +kernel
theorem dX1_addTo_38 : decode cX1_addTo 38 = .ok (.getfield 15, 3) := by decide +kernel
theorem dX1_addTo_41 : decode cX1_addTo 41 = .ok (.iload 4, 2) := by decide +kernel
theorem dX1_addTo_43 : decode cX1_addTo 43 = .ok (.iconst 0, 1) := by decide +kernel
theorem dX1_addTo_44 : decode cX1_addTo 44 = .ok (.iastore, 1) := by decide +kernel
theorem dX1_addTo_45 : decode cX1_addTo 45 = .ok (.aload_n 0, 1) := by decide +kernel
theorem dX1_addTo_46 : decode cX1_addTo 46 = .ok (.getfield 18, 3) := by decide +kernel
theorem dX1_addTo_49 : decode cX1_addTo 49 = .ok (.iload 4, 2) := by decide +kernel
theorem dX1_addTo_51 : decode cX1_addTo 51 = .ok (.iconst 0, 1) := by decide +kernel
theorem dX1_addTo_52 : decode cX1_addTo 52 = .ok (.iastore, 1) := by decide +kernel
theorem dX1_addTo_53 : decode cX1_addTo 53 = .ok (.aload_n 0, 1) := by decide +kernel
theorem dX1_addTo_54 : decode cX1_addTo 54 = .ok (.dup, 1) := by decide +kernel
theorem dX1_addTo_55 : decode cX1_addTo 55 = .ok (.getfield 21, 3) := by decide +kernel
theorem dX1_addTo_58 : decode cX1_addTo 58 = .ok (.iconst 1, 1) := by decide +kernel
theorem dX1_addTo_59 : decode cX1_addTo 59 = .ok (.iadd, 1) := by decide +kernel
theorem dX1_addTo_60 : decode cX1_addTo 60 = .ok (.putfield 21, 3) := by decide +kernel
theorem dX1_addTo_63 : decode cX1_addTo 63 = .ok (.aload_n 0, 1) := by decide +kernel
theorem dX1_addTo_64 : decode cX1_addTo 64 = .ok (.getfield 15, 3) := by decide +kernel
theorem dX1_addTo_67 : decode cX1_addTo 67 = .ok (.iload 4, 2) := by decide +kernel
theorem dX1_addTo_69 : decode cX1_addTo 69 = .ok (.dup2, 1) := by decide +kernel
theorem dX1_addTo_70 : decode cX1_addTo 70 = .ok (.iaload, 1) := by decide +kernel
theorem dX1_addTo_71 : decode cX1_addTo 71 = .ok (.iload_n 2, 1) := by decide +kernel
theorem dX1_addTo_72 : decode cX1_addTo 72 = .ok (.iadd, 1) := by decide +kernel
theorem dX1_addTo_73 : decode cX1_addTo 73 = .ok (.iastore, 1) := by decide +kernel
theorem dX1_addTo_74 : decode cX1_addTo 74 = .ok (.aload_n 0, 1) := by decide +kernel
theorem dX1_addTo_75 : decode cX1_addTo 75 = .ok (.getfield 18, 3) := by decide +kernel
theorem dX1_addTo_78 : decode cX1_addTo 78 = .ok (.iload 4, 2) := by decide +kernel
theorem dX1_addTo_80 : decode cX1_addTo 80 = .ok (.dup2, 1) := by decide +kernel
theorem dX1_addTo_81 : decode cX1_addTo 81 = .ok (.iaload, 1) := by decide +kernel
theorem dX1_addTo_82 : decode cX1_addTo 82 = .ok (.iload_n 3, 1) := by decide +kernel
theorem dX1_addTo_83 : decode cX1_addTo 83 = .ok (.ior, 1) := by decide +kernel
theorem dX1_addTo_84 : decode cX1_addTo 84 = .ok (.iastore, 1) := by decide +kernel
theorem dX1_addTo_85 : decode cX1_addTo 85 = .ok (.return_, 1) := by decide +kernel
set_option maxRecDepth 20000 in
theorem ggX1_slotOf_X1_hasSlot : GoodIn wsX1_slotOf wsX1_hasSlot := goodIn_r _ [6, 7, 8, 9, 10, 11] (by decide +kernel) (by decide +kernel)
set_option maxRecDepth 20000 in
theorem gX1_slotOf_X1_hasSlot : GoodIn wsX1_slotOf (wsV RX1 51 RX1 yX1_hasSlot wsX1_hasSlot) := goodIn_app (goodIn_of _ (by decide +kernel)) ggX1_slotOf_X1_hasSlot
theorem dX1_slotOf_0 : decode cX1_slotOf 0 = .ok (.iconst 0, 1) := by decide +kernel
theorem dX1_slotOf_1 : decode cX1_slotOf 1 = .ok (.istore_n 2, 1) := by decide +kernel
theorem dX1_slotOf_2 : decode cX1_slotOf 2 = .ok (.iload_n 2, 1) := by decide +kernel
theorem dX1_slotOf_3 : decode cX1_slotOf 3 = .ok (.bipush 8, 2) := by decide +kernel
theorem dX1_slotOf_5 : decode cX1_slotOf 5 = .ok (.if_icmp .ge 27, 3) := by decide +kernel
theorem dX1_slotOf_8 : decode cX1_slotOf 8 = .ok (.aload_n 0, 1) := by decide +kernel
theorem dX1_slotOf_9 : decode cX1_slotOf 9 = .ok (.iload_n 2, 1) := by decide +kernel
theorem dX1_slotOf_10 : decode cX1_slotOf 10 = .ok (.invokevirtual 51, 3) := by decide +kernel
theorem dX1_slotOf_13 : decode cX1_slotOf 13 = .ok (.ifCond .eq 19, 3) := by decide +kernel
theorem dX1_slotOf_16 : decode cX1_slotOf 16 = .ok (.aload_n 0, 1) := by decide +kernel
theorem dX1_slotOf_17 : decode cX1_slotOf 17 = .ok (.getfield 9, 3) := by decide +kernel
theorem dX1_slotOf_20 : decode cX1_slotOf 20 = .ok (.iload_n 2, 1) := by decide +kernel
theorem dX1_slotOf_21 : decode cX1_slotOf 21 = .ok (.iaload, 1) := by decide +kernel
theorem dX1_slotOf_22 : decode cX1_slotOf 22 = .ok (.iload_n 1, 1) := by decide +kernel
theorem dX1_slotOf_23 : decode cX1_slotOf 23 = .ok (.if_icmp .eq 9, 3) := by decide +kernel
theorem dX1_slotOf_26 : decode cX1_slotOf 26 = .ok (.iinc 2 1, 3) := by decide +kernel
theorem dX1_slotOf_29 : decode cX1_slotOf 29 = .ok (.goto (-27), 3) := by decide +kernel
theorem dX1_slotOf_32 : decode cX1_slotOf 32 = .ok (.iload_n 2, 1) := by decide +kernel
theorem dX1_slotOf_33 : decode cX1_slotOf 33 = .ok (.ireturn, 1) := by decide +kernel
theorem dX1_hasSlot_0 : decode cX1_hasSlot 0 = .ok (.iload_n 1, 1) := by decide +kernel
theorem dX1_hasSlot_1 : decode cX1_hasSlot 1 = .ok (.ifCond .lt 21, 3) := by decide +kernel
theorem dX1_hasSlot_4 : decode cX1_hasSlot 4 = .ok (.iload_n 1, 1) := by decide +kernel
theorem dX1_hasSlot_5 : decode cX1_hasSlot 5 = .ok (.aload_n 0, 1) := by decide +kernel
theorem dX1_hasSlot_6 : decode cX1_hasSlot 6 = .ok (.getfield 21, 3) := by decide +kernel
theorem dX1_hasSlot_9 : decode cX1_hasSlot 9 = .ok (.if_icmp .ge 13, 3) := by decide +kernel
theorem dX1_hasSlot_12 : decode cX1_hasSlot 12 = .ok (.iload_n 1, 1) := by decide +kernel
theorem dX1_hasSlot_13 : decode cX1_hasSlot 13 = .ok (.bipush 8, 2) := by decide +kernel
theorem dX1_hasSlot_15 : decode cX1_hasSlot 15 = .ok (.if_icmp .ge 7, 3) := by decide +kernel
theorem dX1_hasSlot_18 : decode cX1_hasSlot 18 = .ok (.iconst 1, 1) := by decide +kernel
theorem dX1_hasSlot_19 : decode cX1_hasSlot 19 = .ok (.goto 4, 3) := by decide +kernel
theorem dX1_hasSlot_22 : decode cX1_hasSlot 22 = .ok (.iconst 0, 1) := by decide +kernel
theorem dX1_hasSlot_23 : decode cX1_hasSlot 23 = .ok (.ireturn, 1) := by decide +kernel
set_option maxRecDepth 20000 in
theorem ggX1_lightOf_X1_slotOf : GoodIn wsX1_lightOf wsX1_slotOf := goodIn_r _ [6, 7, 8, 9, 10, 5, 11, 12, 13, 14, 15, 16] (by decide +kernel) (by decide +kernel)
set_option maxRecDepth 20000 in
theorem gX1_lightOf_X1_slotOf : GoodIn wsX1_lightOf (wsV RX1 48 RX1 yX1_slotOf wsX1_slotOf) := goodIn_app (goodIn_of _ (by decide +kernel)) ggX1_lightOf_X1_slotOf
set_option maxRecDepth 20000 in
theorem ggX1_lightOf_X1_hasSlot : GoodIn wsX1_lightOf wsX1_hasSlot := goodIn_r _ [11, 12, 13, 14, 15, 16] (by decide +kernel) (by decide +kernel)
set_option maxRecDepth 20000 in
theorem gX1_lightOf_X1_hasSlot : GoodIn wsX1_lightOf (wsV RX1 51 RX1 yX1_hasSlot wsX1_hasSlot) := goodIn_app (goodIn_of _ (by decide +kernel)) ggX1_lightOf_X1_hasSlot
theorem dX1_lightOf_0 : decode cX1_lightOf 0 = .ok (.aload_n 0, 1) := by decide +kernel
theorem dX1_lightOf_1 : decode cX1_lightOf 1 = .ok (.iload_n 1, 1) := by decide +kernel
theorem dX1_lightOf_2 : decode cX1_lightOf 2 = .ok (.invokevirtual 48, 3) := by decide +kernel
theorem dX1_lightOf_5 : decode cX1_lightOf 5 = .ok (.istore_n 2, 1) := by decide +kernel
theorem dX1_lightOf_6 : decode cX1_lightOf 6 = .ok (.aload_n 0, 1) := by decide +kernel
theorem dX1_lightOf_7 : decode cX1_lightOf 7 = .ok (.iload_n 2, 1) := by decide +kernel
theorem dX1_lightOf_8 : decode cX1_lightOf 8 = .ok (.invokevirtual 51, 3) := by decide +kernel
theorem dX1_lightOf_11 : decode cX1_lightOf 11 = .ok (.ifCond .eq 12, 3) := by decide +kernel
theorem dX1_lightOf_14 : decode cX1_lightOf 14 = .ok (.aload_n 0, 1) := by decide +kernel
theorem dX1_lightOf_15 : decode cX1_lightOf 15 = .ok (.getfield 15, 3) := by decide +kernel
theorem dX1_lightOf_18 : decode cX1_lightOf 18 = .ok (.iload_n 2, 1) := by decide +kernel
theorem dX1_lightOf_19 : decode cX1_lightOf 19 = .ok (.iaload, 1) := by decide +kernel
theorem dX1_lightOf_20 : decode cX1_lightOf 20 = .ok (.goto 4, 3) := by decide +kernel
theorem dX1_lightOf_23 : decode cX1_lightOf 23 = .ok (.iconst 0, 1) := by decide +kernel
theorem dX1_lightOf_24 : decode cX1_lightOf 24 = .ok (.ireturn, 1) := by decide +kernel
set_option maxRecDepth 20000 in
theorem ggX1_slotOfRank_X1_hasSlot : GoodIn wsX1_slotOfRank wsX1_hasSlot := goodIn_r _ [5, 6, 13, 14, 15, 16] (by decide +kernel) (by decide +kernel)
set_option maxRecDepth 20000 in
theorem gX1_slotOfRank_X1_hasSlot : GoodIn wsX1_slotOfRank (wsV RX1 51 RX1 yX1_hasSlot wsX1_hasSlot) := goodIn_app (goodIn_of _ (by decide +kernel)) ggX1_slotOfRank_X1_hasSlot
set_option maxRecDepth 20000 in
theorem ggX1_slotOfRank_X1_rankOf : GoodIn wsX1_slotOfRank wsX1_rankOf := goodIn_r _ [10, 11, 12, 1, 2, 3, 4, 5, 6, 13, 14, 15, 16] (by decide +kernel) (by decide +kernel)
set_option maxRecDepth 20000 in
theorem gX1_slotOfRank_X1_rankOf : GoodIn wsX1_slotOfRank (wsV RX1 54 RX1 yX1_rankOf wsX1_rankOf) := goodIn_app (goodIn_of _ (by decide +kernel)) ggX1_slotOfRank_X1_rankOf
theorem dX1_slotOfRank_0 : decode cX1_slotOfRank 0 = .ok (.iconst 0, 1) := by decide +kernel
theorem dX1_slotOfRank_1 : decode cX1_slotOfRank 1 = .ok (.istore_n 2, 1) := by decide +kernel
theorem dX1_slotOfRank_2 : decode cX1_slotOfRank 2 = .ok (.iload_n 2, 1) := by decide +kernel
theorem dX1_slotOfRank_3 : decode cX1_slotOfRank 3 = .ok (.bipush 8, 2) := by decide +kernel
theorem dX1_slotOfRank_5 : decode cX1_slotOfRank 5 = .ok (.if_icmp .ge 28, 3) := by decide +kernel
theorem dX1_slotOfRank_8 : decode cX1_slotOfRank 8 = .ok (.aload_n 0, 1) := by decide +kernel
theorem dX1_slotOfRank_9 : decode cX1_slotOfRank 9 = .ok (.iload_n 2, 1) := by decide +kernel
theorem dX1_slotOfRank_10 : decode cX1_slotOfRank 10 = .ok (.invokevirtual 51, 3) := by decide +kernel
theorem dX1_slotOfRank_13 : decode cX1_slotOfRank 13 = .ok (.ifCond .eq 20, 3) := by decide +kernel
theorem dX1_slotOfRank_16 : decode cX1_slotOfRank 16 = .ok (.aload_n 0, 1) := by decide +kernel
theorem dX1_slotOfRank_17 : decode cX1_slotOfRank 17 = .ok (.iload_n 2, 1) := by decide +kernel
theorem dX1_slotOfRank_18 : decode cX1_slotOfRank 18 = .ok (.invokevirtual 54, 3) := by decide +kernel
theorem dX1_slotOfRank_21 : decode cX1_slotOfRank 21 = .ok (.iload_n 1, 1) := by decide +kernel
theorem dX1_slotOfRank_22 : decode cX1_slotOfRank 22 = .ok (.if_icmp .ne 5, 3) := by decide +kernel
theorem dX1_slotOfRank_25 : decode cX1_slotOfRank 25 = .ok (.iload_n 2, 1) := by decide +kernel
theorem dX1_slotOfRank_26 : decode cX1_slotOfRank 26 = .ok (.ireturn, 1) := by decide +kernel
theorem dX1_slotOfRank_27 : decode cX1_slotOfRank 27 = .ok (.iinc 2 1, 3) := by decide +kernel
theorem dX1_slotOfRank_30 : decode cX1_slotOfRank 30 = .ok (.goto (-28), 3) := by decide +kernel
theorem dX1_slotOfRank_33 : decode cX1_slotOfRank 33 = .ok (.iconst (-1), 1) := by decide +kernel
theorem dX1_slotOfRank_34 : decode cX1_slotOfRank 34 = .ok (.ireturn, 1) := by decide +kernel
set_option maxRecDepth 20000 in
theorem ggX1_rankOf_X1_hasSlot : GoodIn wsX1_rankOf wsX1_hasSlot := goodIn_r _ [7, 8, 9, 10, 11, 12] (by decide +kernel) (by decide +kernel)
set_option maxRecDepth 20000 in
theorem gX1_rankOf_X1_hasSlot : GoodIn wsX1_rankOf (wsV RX1 51 RX1 yX1_hasSlot wsX1_hasSlot) := goodIn_app (goodIn_of _ (by decide +kernel)) ggX1_rankOf_X1_hasSlot
theorem dX1_rankOf_0 : decode cX1_rankOf 0 = .ok (.aload_n 0, 1) := by decide +kernel
theorem dX1_rankOf_1 : decode cX1_rankOf 1 = .ok (.iload_n 1, 1) := by decide +kernel
theorem dX1_rankOf_2 : decode cX1_rankOf 2 = .ok (.invokevirtual 51, 3) := by decide +kernel
theorem dX1_rankOf_5 : decode cX1_rankOf 5 = .ok (.ifCond .ne 5, 3) := by decide +kernel
theorem dX1_rankOf_8 : decode cX1_rankOf 8 = .ok (.iconst (-1), 1) := by decide +kernel
theorem dX1_rankOf_9 : decode cX1_rankOf 9 = .ok (.ireturn, 1) := by decide +kernel
theorem dX1_rankOf_10 : decode cX1_rankOf 10 = .ok (.aload_n 0, 1) := by decide +kernel
theorem dX1_rankOf_11 : decode cX1_rankOf 11 = .ok (.getfield 15, 3) := by decide +kernel
theorem dX1_rankOf_14 : decode cX1_rankOf 14 = .ok (.iload_n 1, 1) := by decide +kernel
theorem dX1_rankOf_15 : decode cX1_rankOf 15 = .ok (.iaload, 1) := by decide +kernel
theorem dX1_rankOf_16 : decode cX1_rankOf 16 = .ok (.istore_n 2, 1) := by decide +kernel
theorem dX1_rankOf_17 : decode cX1_rankOf 17 = .ok (.aload_n 0, 1) := by decide +kernel
theorem dX1_rankOf_18 : decode cX1_rankOf 18 = .ok (.getfield 9, 3) := by decide +kernel
theorem dX1_rankOf_21 : decode cX1_rankOf 21 = .ok (.iload_n 1, 1) := by decide +kernel
theorem dX1_rankOf_22 : decode cX1_rankOf 22 = .ok (.iaload, 1) := by decide +kernel
theorem dX1_rankOf_23 : decode cX1_rankOf 23 = .ok (.istore_n 3, 1) := by decide +kernel
theorem dX1_rankOf_24 : decode cX1_rankOf 24 = .ok (.iconst 0, 1) := by decide +kernel
theorem dX1_rankOf_25 : decode cX1_rankOf 25 = .ok (.istore 4, 2) := by decide +kernel
theorem dX1_rankOf_27 : decode cX1_rankOf 27 = .ok (.iconst 0, 1) := by decide +kernel
theorem dX1_rankOf_28 : decode cX1_rankOf 28 = .ok (.istore 5, 2) := by decide +kernel
theorem dX1_rankOf_30 : decode cX1_rankOf 30 = .ok (.iload 5, 2) := by decide +kernel
theorem dX1_rankOf_32 : decode cX1_rankOf 32 = .ok (.bipush 8, 2) := by decide +kernel
theorem dX1_rankOf_34 : decode cX1_rankOf 34 = .ok (.if_icmp .ge 78, 3) := by decide +kernel
theorem dX1_rankOf_37 : decode cX1_rankOf 37 = .ok (.aload_n 0, 1) := by decide +kernel
theorem dX1_rankOf_38 : decode cX1_rankOf 38 = .ok (.iload 5, 2) := by decide +kernel
theorem dX1_rankOf_40 : decode cX1_rankOf 40 = .ok (.invokevirtual 51, 3) := by decide +kernel
theorem dX1_rankOf_43 : decode cX1_rankOf 43 = .ok (.ifCond .eq 69, 3) := by decide +kernel
theorem dX1_rankOf_46 : decode cX1_rankOf 46 = .ok (.aload_n 0, 1) := by decide +kernel
theorem dX1_rankOf_47 : decode cX1_rankOf 47 = .ok (.getfield 15, 3) := by decide +kernel
theorem dX1_rankOf_50 : decode cX1_rankOf 50 = .ok (.iload 5, 2) := by decide +kernel
theorem dX1_rankOf_52 : decode cX1_rankOf 52 = .ok (.iaload, 1) := by decide +kernel
theorem dX1_rankOf_53 : decode cX1_rankOf 53 = .ok (.iload_n 2, 1) := by decide +kernel
theorem dX1_rankOf_54 : decode cX1_rankOf 54 = .ok (.if_icmp .le 7, 3) := by decide +kernel
theorem dX1_rankOf_57 : decode cX1_rankOf 57 = .ok (.iconst 1, 1) := by decide +kernel
theorem dX1_rankOf_58 : decode cX1_rankOf 58 = .ok (.goto 4, 3) := by decide +kernel
theorem dX1_rankOf_61 : decode cX1_rankOf 61 = .ok (.iconst 0, 1) := by decide +kernel
theorem dX1_rankOf_62 : decode cX1_rankOf 62 = .ok (.istore 6, 2) := by decide +kernel
theorem dX1_rankOf_64 : decode cX1_rankOf 64 = .ok (.aload_n 0, 1) := by decide +kernel
theorem dX1_rankOf_65 : decode cX1_rankOf 65 = .ok (.getfield 15, 3) := by decide +kernel
theorem dX1_rankOf_68 : decode cX1_rankOf 68 = .ok (.iload 5, 2) := by decide +kernel
theorem dX1_rankOf_70 : decode cX1_rankOf 70 = .ok (.iaload, 1) := by decide +kernel
theorem dX1_rankOf_71 : decode cX1_rankOf 71 = .ok (.iload_n 2, 1) := by decide +kernel
theorem dX1_rankOf_72 : decode cX1_rankOf 72 = .ok (.if_icmp .ne 18, 3) := by decide +kernel
theorem dX1_rankOf_75 : decode cX1_rankOf 75 = .ok (.aload_n 0, 1) := by decide +kernel
theorem dX1_rankOf_76 : decode cX1_rankOf 76 = .ok (.getfield 9, 3) := by decide +kernel
theorem dX1_rankOf_79 : decode cX1_rankOf 79 = .ok (.iload 5, 2) := by decide +kernel
theorem dX1_rankOf_81 : decode cX1_rankOf 81 = .ok (.iaload, 1) := by decide +kernel
theorem dX1_rankOf_82 : decode cX1_rankOf 82 = .ok (.iload_n 3, 1) := by decide +kernel
theorem dX1_rankOf_83 : decode cX1_rankOf 83 = .ok (.if_icmp .ge 7, 3) := by decide +kernel
theorem dX1_rankOf_86 : decode cX1_rankOf 86 = .ok (.iconst 1, 1) := by decide +kernel
theorem dX1_rankOf_87 : decode cX1_rankOf 87 = .ok (.goto 4, 3) := by decide +kernel
theorem dX1_rankOf_90 : decode cX1_rankOf 90 = .ok (.iconst 0, 1) := by decide +kernel
theorem dX1_rankOf_91 : decode cX1_rankOf 91 = .ok (.istore 7, 2) := by decide +kernel
theorem dX1_rankOf_93 : decode cX1_rankOf 93 = .ok (.iload 6, 2) := by decide +kernel
theorem dX1_rankOf_95 : decode cX1_rankOf 95 = .ok (.ifCond .ne 8, 3) := by decide +kernel
theorem dX1_rankOf_98 : decode cX1_rankOf 98 = .ok (.iload 7, 2) := by decide +kernel
theorem dX1_rankOf_100 : decode cX1_rankOf 100 = .ok (.ifCond .eq 6, 3) := by decide +kernel
theorem dX1_rankOf_103 : decode cX1_rankOf 103 = .ok (.iinc 4 1, 3) := by decide +kernel
theorem dX1_rankOf_106 : decode cX1_rankOf 106 = .ok (.iinc 5 1, 3) := by decide +kernel
theorem dX1_rankOf_109 : decode cX1_rankOf 109 = .ok (.goto (-79), 3) := by decide +kernel
theorem dX1_rankOf_112 : decode cX1_rankOf 112 = .ok (.iload 4, 2) := by decide +kernel
theorem dX1_rankOf_114 : decode cX1_rankOf 114 = .ok (.ireturn, 1) := by decide +kernel
theorem dX2_init_0 : decode cX2_init 0 = .ok (.aload_n 0, 1) := by decide +kernel
theorem dX2_init_1 : decode cX2_init 1 = .ok (.invokespecial 1, 3) := by decide +kernel
theorem dX2_init_4 : decode cX2_init 4 = .ok (.aload_n 0, 1) := by decide +kernel
theorem dX2_init_5 : decode cX2_init 5 = .ok (.iconst 0, 1) := by decide +kernel
theorem dX2_init_6 : decode cX2_init 6 = .ok (.putfield 7, 3) := by decide +kernel
theorem dX2_init_9 : decode cX2_init 9 = .ok (.aload_n 0, 1) := by decide +kernel
theorem dX2_init_10 : decode cX2_init 10 = .ok (.iconst (-1), 1) := by decide +kernel
theorem dX2_init_11 : decode cX2_init 11 = .ok (.putfield 13, 3) := by decide +kernel
theorem dX2_init_14 : decode cX2_init 14 = .ok (.aload_n 0, 1) := by decide +kernel
theorem dX2_init_15 : decode cX2_init 15 = .ok (.iconst 0, 1) := by decide +kernel
theorem dX2_init_16 : decode cX2_init 16 = .ok (.putfield 16, 3) := by decide +kernel
theorem dX2_init_19 : decode cX2_init 19 = .ok (.return_, 1) := by decide +kernel
theorem dX2_clear_0 : decode cX2_clear 0 = .ok (.aload_n 0, 1) := by decide +kernel
theorem dX2_clear_1 : decode cX2_clear 1 = .ok (.iconst (-1), 1) := by decide +kernel
theorem dX2_clear_2 : decode cX2_clear 2 = .ok (.putfield 13, 3) := by decide +kernel
theorem dX2_clear_5 : decode cX2_clear 5 = .ok (.return_, 1) := by decide +kernel
theorem dX2_offer_0 : decode cX2_offer 0 = .ok (.iload_n 2, 1) := by decide +kernel
theorem dX2_offer_1 : decode cX2_offer 1 = .ok (.aload_n 0, 1) := by decide +kernel
theorem dX2_offer_2 : decode cX2_offer 2 = .ok (.getfield 13, 3) := by decide +kernel
theorem dX2_offer_5 : decode cX2_offer 5 = .ok (.if_icmp .gt 19, 3) := by decide +kernel
theorem dX2_offer_8 : decode cX2_offer 8 = .ok (.iload_n 2, 1) := by decide +kernel
theorem dX2_offer_9 : decode cX2_offer 9 = .ok (.aload_n 0, 1) := by decide +kernel
theorem dX2_offer_10 : decode cX2_offer 10 = .ok (.getfield 13, 3) := by decide +kernel
theorem dX2_offer_13 : decode cX2_offer 13 = .ok (.if_icmp .ne 26, 3) := by decide +kernel
theorem dX2_offer_16 : decode cX2_offer 16 = .ok (.iload_n 3, 1) := by decide +kernel
theorem dX2_offer_17 : decode cX2_offer 17 = .ok (.aload_n 0, 1) := by decide +kernel
theorem dX2_offer_18 : decode cX2_offer 18 = .ok (.getfield 16, 3) := by decide +kernel
theorem dX2_offer_21 : decode cX2_offer 21 = .ok (.if_icmp .ge 18, 3) := by decide +kernel
theorem dX2_offer_24 : decode cX2_offer 24 = .ok (.aload_n 0, 1) := by decide +kernel
theorem dX2_offer_25 : decode cX2_offer 25 = .ok (.iload_n 1, 1) := by decide +kernel
theorem dX2_offer_26 : decode cX2_offer 26 = .ok (.putfield 7, 3) := by decide +kernel
theorem dX2_offer_29 : decode cX2_offer 29 = .ok (.aload_n 0, 1) := by decide +kernel
theorem dX2_offer_30 : decode cX2_offer 30 = .ok (.iload_n 2, 1) := by decide +kernel
theorem dX2_offer_31 : decode cX2_offer 31 = .ok (.putfield 13, 3) := by decide +kernel
theorem dX2_offer_34 : decode cX2_offer 34 = .ok (.aload_n 0, 1) := by decide +kernel
theorem dX2_offer_35 : decode cX2_offer 35 = .ok (.iload_n 3, 1) := by decide +kernel
theorem dX2_offer_36 : decode cX2_offer 36 = .ok (.putfield 16, 3) := by decide +kernel
theorem dX2_offer_39 : decode cX2_offer 39 = .ok (.return_, 1) := by decide +kernel
theorem dX3_init_0 : decode cX3_init 0 = .ok (.aload_n 0, 1) := by decide +kernel
theorem dX3_init_1 : decode cX3_init 1 = .ok (.invokespecial 3, 3) := by decide +kernel
theorem dX3_init_4 : decode cX3_init 4 = .ok (.aload_n 0, 1) := by decide +kernel
theorem dX3_init_5 : decode cX3_init 5 = .ok (.iconst 4, 1) := by decide +kernel
theorem dX3_init_6 : decode cX3_init 6 = .ok (.anewarray 9, 3) := by decide +kernel
theorem dX3_init_9 : decode cX3_init 9 = .ok (.putfield 11, 3) := by decide +kernel
theorem dX3_init_12 : decode cX3_init 12 = .ok (.aload_n 0, 1) := by decide +kernel
theorem dX3_init_13 : decode cX3_init 13 = .ok (.iconst 0, 1) := by decide +kernel
theorem dX3_init_14 : decode cX3_init 14 = .ok (.putfield 17, 3) := by decide +kernel
theorem dX3_init_17 : decode cX3_init 17 = .ok (.return_, 1) := by decide +kernel
set_option maxRecDepth 20000 in
theorem ggX3_record_X3_dropOldest : GoodIn wsX3_record wsX3_dropOldest := goodIn_r _ [10, 2, 1, 35, 36] (by decide +kernel) (by decide +kernel)
set_option maxRecDepth 20000 in
theorem gX3_record_X3_dropOldest : GoodIn wsX3_record (wsV RX3 21 RX3 yX3_dropOldest wsX3_dropOldest) := goodIn_app (goodIn_of _ (by decide +kernel)) ggX3_record_X3_dropOldest
set_option maxRecDepth 20000 in
theorem ggX3_record_X0_init : GoodIn wsX3_record wsX0_init := goodIn_r _ [12, 13, 14, 15, 16, 17, 18, 19, 20, 21, 22, 23, 24, 25, 26, 37, 38, 39, 40, 41, 42, 43, 44, 45, 46] (by decide +kernel) (by decide +kernel)
set_option maxRecDepth 20000 in
theorem gX3_record_X0_init_n24 : GoodIn wsX3_record (wsX0_init) := ggX3_record_X0_init
set_option maxRecDepth 20000 in
theorem ggX3_record_X0_copyFrom : GoodIn wsX3_record wsX0_copyFrom := goodIn_r _ [30, 17, 31, 32, 33, 34, 18, 19, 20, 21, 22, 23, 24, 25, 26, 37, 38, 39, 40, 41, 42, 43, 44, 45, 46] (by decide +kernel) (by decide +kernel)
set_option maxRecDepth 20000 in
theorem gX3_record_X0_copyFrom : GoodIn wsX3_record (wsV RX3 25 RX0 yX0_copyFrom wsX0_copyFrom) := goodIn_app (goodIn_of _ (by decide +kernel)) ggX3_record_X0_copyFrom
theorem dX3_record_0 : decode cX3_record 0 = .ok (.aload_n 0, 1) := by decide +kernel
theorem dX3_record_1 : decode cX3_record 1 = .ok (.getfield 17, 3) := by decide +kernel
theorem dX3_record_4 : decode cX3_record 4 = .ok (.iconst 4, 1) := by decide +kernel
theorem dX3_record_5 : decode cX3_record 5 = .ok (.if_icmp .lt 7, 3) := by decide +kernel
theorem dX3_record_8 : decode cX3_record 8 = .ok (.aload_n 0, 1) := by decide +kernel
theorem dX3_record_9 : decode cX3_record 9 = .ok (.invokevirtual 21, 3) := by decide +kernel
theorem dX3_record_12 : decode cX3_record 12 = .ok (.aload_n 0, 1) := by decide +kernel
theorem dX3_record_13 : decode cX3_record 13 = .ok (.getfield 17, 3) := by decide +kernel
theorem dX3_record_16 : decode cX3_record 16 = .ok (.ifCond .lt 11, 3) := by decide +kernel
theorem dX3_record_19 : decode cX3_record 19 = .ok (.aload_n 0, 1) := by decide +kernel
theorem dX3_record_20 : decode cX3_record 20 = .ok (.getfield 17, 3) := by decide +kernel
theorem dX3_record_23 : decode cX3_record 23 = .ok (.iconst 4, 1) := by decide +kernel
theorem dX3_record_24 : decode cX3_record 24 = .ok (.if_icmp .lt 4, 3) := by decide +kernel
theorem dX3_record_27 : decode cX3_record 27 = .ok (.return_, 1) := by decide +kernel
theorem dX3_record_28 : decode cX3_record 28 = .ok (.aload_n 0, 1) := by decide +kernel
theorem dX3_record_29 : decode cX3_record 29 = .ok (.getfield 11, 3) := by decide +kernel
theorem dX3_record_32 : decode cX3_record 32 = .ok (.aload_n 0, 1) := by decide +kernel
theorem dX3_record_33 : decode cX3_record 33 = .ok (.getfield 17, 3) := by decide +kernel
theorem dX3_record_36 : decode cX3_record 36 = .ok (.aaload, 1) := by decide +kernel
theorem dX3_record_37 : decode cX3_record 37 = .ok (.astore_n 2, 1) := by decide +kernel
theorem dX3_record_38 : decode cX3_record 38 = .ok (.aload_n 2, 1) := by decide +kernel
theorem dX3_record_39 : decode cX3_record 39 = .ok (.ifnonnull 21, 3) := by decide +kernel
theorem dX3_record_42 : decode cX3_record 42 = .ok (.new 9, 3) := by decide +kernel
theorem dX3_record_45 : decode cX3_record 45 = .ok (.dup, 1) := by decide +kernel
theorem dX3_record_46 : decode cX3_record 46 = .ok (.invokespecial 24, 3) := by decide +kernel
theorem dX3_record_49 : decode cX3_record 49 = .ok (.astore_n 2, 1) := by decide +kernel
theorem dX3_record_50 : decode cX3_record 50 = .ok (.aload_n 0, 1) := by decide +kernel
theorem dX3_record_51 : decode cX3_record 51 = .ok (.getfield 11, 3) := by decide +kernel
theorem dX3_record_54 : decode cX3_record 54 = .ok (.aload_n 0, 1) := by decide +kernel
theorem dX3_record_55 : decode cX3_record 55 = .ok (.getfield 17, 3) := by decide +kernel
theorem dX3_record_58 : decode cX3_record 58 = .ok (.aload_n 2, 1) := by decide +kernel
theorem dX3_record_59 : decode cX3_record 59 = .ok (.aastore, 1) := by decide +kernel
theorem dX3_record_60 : decode cX3_record 60 = .ok (.aload_n 2, 1) := by decide +kernel
theorem dX3_record_61 : decode cX3_record 61 = .ok (.aload_n 1, 1) := by decide +kernel
theorem dX3_record_62 : decode cX3_record 62 = .ok (.invokevirtual 25, 3) := by decide +kernel
theorem dX3_record_65 : decode cX3_record 65 = .ok (.aload_n 0, 1) := by decide +kernel
theorem dX3_record_66 : decode cX3_record 66 = .ok (.dup, 1) := by decide +kernel
theorem dX3_record_67 : decode cX3_record 67 = .ok (.getfield 17, 3) := by decide +kernel
theorem dX3_record_70 : decode cX3_record 70 = .ok (.iconst 1, 1) := by decide +kernel
theorem dX3_record_71 : decode cX3_record 71 = .ok (.iadd, 1) := by decide +kernel
theorem dX3_record_72 : decode cX3_record 72 = .ok (.putfield 17, 3) := by decide +kernel
theorem dX3_record_75 : decode cX3_record 75 = .ok (.return_, 1) := by decide +kernel
theorem dX3_dropOldest_0 : decode cX3_dropOldest 0 = .ok (.aload_n 0, 1) := by decide +kernel
theorem dX3_dropOldest_1 : decode cX3_dropOldest 1 = .ok (.getfield 11, 3) := by decide +kernel
theorem dX3_dropOldest_4 : decode cX3_dropOldest 4 = .ok (.iconst 0, 1) := by decide +kernel
theorem dX3_dropOldest_5 : decode cX3_dropOldest 5 = .ok (.aaload, 1) := by decide +kernel
theorem dX3_dropOldest_6 : decode cX3_dropOldest 6 = .ok (.astore_n 1, 1) := by decide +kernel
theorem dX3_dropOldest_7 : decode cX3_dropOldest 7 = .ok (.iconst 1, 1) := by decide +kernel
theorem dX3_dropOldest_8 : decode cX3_dropOldest 8 = .ok (.istore_n 2, 1) := by decide +kernel
theorem dX3_dropOldest_9 : decode cX3_dropOldest 9 = .ok (.iload_n 2, 1) := by decide +kernel
theorem dX3_dropOldest_10 : decode cX3_dropOldest 10 = .ok (.iconst 4, 1) := by decide +kernel
theorem dX3_dropOldest_11 : decode cX3_dropOldest 11 = .ok (.if_icmp .ge 23, 3) := by decide +kernel
theorem dX3_dropOldest_14 : decode cX3_dropOldest 14 = .ok (.aload_n 0, 1) := by decide +kernel
theorem dX3_dropOldest_15 : decode cX3_dropOldest 15 = .ok (.getfield 11, 3) := by decide +kernel
theorem dX3_dropOldest_18 : decode cX3_dropOldest 18 = .ok (.iload_n 2, 1) := by decide +kernel
theorem dX3_dropOldest_19 : decode cX3_dropOldest 19 = .ok (.iconst 1, 1) := by decide +kernel
theorem dX3_dropOldest_20 : decode cX3_dropOldest 20 = .ok (.isub, 1) := by decide +kernel
theorem dX3_dropOldest_21 : decode cX3_dropOldest 21 = .ok (.aload_n 0, 1) := by decide +kernel
theorem dX3_dropOldest_22 : decode cX3_dropOldest 22 = .ok (.getfield 11, 3) := by decide +kernel
theorem dX3_dropOldest_25 : decode cX3_dropOldest 25 = .ok (.iload_n 2, 1) := by decide +kernel
theorem dX3_dropOldest_26 : decode cX3_dropOldest 26 = .ok (.aaload, 1) := by decide +kernel
theorem dX3_dropOldest_27 : decode cX3_dropOldest 27 = .ok (.aastore, 1) := by decide +kernel
theorem dX3_dropOldest_28 : decode cX3_dropOldest 28 = .ok (.iinc 2 1, 3) := by decide +kernel
theorem dX3_dropOldest_31 : decode cX3_dropOldest 31 = .ok (.goto (-22), 3) := by decide +kernel
theorem dX3_dropOldest_34 : decode cX3_dropOldest 34 = .ok (.aload_n 0, 1) := by decide +kernel
theorem dX3_dropOldest_35 : decode cX3_dropOldest 35 = .ok (.getfield 11, 3) := by decide +kernel
theorem dX3_dropOldest_38 : decode cX3_dropOldest 38 = .ok (.iconst 3, 1) := by decide +kernel
theorem dX3_dropOldest_39 : decode cX3_dropOldest 39 = .ok (.aload_n 1, 1) := by decide +kernel
theorem dX3_dropOldest_40 : decode cX3_dropOldest 40 = .ok (.aastore, 1) := by decide +kernel
theorem dX3_dropOldest_41 : decode cX3_dropOldest 41 = .ok (.aload_n 0, 1) := by decide +kernel
theorem dX3_dropOldest_42 : decode cX3_dropOldest 42 = .ok (.iconst 3, 1) := by decide +kernel
theorem dX3_dropOldest_43 : decode cX3_dropOldest 43 = .ok (.putfield 17, 3) := by decide +kernel
theorem dX3_dropOldest_46 : decode cX3_dropOldest 46 = .ok (.return_, 1) := by decide +kernel
set_option maxRecDepth 20000 in
theorem ggX3_takeLatest_X0_copyFrom : GoodIn wsX3_takeLatest wsX0_copyFrom := goodIn_r _ [7, 8, 9, 10, 11, 12, 13, 14, 15, 16, 17, 18, 19, 20, 21, 24, 25, 26, 27, 28, 29, 30, 31, 32, 33] (by decide +kernel) (by decide +kernel)
set_option maxRecDepth 20000 in
theorem gX3_takeLatest_X0_copyFrom : GoodIn wsX3_takeLatest (wsV RX3 25 RX0 yX0_copyFrom wsX0_copyFrom) := goodIn_app (goodIn_of _ (by decide +kernel)) ggX3_takeLatest_X0_copyFrom
theorem dX3_takeLatest_0 : decode cX3_takeLatest 0 = .ok (.aload_n 0, 1) := by decide +kernel
theorem dX3_takeLatest_1 : decode cX3_takeLatest 1 = .ok (.getfield 17, 3) := by decide +kernel
theorem dX3_takeLatest_4 : decode cX3_takeLatest 4 = .ok (.iconst 1, 1) := by decide +kernel
theorem dX3_takeLatest_5 : decode cX3_takeLatest 5 = .ok (.isub, 1) := by decide +kernel
theorem dX3_takeLatest_6 : decode cX3_takeLatest 6 = .ok (.istore_n 2, 1) := by decide +kernel
theorem dX3_takeLatest_7 : decode cX3_takeLatest 7 = .ok (.iload_n 2, 1) := by decide +kernel
theorem dX3_takeLatest_8 : decode cX3_takeLatest 8 = .ok (.ifCond .lt 8, 3) := by decide +kernel
theorem dX3_takeLatest_11 : decode cX3_takeLatest 11 = .ok (.iload_n 2, 1) := by decide +kernel
theorem dX3_takeLatest_12 : decode cX3_takeLatest 12 = .ok (.iconst 4, 1) := by decide +kernel
theorem dX3_takeLatest_13 : decode cX3_takeLatest 13 = .ok (.if_icmp .lt 5, 3) := by decide +kernel
theorem dX3_takeLatest_16 : decode cX3_takeLatest 16 = .ok (.iconst 0, 1) := by decide +kernel
theorem dX3_takeLatest_17 : decode cX3_takeLatest 17 = .ok (.ireturn, 1) := by decide +kernel
theorem dX3_takeLatest_18 : decode cX3_takeLatest 18 = .ok (.aload_n 0, 1) := by decide +kernel
theorem dX3_takeLatest_19 : decode cX3_takeLatest 19 = .ok (.getfield 11, 3) := by decide +kernel
theorem dX3_takeLatest_22 : decode cX3_takeLatest 22 = .ok (.iload_n 2, 1) := by decide +kernel
theorem dX3_takeLatest_23 : decode cX3_takeLatest 23 = .ok (.aaload, 1) := by decide +kernel
theorem dX3_takeLatest_24 : decode cX3_takeLatest 24 = .ok (.astore_n 3, 1) := by decide +kernel
theorem dX3_takeLatest_25 : decode cX3_takeLatest 25 = .ok (.aload_n 3, 1) := by decide +kernel
theorem dX3_takeLatest_26 : decode cX3_takeLatest 26 = .ok (.ifnonnull 5, 3) := by decide +kernel
theorem dX3_takeLatest_29 : decode cX3_takeLatest 29 = .ok (.iconst 0, 1) := by decide +kernel
theorem dX3_takeLatest_30 : decode cX3_takeLatest 30 = .ok (.ireturn, 1) := by decide +kernel
theorem dX3_takeLatest_31 : decode cX3_takeLatest 31 = .ok (.aload_n 1, 1) := by decide +kernel
theorem dX3_takeLatest_32 : decode cX3_takeLatest 32 = .ok (.aload_n 3, 1) := by decide +kernel
theorem dX3_takeLatest_33 : decode cX3_takeLatest 33 = .ok (.invokevirtual 25, 3) := by decide +kernel
theorem dX3_takeLatest_36 : decode cX3_takeLatest 36 = .ok (.aload_n 0, 1) := by decide +kernel
theorem dX3_takeLatest_37 : decode cX3_takeLatest 37 = .ok (.iload_n 2, 1) := by decide +kernel
theorem dX3_takeLatest_38 : decode cX3_takeLatest 38 = .ok (.putfield 17, 3) := by decide +kernel
theorem dX3_takeLatest_41 : decode cX3_takeLatest 41 = .ok (.iconst 1, 1) := by decide +kernel
theorem dX3_takeLatest_42 : decode cX3_takeLatest 42 = .ok (.ireturn, 1) := by decide +kernel
theorem dX4_init_0 : decode cX4_init 0 = .ok (.aload_n 0, 1) := by decide +kernel
theorem dX4_init_1 : decode cX4_init 1 = .ok (.invokespecial 3, 3) := by decide +kernel
theorem dX4_init_4 : decode cX4_init 4 = .ok (.aload_n 0, 1) := by decide +kernel
theorem dX4_init_5 : decode cX4_init 5 = .ok (.bipush 8, 2) := by decide +kernel
theorem dX4_init_7 : decode cX4_init 7 = .ok (.newarray .int, 2) := by decide +kernel
theorem dX4_init_9 : decode cX4_init 9 = .ok (.putfield 9, 3) := by decide +kernel
theorem dX4_init_12 : decode cX4_init 12 = .ok (.aload_n 0, 1) := by decide +kernel
theorem dX4_init_13 : decode cX4_init 13 = .ok (.bipush 8, 2) := by decide +kernel
theorem dX4_init_15 : decode cX4_init 15 = .ok (.newarray .int, 2) := by decide +kernel
theorem dX4_init_17 : decode cX4_init 17 = .ok (.putfield 15, 3) := by decide +kernel
theorem dX4_init_20 : decode cX4_init 20 = .ok (.aload_n 0, 1) := by decide +kernel
theorem dX4_init_21 : decode cX4_init 21 = .ok (.bipush 8, 2) := by decide +kernel
theorem dX4_init_23 : decode cX4_init 23 = .ok (.newarray .int, 2) := by decide +kernel
theorem dX4_init_25 : decode cX4_init 25 = .ok (.putfield 18, 3) := by decide +kernel
theorem dX4_init_28 : decode cX4_init 28 = .ok (.aload_n 0, 1) := by decide +kernel
theorem dX4_init_29 : decode cX4_init 29 = .ok (.bipush 8, 2) := by decide +kernel
theorem dX4_init_31 : decode cX4_init 31 = .ok (.newarray .int, 2) := by decide +kernel
theorem dX4_init_33 : decode cX4_init 33 = .ok (.putfield 21, 3) := by decide +kernel
theorem dX4_init_36 : decode cX4_init 36 = .ok (.aload_n 0, 1) := by decide +kernel
theorem dX4_init_37 : decode cX4_init 37 = .ok (.iconst 0, 1) := by decide +kernel
theorem dX4_init_38 : decode cX4_init 38 = .ok (.putfield 24, 3) := by decide +kernel
theorem dX4_init_41 : decode cX4_init 41 = .ok (.return_, 1) := by decide +kernel
set_option maxRecDepth 20000 in
theorem ggX4_follow_X0_hasLine : GoodIn wsX4_follow wsX0_hasLine := goodIn_r _ [7, 8, 60, 61, 62, 63, 64, 65, 66, 67, 68, 69] (by decide +kernel) (by decide +kernel)
set_option maxRecDepth 20000 in
theorem gX4_follow_X0_hasLine : GoodIn wsX4_follow (wsV RX4 28 RX0 yX0_hasLine wsX0_hasLine) := goodIn_app (goodIn_of _ (by decide +kernel)) ggX4_follow_X0_hasLine
set_option maxRecDepth 20000 in
theorem ggX4_follow_X4_followLine : GoodIn wsX4_follow wsX4_followLine := goodIn_r _ [13, 14, 15, 16, 17, 3, 4, 5, 6, 7, 8, 18, 19, 20, 21, 22, 23, 24, 12, 25, 26, 27, 28, 29, 30, 31, 32, 33, 34, 35, 36, 37, 38, 39, 40, 41, 42, 43, 44, 45, 46, 47, 48, 49, 50, 51, 52, 53, 54, 55, 56, 57, 58, 59, 60, 61, 62, 63, 64, 65, 66, 67, 68, 69, 70, 71, 72, 73, 74] (by decide +kernel) (by decide +kernel)
set_option maxRecDepth 20000 in
theorem gX4_follow_X4_followLine : GoodIn wsX4_follow (wsV RX4 34 RX4 yX4_followLine wsX4_followLine) := goodIn_app (goodIn_of _ (by decide +kernel)) ggX4_follow_X4_followLine
theorem dX4_follow_0 : decode cX4_follow 0 = .ok (.iconst 0, 1) := by decide +kernel
theorem dX4_follow_1 : decode cX4_follow 1 = .ok (.istore_n 2, 1) := by decide +kernel
theorem dX4_follow_2 : decode cX4_follow 2 = .ok (.iload_n 2, 1) := by decide +kernel
theorem dX4_follow_3 : decode cX4_follow 3 = .ok (.bipush 8, 2) := by decide +kernel
theorem dX4_follow_5 : decode cX4_follow 5 = .ok (.if_icmp .ge 26, 3) := by decide +kernel
theorem dX4_follow_8 : decode cX4_follow 8 = .ok (.aload_n 1, 1) := by decide +kernel
theorem dX4_follow_9 : decode cX4_follow 9 = .ok (.iload_n 2, 1) := by decide +kernel
theorem dX4_follow_10 : decode cX4_follow 10 = .ok (.invokevirtual 28, 3) := by decide +kernel
theorem dX4_follow_13 : decode cX4_follow 13 = .ok (.ifCond .eq 18, 3) := by decide +kernel
theorem dX4_follow_16 : decode cX4_follow 16 = .ok (.aload_n 0, 1) := by decide +kernel
theorem dX4_follow_17 : decode cX4_follow 17 = .ok (.aload_n 1, 1) := by decide +kernel
theorem dX4_follow_18 : decode cX4_follow 18 = .ok (.iload_n 2, 1) := by decide +kernel
theorem dX4_follow_19 : decode cX4_follow 19 = .ok (.sipush 1000, 3) := by decide +kernel
theorem dX4_follow_22 : decode cX4_follow 22 = .ok (.invokevirtual 34, 3) := by decide +kernel
theorem dX4_follow_25 : decode cX4_follow 25 = .ok (.iinc 2 1, 3) := by decide +kernel
theorem dX4_follow_28 : decode cX4_follow 28 = .ok (.goto (-26), 3) := by decide +kernel
theorem dX4_follow_31 : decode cX4_follow 31 = .ok (.aload_n 0, 1) := by decide +kernel
theorem dX4_follow_32 : decode cX4_follow 32 = .ok (.aload_n 1, 1) := by decide +kernel
theorem dX4_follow_33 : decode cX4_follow 33 = .ok (.getfield 38, 3) := by decide +kernel
theorem dX4_follow_36 : decode cX4_follow 36 = .ok (.putfield 24, 3) := by decide +kernel
theorem dX4_follow_39 : decode cX4_follow 39 = .ok (.return_, 1) := by decide +kernel
set_option maxRecDepth 20000 in
theorem ggX4_followLine_X0_hasLine : GoodIn wsX4_followLine wsX0_hasLine := goodIn_r _ [9, 10, 54, 55, 56, 57, 58, 59, 60, 61, 62, 63] (by decide +kernel) (by decide +kernel)
set_option maxRecDepth 20000 in
theorem gX4_followLine_X0_hasLine : GoodIn wsX4_followLine (wsV RX4 28 RX0 yX0_hasLine wsX0_hasLine) := goodIn_app (goodIn_of _ (by decide +kernel)) ggX4_followLine_X0_hasLine
set_option maxRecDepth 20000 in
theorem ggX4_followLine_X0_hasThing : GoodIn wsX4_followLine wsX0_hasThing := goodIn_r _ [14, 15, 54, 55, 56, 57, 58, 59, 60, 61, 62, 63] (by decide +kernel) (by decide +kernel)
set_option maxRecDepth 20000 in
theorem gX4_followLine_X0_hasThing : GoodIn wsX4_followLine (wsV RX4 44 RX0 yX0_hasThing wsX0_hasThing) := goodIn_app (goodIn_of _ (by decide +kernel)) ggX4_followLine_X0_hasThing
set_option maxRecDepth 20000 in
theorem ggX4_followLine_X4_rise : GoodIn wsX4_followLine wsX4_rise := goodIn_r _ [19, 20, 21, 22, 23] (by decide +kernel) (by decide +kernel)
set_option maxRecDepth 20000 in
theorem gX4_followLine_X4_rise : GoodIn wsX4_followLine (va_wsS RX4 50 yX4_rise wsX4_rise) := goodIn_app (goodIn_of _ (by decide +kernel)) ggX4_followLine_X4_rise
set_option maxRecDepth 20000 in
theorem ggX4_followLine_X0_whyLostAt : GoodIn wsX4_followLine wsX0_whyLostAt := goodIn_r _ [27, 28, 29, 30, 31, 32, 8, 33, 34, 35, 36, 37, 12, 13, 14, 15, 54, 55, 56, 57, 58, 59, 60, 61, 62, 63] (by decide +kernel) (by decide +kernel)
set_option maxRecDepth 20000 in
theorem gX4_followLine_X0_whyLostAt : GoodIn wsX4_followLine (wsV RX4 54 RX0 yX0_whyLostAt wsX0_whyLostAt) := goodIn_app (goodIn_of _ (by decide +kernel)) ggX4_followLine_X0_whyLostAt
set_option maxRecDepth 20000 in
theorem ggX4_followLine_X4_finish : GoodIn wsX4_followLine wsX4_finish := goodIn_r _ [41, 42, 43, 34, 35, 36, 64, 65, 66, 67, 68] (by decide +kernel) (by decide +kernel)
set_option maxRecDepth 20000 in
theorem gX4_followLine_X4_finish : GoodIn wsX4_followLine (wsV RX4 57 RX4 yX4_finish wsX4_finish) := goodIn_app (goodIn_of _ (by decide +kernel)) ggX4_followLine_X4_finish
set_option maxRecDepth 20000 in
theorem ggX4_followLine_X0_bendAt : GoodIn wsX4_followLine wsX0_bendAt := goodIn_r _ [47, 28, 30, 29, 48, 37, 12, 13, 8, 14, 15, 49, 35, 50, 51, 21, 22, 23, 52, 54, 55, 56, 57, 58, 59, 60, 61, 62, 63] (by decide +kernel) (by decide +kernel)
set_option maxRecDepth 20000 in
theorem gX4_followLine_X0_bendAt : GoodIn wsX4_followLine (wsV RX4 61 RX0 yX0_bendAt wsX0_bendAt) := goodIn_app (goodIn_of _ (by decide +kernel)) ggX4_followLine_X0_bendAt
set_option maxRecDepth 20000 in
theorem ggX4_followLine_X0_isBeyond : GoodIn wsX4_followLine wsX0_isBeyond := goodIn_r _ [33, 34, 35, 36] (by decide +kernel) (by decide +kernel)
set_option maxRecDepth 20000 in
theorem gX4_followLine_X0_isBeyond : GoodIn wsX4_followLine (va_wsS RX4 64 yX0_isBeyond wsX0_isBeyond) := goodIn_app (goodIn_of _ (by decide +kernel)) ggX4_followLine_X0_isBeyond
theorem dX4_followLine_0 : decode cX4_followLine 0 = .ok (.aload_n 1, 1) := by decide +kernel
theorem dX4_followLine_1 : decode cX4_followLine 1 = .ok (.iload_n 2, 1) := by decide +kernel
theorem dX4_followLine_2 : decode cX4_followLine 2 = .ok (.invokevirtual 28, 3) := by decide +kernel
theorem dX4_followLine_5 : decode cX4_followLine 5 = .ok (.ifCond .ne 4, 3) := by decide +kernel
theorem dX4_followLine_8 : decode cX4_followLine 8 = .ok (.return_, 1) := by decide +kernel
theorem dX4_followLine_9 : decode cX4_followLine 9 = .ok (.aload_n 1, 1) := by decide +kernel
theorem dX4_followLine_10 : decode cX4_followLine 10 = .ok (.getfield 41, 3) := by decide +kernel
theorem dX4_followLine_13 : decode cX4_followLine 13 = .ok (.iload_n 2, 1) := by decide +kernel
theorem dX4_followLine_14 : decode cX4_followLine 14 = .ok (.iaload, 1) := by decide +kernel
theorem dX4_followLine_15 : decode cX4_followLine 15 = .ok (.istore 4, 2) := by decide +kernel
theorem dX4_followLine_17 : decode cX4_followLine 17 = .ok (.iconst 0, 1) := by decide +kernel
theorem dX4_followLine_18 : decode cX4_followLine 18 = .ok (.istore 5, 2) := by decide +kernel
theorem dX4_followLine_20 : decode cX4_followLine 20 = .ok (.iconst 0, 1) := by decide +kernel
theorem dX4_followLine_21 : decode cX4_followLine 21 = .ok (.istore 6, 2) := by decide +kernel
theorem dX4_followLine_23 : decode cX4_followLine 23 = .ok (.iconst 0, 1) := by decide +kernel
theorem dX4_followLine_24 : decode cX4_followLine 24 = .ok (.istore 7, 2) := by decide +kernel
theorem dX4_followLine_26 : decode cX4_followLine 26 = .ok (.iconst 0, 1) := by decide +kernel
theorem dX4_followLine_27 : decode cX4_followLine 27 = .ok (.istore 8, 2) := by decide +kernel
theorem dX4_followLine_29 : decode cX4_followLine 29 = .ok (.iload 8, 2) := by decide +kernel
theorem dX4_followLine_31 : decode cX4_followLine 31 = .ok (.bipush 8, 2) := by decide +kernel
theorem dX4_followLine_33 : decode cX4_followLine 33 = .ok (.if_icmp .ge 96, 3) := by decide +kernel
theorem dX4_followLine_36 : decode cX4_followLine 36 = .ok (.aload_n 1, 1) := by decide +kernel
theorem dX4_followLine_37 : decode cX4_followLine 37 = .ok (.iload 8, 2) := by decide +kernel
theorem dX4_followLine_39 : decode cX4_followLine 39 = .ok (.invokevirtual 44, 3) := by decide +kernel
theorem dX4_followLine_42 : decode cX4_followLine 42 = .ok (.ifCond .eq 87, 3) := by decide +kernel
theorem dX4_followLine_45 : decode cX4_followLine 45 = .ok (.aload_n 1, 1) := by decide +kernel
theorem dX4_followLine_46 : decode cX4_followLine 46 = .ok (.getfield 47, 3) := by decide +kernel
theorem dX4_followLine_49 : decode cX4_followLine 49 = .ok (.iload 8, 2) := by decide +kernel
theorem dX4_followLine_51 : decode cX4_followLine 51 = .ok (.iaload, 1) := by decide +kernel
theorem dX4_followLine_52 : decode cX4_followLine 52 = .ok (.iload_n 3, 1) := by decide +kernel
theorem dX4_followLine_53 : decode cX4_followLine 53 = .ok (.if_icmp .ge 76, 3) := by decide +kernel
theorem dX4_followLine_56 : decode cX4_followLine 56 = .ok (.iload 6, 2) := by decide +kernel
theorem dX4_followLine_58 : decode cX4_followLine 58 = .ok (.iload 7, 2) := by decide +kernel
theorem dX4_followLine_60 : decode cX4_followLine 60 = .ok (.aload_n 1, 1) := by decide +kernel
theorem dX4_followLine_61 : decode cX4_followLine 61 = .ok (.getfield 47, 3) := by decide +kernel
theorem dX4_followLine_64 : decode cX4_followLine 64 = .ok (.iload 8, 2) := by decide +kernel
theorem dX4_followLine_66 : decode cX4_followLine 66 = .ok (.iaload, 1) := by decide +kernel
theorem dX4_followLine_67 : decode cX4_followLine 67 = .ok (.iload 5, 2) := by decide +kernel
theorem dX4_followLine_69 : decode cX4_followLine 69 = .ok (.isub, 1) := by decide +kernel
theorem dX4_followLine_70 : decode cX4_followLine 70 = .ok (.invokestatic 50, 3) := by decide +kernel
theorem dX4_followLine_73 : decode cX4_followLine 73 = .ok (.iadd, 1) := by decide +kernel
theorem dX4_followLine_74 : decode cX4_followLine 74 = .ok (.istore 6, 2) := by decide +kernel
theorem dX4_followLine_76 : decode cX4_followLine 76 = .ok (.aload_n 1, 1) := by decide +kernel
theorem dX4_followLine_77 : decode cX4_followLine 77 = .ok (.getfield 47, 3) := by decide +kernel
theorem dX4_followLine_80 : decode cX4_followLine 80 = .ok (.iload 8, 2) := by decide +kernel
theorem dX4_followLine_82 : decode cX4_followLine 82 = .ok (.iaload, 1) := by decide +kernel
theorem dX4_followLine_83 : decode cX4_followLine 83 = .ok (.istore 5, 2) := by decide +kernel
theorem dX4_followLine_85 : decode cX4_followLine 85 = .ok (.aload_n 1, 1) := by decide +kernel
theorem dX4_followLine_86 : decode cX4_followLine 86 = .ok (.iload 8, 2) := by decide +kernel
theorem dX4_followLine_88 : decode cX4_followLine 88 = .ok (.iload 6, 2) := by decide +kernel
theorem dX4_followLine_90 : decode cX4_followLine 90 = .ok (.invokevirtual 54, 3) := by decide +kernel
theorem dX4_followLine_93 : decode cX4_followLine 93 = .ok (.istore 9, 2) := by decide +kernel
theorem dX4_followLine_95 : decode cX4_followLine 95 = .ok (.iload 9, 2) := by decide +kernel
theorem dX4_followLine_97 : decode cX4_followLine 97 = .ok (.ifCond .eq 13, 3) := by decide +kernel
theorem dX4_followLine_100 : decode cX4_followLine 100 = .ok (.aload_n 0, 1) := by decide +kernel
theorem dX4_followLine_101 : decode cX4_followLine 101 = .ok (.iload_n 2, 1) := by decide +kernel
theorem dX4_followLine_102 : decode cX4_followLine 102 = .ok (.iload 5, 2) := by decide +kernel
theorem dX4_followLine_104 : decode cX4_followLine 104 = .ok (.iload 9, 2) := by decide +kernel
theorem dX4_followLine_106 : decode cX4_followLine 106 = .ok (.invokevirtual 57, 3) := by decide +kernel
theorem dX4_followLine_109 : decode cX4_followLine 109 = .ok (.return_, 1) := by decide +kernel
theorem dX4_followLine_110 : decode cX4_followLine 110 = .ok (.iload 7, 2) := by decide +kernel
theorem dX4_followLine_112 : decode cX4_followLine 112 = .ok (.aload_n 1, 1) := by decide +kernel
theorem dX4_followLine_113 : decode cX4_followLine 113 = .ok (.iload 8, 2) := by decide +kernel
theorem dX4_followLine_115 : decode cX4_followLine 115 = .ok (.iload 4, 2) := by decide +kernel
theorem dX4_followLine_117 : decode cX4_followLine 117 = .ok (.invokevirtual 61, 3) := by decide +kernel
theorem dX4_followLine_120 : decode cX4_followLine 120 = .ok (.iadd, 1) := by decide +kernel
theorem dX4_followLine_121 : decode cX4_followLine 121 = .ok (.istore 7, 2) := by decide +kernel
theorem dX4_followLine_123 : decode cX4_followLine 123 = .ok (.iinc 8 1, 3) := by decide +kernel
theorem dX4_followLine_126 : decode cX4_followLine 126 = .ok (.goto (-97), 3) := by decide +kernel
theorem dX4_followLine_129 : decode cX4_followLine 129 = .ok (.iload 6, 2) := by decide +kernel
theorem dX4_followLine_131 : decode cX4_followLine 131 = .ok (.iload 7, 2) := by decide +kernel
theorem dX4_followLine_133 : decode cX4_followLine 133 = .ok (.iload_n 3, 1) := by decide +kernel
theorem dX4_followLine_134 : decode cX4_followLine 134 = .ok (.iload 5, 2) := by decide +kernel
theorem dX4_followLine_136 : decode cX4_followLine 136 = .ok (.isub, 1) := by decide +kernel
theorem dX4_followLine_137 : decode cX4_followLine 137 = .ok (.invokestatic 50, 3) := by decide +kernel
theorem dX4_followLine_140 : decode cX4_followLine 140 = .ok (.iadd, 1) := by decide +kernel
theorem dX4_followLine_141 : decode cX4_followLine 141 = .ok (.istore 6, 2) := by decide +kernel
theorem dX4_followLine_143 : decode cX4_followLine 143 = .ok (.aload_n 0, 1) := by decide +kernel
theorem dX4_followLine_144 : decode cX4_followLine 144 = .ok (.getfield 9, 3) := by decide +kernel
theorem dX4_followLine_147 : decode cX4_followLine 147 = .ok (.iload_n 2, 1) := by decide +kernel
theorem dX4_followLine_148 : decode cX4_followLine 148 = .ok (.iload 6, 2) := by decide +kernel
theorem dX4_followLine_150 : decode cX4_followLine 150 = .ok (.iastore, 1) := by decide +kernel
theorem dX4_followLine_151 : decode cX4_followLine 151 = .ok (.aload_n 0, 1) := by decide +kernel
theorem dX4_followLine_152 : decode cX4_followLine 152 = .ok (.getfield 15, 3) := by decide +kernel
theorem dX4_followLine_155 : decode cX4_followLine 155 = .ok (.iload_n 2, 1) := by decide +kernel
theorem dX4_followLine_156 : decode cX4_followLine 156 = .ok (.iload 7, 2) := by decide +kernel
theorem dX4_followLine_158 : decode cX4_followLine 158 = .ok (.iastore, 1) := by decide +kernel
theorem dX4_followLine_159 : decode cX4_followLine 159 = .ok (.aload_n 0, 1) := by decide +kernel
theorem dX4_followLine_160 : decode cX4_followLine 160 = .ok (.iload_n 2, 1) := by decide +kernel
theorem dX4_followLine_161 : decode cX4_followLine 161 = .ok (.iload_n 3, 1) := by decide +kernel
theorem dX4_followLine_162 : decode cX4_followLine 162 = .ok (.iload 6, 2) := by decide +kernel
theorem dX4_followLine_164 : decode cX4_followLine 164 = .ok (.invokestatic 64, 3) := by decide +kernel
theorem dX4_followLine_167 : decode cX4_followLine 167 = .ok (.ifCond .eq 7, 3) := by decide +kernel
theorem dX4_followLine_170 : decode cX4_followLine 170 = .ok (.iconst 2, 1) := by decide +kernel
theorem dX4_followLine_171 : decode cX4_followLine 171 = .ok (.goto 4, 3) := by decide +kernel
theorem dX4_followLine_174 : decode cX4_followLine 174 = .ok (.iconst 0, 1) := by decide +kernel
theorem dX4_followLine_175 : decode cX4_followLine 175 = .ok (.invokevirtual 57, 3) := by decide +kernel
theorem dX4_followLine_178 : decode cX4_followLine 178 = .ok (.return_, 1) := by decide +kernel
set_option maxRecDepth 20000 in
theorem ggX4_rise_J9_floorDiv_7cf53 : GoodIn wsX4_rise wsJ9_floorDiv_7cf53 := goodIn_r _ [4] (by decide +kernel) (by decide +kernel)
set_option maxRecDepth 20000 in
theorem gX4_rise_J9_floorDiv_7cf53 : GoodIn wsX4_rise (va_wsS RX4 67 yJ9_floorDiv_7cf53 wsJ9_floorDiv_7cf53) := goodIn_app (goodIn_of _ (by decide +kernel)) ggX4_rise_J9_floorDiv_7cf53
theorem dX4_rise_0 : decode cX4_rise 0 = .ok (.iload_n 0, 1) := by decide +kernel
theorem dX4_rise_1 : decode cX4_rise 1 = .ok (.iload_n 1, 1) := by decide +kernel
theorem dX4_rise_2 : decode cX4_rise 2 = .ok (.imul, 1) := by decide +kernel
theorem dX4_rise_3 : decode cX4_rise 3 = .ok (.sipush 1000, 3) := by decide +kernel
theorem dX4_rise_6 : decode cX4_rise 6 = .ok (.invokestatic 67, 3) := by decide +kernel
theorem dX4_rise_9 : decode cX4_rise 9 = .ok (.ireturn, 1) := by decide +kernel
set_option maxRecDepth 20000 in
theorem ggX4_finish_X6_within : GoodIn wsX4_finish wsX6_within := goodIn_r _ [5] (by decide +kernel) (by decide +kernel)
set_option maxRecDepth 20000 in
theorem gX4_finish_X6_within_n72 : GoodIn wsX4_finish (wsX6_within) := ggX4_finish_X6_within
theorem dX4_finish_0 : decode cX4_finish 0 = .ok (.iload_n 1, 1) := by decide +kernel
theorem dX4_finish_1 : decode cX4_finish 1 = .ok (.iconst 0, 1) := by decide +kernel
theorem dX4_finish_2 : decode cX4_finish 2 = .ok (.bipush 7, 2) := by decide +kernel
theorem dX4_finish_4 : decode cX4_finish 4 = .ok (.invokestatic 72, 3) := by decide +kernel
theorem dX4_finish_7 : decode cX4_finish 7 = .ok (.ifCond .ne 4, 3) := by decide +kernel
theorem dX4_finish_10 : decode cX4_finish 10 = .ok (.return_, 1) := by decide +kernel
theorem dX4_finish_11 : decode cX4_finish 11 = .ok (.aload_n 0, 1) := by decide +kernel
theorem dX4_finish_12 : decode cX4_finish 12 = .ok (.getfield 18, 3) := by decide +kernel
theorem dX4_finish_15 : decode cX4_finish 15 = .ok (.iload_n 1, 1) := by decide +kernel
theorem dX4_finish_16 : decode cX4_finish 16 = .ok (.iload_n 2, 1) := by decide +kernel
theorem dX4_finish_17 : decode cX4_finish 17 = .ok (.iastore, 1) := by decide +kernel
theorem dX4_finish_18 : decode cX4_finish 18 = .ok (.aload_n 0, 1) := by decide +kernel
theorem dX4_finish_19 : decode cX4_finish 19 = .ok (.getfield 21, 3) := by decide +kernel
theorem dX4_finish_22 : decode cX4_finish 22 = .ok (.iload_n 1, 1) := by decide +kernel
theorem dX4_finish_23 : decode cX4_finish 23 = .ok (.iload_n 3, 1) := by decide +kernel
theorem dX4_finish_24 : decode cX4_finish 24 = .ok (.iastore, 1) := by decide +kernel
theorem dX4_finish_25 : decode cX4_finish 25 = .ok (.return_, 1) := by decide +kernel
theorem dX4_has_0 : decode cX4_has 0 = .ok (.iload_n 1, 1) := by decide +kernel
theorem dX4_has_1 : decode cX4_has 1 = .ok (.ifCond .lt 21, 3) := by decide +kernel
theorem dX4_has_4 : decode cX4_has 4 = .ok (.iload_n 1, 1) := by decide +kernel
theorem dX4_has_5 : decode cX4_has 5 = .ok (.aload_n 0, 1) := by decide +kernel
theorem dX4_has_6 : decode cX4_has 6 = .ok (.getfield 24, 3) := by decide +kernel
theorem dX4_has_9 : decode cX4_has 9 = .ok (.if_icmp .ge 13, 3) := by decide +kernel
theorem dX4_has_12 : decode cX4_has 12 = .ok (.iload_n 1, 1) := by decide +kernel
theorem dX4_has_13 : decode cX4_has 13 = .ok (.bipush 8, 2) := by decide +kernel
theorem dX4_has_15 : decode cX4_has 15 = .ok (.if_icmp .ge 7, 3) := by decide +kernel
theorem dX4_has_18 : decode cX4_has 18 = .ok (.iconst 1, 1) := by decide +kernel
theorem dX4_has_19 : decode cX4_has 19 = .ok (.goto 4, 3) := by decide +kernel
theorem dX4_has_22 : decode cX4_has 22 = .ok (.iconst 0, 1) := by decide +kernel
theorem dX4_has_23 : decode cX4_has 23 = .ok (.ireturn, 1) := by decide +kernel
theorem dX4_comes_0 : decode cX4_comes 0 = .ok (.iload_n 1, 1) := by decide +kernel
theorem dX4_comes_1 : decode cX4_comes 1 = .ok (.ifCond .lt 22, 3) := by decide +kernel
theorem dX4_comes_4 : decode cX4_comes 4 = .ok (.iload_n 1, 1) := by decide +kernel
theorem dX4_comes_5 : decode cX4_comes 5 = .ok (.bipush 8, 2) := by decide +kernel
theorem dX4_comes_7 : decode cX4_comes 7 = .ok (.if_icmp .ge 16, 3) := by decide +kernel
theorem dX4_comes_10 : decode cX4_comes 10 = .ok (.aload_n 0, 1) := by decide +kernel
theorem dX4_comes_11 : decode cX4_comes 11 = .ok (.getfield 21, 3) := by decide +kernel
theorem dX4_comes_14 : decode cX4_comes 14 = .ok (.iload_n 1, 1) := by decide +kernel
theorem dX4_comes_15 : decode cX4_comes 15 = .ok (.iaload, 1) := by decide +kernel
theorem dX4_comes_16 : decode cX4_comes 16 = .ok (.ifCond .ne 7, 3) := by decide +kernel
theorem dX4_comes_19 : decode cX4_comes 19 = .ok (.iconst 1, 1) := by decide +kernel
theorem dX4_comes_20 : decode cX4_comes 20 = .ok (.goto 4, 3) := by decide +kernel
theorem dX4_comes_23 : decode cX4_comes 23 = .ok (.iconst 0, 1) := by decide +kernel
theorem dX4_comes_24 : decode cX4_comes 24 = .ok (.ireturn, 1) := by decide +kernel
set_option maxRecDepth 20000 in
theorem ggX4_linesOnScreen_X4_has : GoodIn wsX4_linesOnScreen wsX4_has := goodIn_r _ [5, 6, 12, 13, 14, 15, 16] (by decide +kernel) (by decide +kernel)
set_option maxRecDepth 20000 in
theorem gX4_linesOnScreen_X4_has : GoodIn wsX4_linesOnScreen (wsV RX4 76 RX4 yX4_has wsX4_has) := goodIn_app (goodIn_of _ (by decide +kernel)) ggX4_linesOnScreen_X4_has
set_option maxRecDepth 20000 in
theorem ggX4_linesOnScreen_X4_comes : GoodIn wsX4_linesOnScreen wsX4_comes := goodIn_r _ [10, 11, 12, 13, 14, 15, 16] (by decide +kernel) (by decide +kernel)
set_option maxRecDepth 20000 in
theorem gX4_linesOnScreen_X4_comes : GoodIn wsX4_linesOnScreen (wsV RX4 79 RX4 yX4_comes wsX4_comes) := goodIn_app (goodIn_of _ (by decide +kernel)) ggX4_linesOnScreen_X4_comes
theorem dX4_linesOnScreen_0 : decode cX4_linesOnScreen 0 = .ok (.iconst 0, 1) := by decide +kernel
theorem dX4_linesOnScreen_1 : decode cX4_linesOnScreen 1 = .ok (.istore_n 1, 1) := by decide +kernel
theorem dX4_linesOnScreen_2 : decode cX4_linesOnScreen 2 = .ok (.iconst 0, 1) := by decide +kernel
theorem dX4_linesOnScreen_3 : decode cX4_linesOnScreen 3 = .ok (.istore_n 2, 1) := by decide +kernel
theorem dX4_linesOnScreen_4 : decode cX4_linesOnScreen 4 = .ok (.iload_n 2, 1) := by decide +kernel
theorem dX4_linesOnScreen_5 : decode cX4_linesOnScreen 5 = .ok (.bipush 8, 2) := by decide +kernel
theorem dX4_linesOnScreen_7 : decode cX4_linesOnScreen 7 = .ok (.if_icmp .ge 31, 3) := by decide +kernel
theorem dX4_linesOnScreen_10 : decode cX4_linesOnScreen 10 = .ok (.aload_n 0, 1) := by decide +kernel
theorem dX4_linesOnScreen_11 : decode cX4_linesOnScreen 11 = .ok (.iload_n 2, 1) := by decide +kernel
theorem dX4_linesOnScreen_12 : decode cX4_linesOnScreen 12 = .ok (.invokevirtual 76, 3) := by decide +kernel
theorem dX4_linesOnScreen_15 : decode cX4_linesOnScreen 15 = .ok (.ifCond .eq 23, 3) := by decide +kernel
theorem dX4_linesOnScreen_18 : decode cX4_linesOnScreen 18 = .ok (.aload_n 0, 1) := by decide +kernel
theorem dX4_linesOnScreen_19 : decode cX4_linesOnScreen 19 = .ok (.iload_n 2, 1) := by decide +kernel
theorem dX4_linesOnScreen_20 : decode cX4_linesOnScreen 20 = .ok (.invokevirtual 79, 3) := by decide +kernel
theorem dX4_linesOnScreen_23 : decode cX4_linesOnScreen 23 = .ok (.ifCond .eq 9, 3) := by decide +kernel
theorem dX4_linesOnScreen_26 : decode cX4_linesOnScreen 26 = .ok (.iload_n 1, 1) := by decide +kernel
theorem dX4_linesOnScreen_27 : decode cX4_linesOnScreen 27 = .ok (.iconst 1, 1) := by decide +kernel
theorem dX4_linesOnScreen_28 : decode cX4_linesOnScreen 28 = .ok (.iload_n 2, 1) := by decide +kernel
theorem dX4_linesOnScreen_29 : decode cX4_linesOnScreen 29 = .ok (.ishl, 1) := by decide +kernel
theorem dX4_linesOnScreen_30 : decode cX4_linesOnScreen 30 = .ok (.ior, 1) := by decide +kernel
theorem dX4_linesOnScreen_31 : decode cX4_linesOnScreen 31 = .ok (.istore_n 1, 1) := by decide +kernel
theorem dX4_linesOnScreen_32 : decode cX4_linesOnScreen 32 = .ok (.iinc 2 1, 3) := by decide +kernel
theorem dX4_linesOnScreen_35 : decode cX4_linesOnScreen 35 = .ok (.goto (-31), 3) := by decide +kernel
theorem dX4_linesOnScreen_38 : decode cX4_linesOnScreen 38 = .ok (.iload_n 1, 1) := by decide +kernel
theorem dX4_linesOnScreen_39 : decode cX4_linesOnScreen 39 = .ok (.ireturn, 1) := by decide +kernel
set_option maxRecDepth 20000 in
theorem ggX4_linesAt_X0_hasLine : GoodIn wsX4_linesAt wsX0_hasLine := goodIn_r _ [7, 8, 19, 20, 21, 22, 23, 24, 25, 26, 27, 28] (by decide +kernel) (by decide +kernel)
set_option maxRecDepth 20000 in
theorem gX4_linesAt_X0_hasLine : GoodIn wsX4_linesAt (wsV RX4 28 RX0 yX0_hasLine wsX0_hasLine) := goodIn_app (goodIn_of _ (by decide +kernel)) ggX4_linesAt_X0_hasLine
set_option maxRecDepth 20000 in
theorem ggX4_linesAt_X4_comes : GoodIn wsX4_linesAt wsX4_comes := goodIn_r _ [13, 2, 14, 15, 16, 17, 18] (by decide +kernel) (by decide +kernel)
set_option maxRecDepth 20000 in
theorem gX4_linesAt_X4_comes : GoodIn wsX4_linesAt (wsV RX4 79 RX4 yX4_comes wsX4_comes) := goodIn_app (goodIn_of _ (by decide +kernel)) ggX4_linesAt_X4_comes
theorem dX4_linesAt_0 : decode cX4_linesAt 0 = .ok (.iconst 0, 1) := by decide +kernel
theorem dX4_linesAt_1 : decode cX4_linesAt 1 = .ok (.istore_n 3, 1) := by decide +kernel
theorem dX4_linesAt_2 : decode cX4_linesAt 2 = .ok (.iconst 0, 1) := by decide +kernel
theorem dX4_linesAt_3 : decode cX4_linesAt 3 = .ok (.istore 4, 2) := by decide +kernel
theorem dX4_linesAt_5 : decode cX4_linesAt 5 = .ok (.iload 4, 2) := by decide +kernel
theorem dX4_linesAt_7 : decode cX4_linesAt 7 = .ok (.bipush 8, 2) := by decide +kernel
theorem dX4_linesAt_9 : decode cX4_linesAt 9 = .ok (.if_icmp .ge 91, 3) := by decide +kernel
theorem dX4_linesAt_12 : decode cX4_linesAt 12 = .ok (.aload_n 1, 1) := by decide +kernel
theorem dX4_linesAt_13 : decode cX4_linesAt 13 = .ok (.iload 4, 2) := by decide +kernel
theorem dX4_linesAt_15 : decode cX4_linesAt 15 = .ok (.invokevirtual 28, 3) := by decide +kernel
theorem dX4_linesAt_18 : decode cX4_linesAt 18 = .ok (.ifCond .eq 82, 3) := by decide +kernel
theorem dX4_linesAt_21 : decode cX4_linesAt 21 = .ok (.aload_n 0, 1) := by decide +kernel
theorem dX4_linesAt_22 : decode cX4_linesAt 22 = .ok (.iload 4, 2) := by decide +kernel
theorem dX4_linesAt_24 : decode cX4_linesAt 24 = .ok (.invokevirtual 79, 3) := by decide +kernel
theorem dX4_linesAt_27 : decode cX4_linesAt 27 = .ok (.ifCond .ne 14, 3) := by decide +kernel
theorem dX4_linesAt_30 : decode cX4_linesAt 30 = .ok (.aload_n 0, 1) := by decide +kernel
theorem dX4_linesAt_31 : decode cX4_linesAt 31 = .ok (.getfield 18, 3) := by decide +kernel
theorem dX4_linesAt_34 : decode cX4_linesAt 34 = .ok (.iload 4, 2) := by decide +kernel
theorem dX4_linesAt_36 : decode cX4_linesAt 36 = .ok (.iaload, 1) := by decide +kernel
theorem dX4_linesAt_37 : decode cX4_linesAt 37 = .ok (.iload_n 2, 1) := by decide +kernel
theorem dX4_linesAt_38 : decode cX4_linesAt 38 = .ok (.if_icmp .le 7, 3) := by decide +kernel
theorem dX4_linesAt_41 : decode cX4_linesAt 41 = .ok (.iconst 1, 1) := by decide +kernel
theorem dX4_linesAt_42 : decode cX4_linesAt 42 = .ok (.goto 4, 3) := by decide +kernel
theorem dX4_linesAt_45 : decode cX4_linesAt 45 = .ok (.iconst 0, 1) := by decide +kernel
theorem dX4_linesAt_46 : decode cX4_linesAt 46 = .ok (.istore 5, 2) := by decide +kernel
theorem dX4_linesAt_48 : decode cX4_linesAt 48 = .ok (.aload_n 0, 1) := by decide +kernel
theorem dX4_linesAt_49 : decode cX4_linesAt 49 = .ok (.getfield 18, 3) := by decide +kernel
theorem dX4_linesAt_52 : decode cX4_linesAt 52 = .ok (.iload 4, 2) := by decide +kernel
theorem dX4_linesAt_54 : decode cX4_linesAt 54 = .ok (.iaload, 1) := by decide +kernel
theorem dX4_linesAt_55 : decode cX4_linesAt 55 = .ok (.iload_n 2, 1) := by decide +kernel
theorem dX4_linesAt_56 : decode cX4_linesAt 56 = .ok (.if_icmp .ne 18, 3) := by decide +kernel
theorem dX4_linesAt_59 : decode cX4_linesAt 59 = .ok (.aload_n 0, 1) := by decide +kernel
theorem dX4_linesAt_60 : decode cX4_linesAt 60 = .ok (.getfield 21, 3) := by decide +kernel
theorem dX4_linesAt_63 : decode cX4_linesAt 63 = .ok (.iload 4, 2) := by decide +kernel
theorem dX4_linesAt_65 : decode cX4_linesAt 65 = .ok (.iaload, 1) := by decide +kernel
theorem dX4_linesAt_66 : decode cX4_linesAt 66 = .ok (.iconst 1, 1) := by decide +kernel
theorem dX4_linesAt_67 : decode cX4_linesAt 67 = .ok (.if_icmp .ne 7, 3) := by decide +kernel
theorem dX4_linesAt_70 : decode cX4_linesAt 70 = .ok (.iconst 1, 1) := by decide +kernel
theorem dX4_linesAt_71 : decode cX4_linesAt 71 = .ok (.goto 4, 3) := by decide +kernel
theorem dX4_linesAt_74 : decode cX4_linesAt 74 = .ok (.iconst 0, 1) := by decide +kernel
theorem dX4_linesAt_75 : decode cX4_linesAt 75 = .ok (.istore 6, 2) := by decide +kernel
theorem dX4_linesAt_77 : decode cX4_linesAt 77 = .ok (.iload 5, 2) := by decide +kernel
theorem dX4_linesAt_79 : decode cX4_linesAt 79 = .ok (.ifCond .ne 8, 3) := by decide +kernel
theorem dX4_linesAt_82 : decode cX4_linesAt 82 = .ok (.iload 6, 2) := by decide +kernel
theorem dX4_linesAt_84 : decode cX4_linesAt 84 = .ok (.ifCond .eq 10, 3) := by decide +kernel
theorem dX4_linesAt_87 : decode cX4_linesAt 87 = .ok (.iload_n 3, 1) := by decide +kernel
theorem dX4_linesAt_88 : decode cX4_linesAt 88 = .ok (.iconst 1, 1) := by decide +kernel
theorem dX4_linesAt_89 : decode cX4_linesAt 89 = .ok (.iload 4, 2) := by decide +kernel
theorem dX4_linesAt_91 : decode cX4_linesAt 91 = .ok (.ishl, 1) := by decide +kernel
theorem dX4_linesAt_92 : decode cX4_linesAt 92 = .ok (.ior, 1) := by decide +kernel
theorem dX4_linesAt_93 : decode cX4_linesAt 93 = .ok (.istore_n 3, 1) := by decide +kernel
theorem dX4_linesAt_94 : decode cX4_linesAt 94 = .ok (.iinc 4 1, 3) := by decide +kernel
theorem dX4_linesAt_97 : decode cX4_linesAt 97 = .ok (.goto (-92), 3) := by decide +kernel
theorem dX4_linesAt_100 : decode cX4_linesAt 100 = .ok (.iload_n 3, 1) := by decide +kernel
theorem dX4_linesAt_101 : decode cX4_linesAt 101 = .ok (.ireturn, 1) := by decide +kernel
set_option maxRecDepth 20000 in
theorem ggX4_lightLostAt_X0_hasLine : GoodIn wsX4_lightLostAt wsX0_hasLine := goodIn_r _ [7, 8, 20, 21, 22, 23, 24, 25, 26, 27, 28, 29] (by decide +kernel) (by decide +kernel)
set_option maxRecDepth 20000 in
theorem gX4_lightLostAt_X0_hasLine : GoodIn wsX4_lightLostAt (wsV RX4 28 RX0 yX0_hasLine wsX0_hasLine) := goodIn_app (goodIn_of _ (by decide +kernel)) ggX4_lightLostAt_X0_hasLine
set_option maxRecDepth 20000 in
theorem ggX4_lightLostAt_X4_comes : GoodIn wsX4_lightLostAt wsX4_comes := goodIn_r _ [13, 14, 15, 16, 17, 18, 19] (by decide +kernel) (by decide +kernel)
set_option maxRecDepth 20000 in
theorem gX4_lightLostAt_X4_comes : GoodIn wsX4_lightLostAt (wsV RX4 79 RX4 yX4_comes wsX4_comes) := goodIn_app (goodIn_of _ (by decide +kernel)) ggX4_lightLostAt_X4_comes
theorem dX4_lightLostAt_0 : decode cX4_lightLostAt 0 = .ok (.iconst 0, 1) := by decide +kernel
theorem dX4_lightLostAt_1 : decode cX4_lightLostAt 1 = .ok (.istore_n 3, 1) := by decide +kernel
theorem dX4_lightLostAt_2 : decode cX4_lightLostAt 2 = .ok (.iconst 0, 1) := by decide +kernel
theorem dX4_lightLostAt_3 : decode cX4_lightLostAt 3 = .ok (.istore 4, 2) := by decide +kernel
theorem dX4_lightLostAt_5 : decode cX4_lightLostAt 5 = .ok (.iload 4, 2) := by decide +kernel
theorem dX4_lightLostAt_7 : decode cX4_lightLostAt 7 = .ok (.bipush 8, 2) := by decide +kernel
theorem dX4_lightLostAt_9 : decode cX4_lightLostAt 9 = .ok (.if_icmp .ge 48, 3) := by decide +kernel
theorem dX4_lightLostAt_12 : decode cX4_lightLostAt 12 = .ok (.aload_n 1, 1) := by decide +kernel
theorem dX4_lightLostAt_13 : decode cX4_lightLostAt 13 = .ok (.iload 4, 2) := by decide +kernel
theorem dX4_lightLostAt_15 : decode cX4_lightLostAt 15 = .ok (.invokevirtual 28, 3) := by decide +kernel
theorem dX4_lightLostAt_18 : decode cX4_lightLostAt 18 = .ok (.ifCond .eq 39, 3) := by decide +kernel
theorem dX4_lightLostAt_21 : decode cX4_lightLostAt 21 = .ok (.aload_n 0, 1) := by decide +kernel
theorem dX4_lightLostAt_22 : decode cX4_lightLostAt 22 = .ok (.iload 4, 2) := by decide +kernel
theorem dX4_lightLostAt_24 : decode cX4_lightLostAt 24 = .ok (.invokevirtual 79, 3) := by decide +kernel
theorem dX4_lightLostAt_27 : decode cX4_lightLostAt 27 = .ok (.ifCond .ne 24, 3) := by decide +kernel
theorem dX4_lightLostAt_30 : decode cX4_lightLostAt 30 = .ok (.aload_n 0, 1) := by decide +kernel
theorem dX4_lightLostAt_31 : decode cX4_lightLostAt 31 = .ok (.getfield 18, 3) := by decide +kernel
theorem dX4_lightLostAt_34 : decode cX4_lightLostAt 34 = .ok (.iload 4, 2) := by decide +kernel
theorem dX4_lightLostAt_36 : decode cX4_lightLostAt 36 = .ok (.iaload, 1) := by decide +kernel
theorem dX4_lightLostAt_37 : decode cX4_lightLostAt 37 = .ok (.iload_n 2, 1) := by decide +kernel
theorem dX4_lightLostAt_38 : decode cX4_lightLostAt 38 = .ok (.if_icmp .ne 13, 3) := by decide +kernel
theorem dX4_lightLostAt_41 : decode cX4_lightLostAt 41 = .ok (.iload_n 3, 1) := by decide +kernel
theorem dX4_lightLostAt_42 : decode cX4_lightLostAt 42 = .ok (.aload_n 1, 1) := by decide +kernel
theorem dX4_lightLostAt_43 : decode cX4_lightLostAt 43 = .ok (.getfield 82, 3) := by decide +kernel
theorem dX4_lightLostAt_46 : decode cX4_lightLostAt 46 = .ok (.iload 4, 2) := by decide +kernel
theorem dX4_lightLostAt_48 : decode cX4_lightLostAt 48 = .ok (.iaload, 1) := by decide +kernel
theorem dX4_lightLostAt_49 : decode cX4_lightLostAt 49 = .ok (.iadd, 1) := by decide +kernel
theorem dX4_lightLostAt_50 : decode cX4_lightLostAt 50 = .ok (.istore_n 3, 1) := by decide +kernel
theorem dX4_lightLostAt_51 : decode cX4_lightLostAt 51 = .ok (.iinc 4 1, 3) := by decide +kernel
theorem dX4_lightLostAt_54 : decode cX4_lightLostAt 54 = .ok (.goto (-49), 3) := by decide +kernel
theorem dX4_lightLostAt_57 : decode cX4_lightLostAt 57 = .ok (.iload_n 3, 1) := by decide +kernel
theorem dX4_lightLostAt_58 : decode cX4_lightLostAt 58 = .ok (.ireturn, 1) := by decide +kernel
set_option maxRecDepth 20000 in
theorem ggX4_lightOnScreen_X0_hasLine : GoodIn wsX4_lightOnScreen wsX0_hasLine := goodIn_r _ [6, 7, 14, 15, 16, 17, 18, 19, 20, 21, 22, 23] (by decide +kernel) (by decide +kernel)
set_option maxRecDepth 20000 in
theorem gX4_lightOnScreen_X0_hasLine : GoodIn wsX4_lightOnScreen (wsV RX4 28 RX0 yX0_hasLine wsX0_hasLine) := goodIn_app (goodIn_of _ (by decide +kernel)) ggX4_lightOnScreen_X0_hasLine
set_option maxRecDepth 20000 in
theorem ggX4_lightOnScreen_X4_comes : GoodIn wsX4_lightOnScreen wsX4_comes := goodIn_r _ [12, 13, 24, 25, 26, 27, 28] (by decide +kernel) (by decide +kernel)
set_option maxRecDepth 20000 in
theorem gX4_lightOnScreen_X4_comes : GoodIn wsX4_lightOnScreen (wsV RX4 79 RX4 yX4_comes wsX4_comes) := goodIn_app (goodIn_of _ (by decide +kernel)) ggX4_lightOnScreen_X4_comes
theorem dX4_lightOnScreen_0 : decode cX4_lightOnScreen 0 = .ok (.iconst 0, 1) := by decide +kernel
theorem dX4_lightOnScreen_1 : decode cX4_lightOnScreen 1 = .ok (.istore_n 2, 1) := by decide +kernel
theorem dX4_lightOnScreen_2 : decode cX4_lightOnScreen 2 = .ok (.iconst 0, 1) := by decide +kernel
theorem dX4_lightOnScreen_3 : decode cX4_lightOnScreen 3 = .ok (.istore_n 3, 1) := by decide +kernel
theorem dX4_lightOnScreen_4 : decode cX4_lightOnScreen 4 = .ok (.iload_n 3, 1) := by decide +kernel
theorem dX4_lightOnScreen_5 : decode cX4_lightOnScreen 5 = .ok (.bipush 8, 2) := by decide +kernel
theorem dX4_lightOnScreen_7 : decode cX4_lightOnScreen 7 = .ok (.if_icmp .ge 34, 3) := by decide +kernel
theorem dX4_lightOnScreen_10 : decode cX4_lightOnScreen 10 = .ok (.aload_n 1, 1) := by decide +kernel
theorem dX4_lightOnScreen_11 : decode cX4_lightOnScreen 11 = .ok (.iload_n 3, 1) := by decide +kernel
theorem dX4_lightOnScreen_12 : decode cX4_lightOnScreen 12 = .ok (.invokevirtual 28, 3) := by decide +kernel
theorem dX4_lightOnScreen_15 : decode cX4_lightOnScreen 15 = .ok (.ifCond .eq 26, 3) := by decide +kernel
theorem dX4_lightOnScreen_18 : decode cX4_lightOnScreen 18 = .ok (.aload_n 0, 1) := by decide +kernel
theorem dX4_lightOnScreen_19 : decode cX4_lightOnScreen 19 = .ok (.iload_n 3, 1) := by decide +kernel
theorem dX4_lightOnScreen_20 : decode cX4_lightOnScreen 20 = .ok (.invokevirtual 79, 3) := by decide +kernel
theorem dX4_lightOnScreen_23 : decode cX4_lightOnScreen 23 = .ok (.ifCond .eq 12, 3) := by decide +kernel
theorem dX4_lightOnScreen_26 : decode cX4_lightOnScreen 26 = .ok (.iload_n 2, 1) := by decide +kernel
theorem dX4_lightOnScreen_27 : decode cX4_lightOnScreen 27 = .ok (.aload_n 1, 1) := by decide +kernel
theorem dX4_lightOnScreen_28 : decode cX4_lightOnScreen 28 = .ok (.getfield 82, 3) := by decide +kernel
theorem dX4_lightOnScreen_31 : decode cX4_lightOnScreen 31 = .ok (.iload_n 3, 1) := by decide +kernel
theorem dX4_lightOnScreen_32 : decode cX4_lightOnScreen 32 = .ok (.iaload, 1) := by decide +kernel
theorem dX4_lightOnScreen_33 : decode cX4_lightOnScreen 33 = .ok (.iadd, 1) := by decide +kernel
theorem dX4_lightOnScreen_34 : decode cX4_lightOnScreen 34 = .ok (.istore_n 2, 1) := by decide +kernel
theorem dX4_lightOnScreen_35 : decode cX4_lightOnScreen 35 = .ok (.iinc 3 1, 3) := by decide +kernel
theorem dX4_lightOnScreen_38 : decode cX4_lightOnScreen 38 = .ok (.goto (-34), 3) := by decide +kernel
theorem dX4_lightOnScreen_41 : decode cX4_lightOnScreen 41 = .ok (.iload_n 2, 1) := by decide +kernel
theorem dX4_lightOnScreen_42 : decode cX4_lightOnScreen 42 = .ok (.ireturn, 1) := by decide +kernel
set_option maxRecDepth 20000 in
theorem ggX4_spread_X4_has : GoodIn wsX4_spread wsX4_has := goodIn_r _ [13, 14, 20, 21, 22, 23, 24] (by decide +kernel) (by decide +kernel)
set_option maxRecDepth 20000 in
theorem gX4_spread_X4_has : GoodIn wsX4_spread (wsV RX4 76 RX4 yX4_has wsX4_has) := goodIn_app (goodIn_of _ (by decide +kernel)) ggX4_spread_X4_has
set_option maxRecDepth 20000 in
theorem ggX4_spread_X4_comes : GoodIn wsX4_spread wsX4_comes := goodIn_r _ [18, 19, 20, 21, 22, 23, 24] (by decide +kernel) (by decide +kernel)
set_option maxRecDepth 20000 in
theorem gX4_spread_X4_comes : GoodIn wsX4_spread (wsV RX4 79 RX4 yX4_comes wsX4_comes) := goodIn_app (goodIn_of _ (by decide +kernel)) ggX4_spread_X4_comes
theorem dX4_spread_0 : decode cX4_spread 0 = .ok (.sipush 999, 3) := by decide +kernel
theorem dX4_spread_3 : decode cX4_spread 3 = .ok (.istore_n 1, 1) := by decide +kernel
theorem dX4_spread_4 : decode cX4_spread 4 = .ok (.sipush (-999), 3) := by decide +kernel
theorem dX4_spread_7 : decode cX4_spread 7 = .ok (.istore_n 2, 1) := by decide +kernel
theorem dX4_spread_8 : decode cX4_spread 8 = .ok (.iconst 0, 1) := by decide +kernel
theorem dX4_spread_9 : decode cX4_spread 9 = .ok (.istore_n 3, 1) := by decide +kernel
theorem dX4_spread_10 : decode cX4_spread 10 = .ok (.iload_n 3, 1) := by decide +kernel
theorem dX4_spread_11 : decode cX4_spread 11 = .ok (.bipush 8, 2) := by decide +kernel
theorem dX4_spread_13 : decode cX4_spread 13 = .ok (.if_icmp .ge 47, 3) := by decide +kernel
theorem dX4_spread_16 : decode cX4_spread 16 = .ok (.aload_n 0, 1) := by decide +kernel
theorem dX4_spread_17 : decode cX4_spread 17 = .ok (.iload_n 3, 1) := by decide +kernel
theorem dX4_spread_18 : decode cX4_spread 18 = .ok (.invokevirtual 76, 3) := by decide +kernel
theorem dX4_spread_21 : decode cX4_spread 21 = .ok (.ifCond .eq 39, 3) := by decide +kernel
theorem dX4_spread_24 : decode cX4_spread 24 = .ok (.aload_n 0, 1) := by decide +kernel
theorem dX4_spread_25 : decode cX4_spread 25 = .ok (.iload_n 3, 1) := by decide +kernel
theorem dX4_spread_26 : decode cX4_spread 26 = .ok (.invokevirtual 79, 3) := by decide +kernel
theorem dX4_spread_29 : decode cX4_spread 29 = .ok (.ifCond .eq 25, 3) := by decide +kernel
theorem dX4_spread_32 : decode cX4_spread 32 = .ok (.iload_n 1, 1) := by decide +kernel
theorem dX4_spread_33 : decode cX4_spread 33 = .ok (.aload_n 0, 1) := by decide +kernel
theorem dX4_spread_34 : decode cX4_spread 34 = .ok (.getfield 9, 3) := by decide +kernel
theorem dX4_spread_37 : decode cX4_spread 37 = .ok (.iload_n 3, 1) := by decide +kernel
theorem dX4_spread_38 : decode cX4_spread 38 = .ok (.iaload, 1) := by decide +kernel
theorem dX4_spread_39 : decode cX4_spread 39 = .ok (.invokestatic 85, 3) := by decide +kernel
theorem dX4_spread_42 : decode cX4_spread 42 = .ok (.istore_n 1, 1) := by decide +kernel
theorem dX4_spread_43 : decode cX4_spread 43 = .ok (.iload_n 2, 1) := by decide +kernel
theorem dX4_spread_44 : decode cX4_spread 44 = .ok (.aload_n 0, 1) := by decide +kernel
theorem dX4_spread_45 : decode cX4_spread 45 = .ok (.getfield 9, 3) := by decide +kernel
theorem dX4_spread_48 : decode cX4_spread 48 = .ok (.iload_n 3, 1) := by decide +kernel
theorem dX4_spread_49 : decode cX4_spread 49 = .ok (.iaload, 1) := by decide +kernel
theorem dX4_spread_50 : decode cX4_spread 50 = .ok (.invokestatic 88, 3) := by decide +kernel
theorem dX4_spread_53 : decode cX4_spread 53 = .ok (.istore_n 2, 1) := by decide +kernel
theorem dX4_spread_54 : decode cX4_spread 54 = .ok (.iinc 3 1, 3) := by decide +kernel
theorem dX4_spread_57 : decode cX4_spread 57 = .ok (.goto (-47), 3) := by decide +kernel
theorem dX4_spread_60 : decode cX4_spread 60 = .ok (.iload_n 2, 1) := by decide +kernel
theorem dX4_spread_61 : decode cX4_spread 61 = .ok (.iload_n 1, 1) := by decide +kernel
theorem dX4_spread_62 : decode cX4_spread 62 = .ok (.if_icmp .ge 7, 3) := by decide +kernel
theorem dX4_spread_65 : decode cX4_spread 65 = .ok (.iconst 0, 1) := by decide +kernel
theorem dX4_spread_66 : decode cX4_spread 66 = .ok (.goto 6, 3) := by decide +kernel
theorem dX4_spread_69 : decode cX4_spread 69 = .ok (.iload_n 2, 1) := by decide +kernel
theorem dX4_spread_70 : decode cX4_spread 70 = .ok (.iload_n 1, 1) := by decide +kernel
theorem dX4_spread_71 : decode cX4_spread 71 = .ok (.isub, 1) := by decide +kernel
theorem dX4_spread_72 : decode cX4_spread 72 = .ok (.ireturn, 1) := by decide +kernel
set_option maxRecDepth 20000 in
theorem ggX4_slopesAreSame_X4_has : GoodIn wsX4_slopesAreSame wsX4_has := goodIn_r _ [6, 7, 8, 9, 10, 11, 12] (by decide +kernel) (by decide +kernel)
set_option maxRecDepth 20000 in
theorem gX4_slopesAreSame_X4_has : GoodIn wsX4_slopesAreSame (wsV RX4 76 RX4 yX4_has wsX4_has) := goodIn_app (goodIn_of _ (by decide +kernel)) ggX4_slopesAreSame_X4_has
theorem dX4_slopesAreSame_0 : decode cX4_slopesAreSame 0 = .ok (.iconst 1, 1) := by decide +kernel
theorem dX4_slopesAreSame_1 : decode cX4_slopesAreSame 1 = .ok (.istore_n 1, 1) := by decide +kernel
theorem dX4_slopesAreSame_2 : decode cX4_slopesAreSame 2 = .ok (.iload_n 1, 1) := by decide +kernel
theorem dX4_slopesAreSame_3 : decode cX4_slopesAreSame 3 = .ok (.bipush 8, 2) := by decide +kernel
theorem dX4_slopesAreSame_5 : decode cX4_slopesAreSame 5 = .ok (.if_icmp .ge 34, 3) := by decide +kernel
theorem dX4_slopesAreSame_8 : decode cX4_slopesAreSame 8 = .ok (.aload_n 0, 1) := by decide +kernel
theorem dX4_slopesAreSame_9 : decode cX4_slopesAreSame 9 = .ok (.iload_n 1, 1) := by decide +kernel
theorem dX4_slopesAreSame_10 : decode cX4_slopesAreSame 10 = .ok (.invokevirtual 76, 3) := by decide +kernel
theorem dX4_slopesAreSame_13 : decode cX4_slopesAreSame 13 = .ok (.ifCond .eq 26, 3) := by decide +kernel
theorem dX4_slopesAreSame_16 : decode cX4_slopesAreSame 16 = .ok (.aload_n 0, 1) := by decide +kernel
theorem dX4_slopesAreSame_17 : decode cX4_slopesAreSame 17 = .ok (.getfield 15, 3) := by decide +kernel
theorem dX4_slopesAreSame_20 : decode cX4_slopesAreSame 20 = .ok (.iload_n 1, 1) := by decide +kernel
theorem dX4_slopesAreSame_21 : decode cX4_slopesAreSame 21 = .ok (.iaload, 1) := by decide +kernel
theorem dX4_slopesAreSame_22 : decode cX4_slopesAreSame 22 = .ok (.aload_n 0, 1) := by decide +kernel
theorem dX4_slopesAreSame_23 : decode cX4_slopesAreSame 23 = .ok (.getfield 15, 3) := by decide +kernel
theorem dX4_slopesAreSame_26 : decode cX4_slopesAreSame 26 = .ok (.iconst 0, 1) := by decide +kernel
theorem dX4_slopesAreSame_27 : decode cX4_slopesAreSame 27 = .ok (.iaload, 1) := by decide +kernel
theorem dX4_slopesAreSame_28 : decode cX4_slopesAreSame 28 = .ok (.if_icmp .eq 5, 3) := by decide +kernel
theorem dX4_slopesAreSame_31 : decode cX4_slopesAreSame 31 = .ok (.iconst 0, 1) := by decide +kernel
theorem dX4_slopesAreSame_32 : decode cX4_slopesAreSame 32 = .ok (.ireturn, 1) := by decide +kernel
theorem dX4_slopesAreSame_33 : decode cX4_slopesAreSame 33 = .ok (.iinc 1 1, 3) := by decide +kernel
theorem dX4_slopesAreSame_36 : decode cX4_slopesAreSame 36 = .ok (.goto (-34), 3) := by decide +kernel
theorem dX4_slopesAreSame_39 : decode cX4_slopesAreSame 39 = .ok (.iconst 1, 1) := by decide +kernel
theorem dX4_slopesAreSame_40 : decode cX4_slopesAreSame 40 = .ok (.ireturn, 1) := by decide +kernel
theorem dX5_init_0 : decode cX5_init 0 = .ok (.aload_n 0, 1) := by decide +kernel
theorem dX5_init_1 : decode cX5_init 1 = .ok (.invokespecial 3, 3) := by decide +kernel
theorem dX5_init_4 : decode cX5_init 4 = .ok (.aload_n 0, 1) := by decide +kernel
theorem dX5_init_5 : decode cX5_init 5 = .ok (.bipush 60, 2) := by decide +kernel
theorem dX5_init_7 : decode cX5_init 7 = .ok (.newarray .char, 2) := by decide +kernel
theorem dX5_init_9 : decode cX5_init 9 = .ok (.putfield 9, 3) := by decide +kernel
theorem dX5_init_12 : decode cX5_init 12 = .ok (.aload_n 0, 1) := by decide +kernel
theorem dX5_init_13 : decode cX5_init 13 = .ok (.iconst 0, 1) := by decide +kernel
theorem dX5_init_14 : decode cX5_init 14 = .ok (.putfield 15, 3) := by decide +kernel
theorem dX5_init_17 : decode cX5_init 17 = .ok (.aload_n 0, 1) := by decide +kernel
theorem dX5_init_18 : decode cX5_init 18 = .ok (.iconst 0, 1) := by decide +kernel
theorem dX5_init_19 : decode cX5_init 19 = .ok (.putfield 19, 3) := by decide +kernel
theorem dX5_init_22 : decode cX5_init 22 = .ok (.aload_n 0, 1) := by decide +kernel
theorem dX5_init_23 : decode cX5_init 23 = .ok (.iconst 3, 1) := by decide +kernel
theorem dX5_init_24 : decode cX5_init 24 = .ok (.newarray .int, 2) := by decide +kernel
theorem dX5_init_26 : decode cX5_init 26 = .ok (.putfield 23, 3) := by decide +kernel
theorem dX5_init_29 : decode cX5_init 29 = .ok (.aload_n 0, 1) := by decide +kernel
theorem dX5_init_30 : decode cX5_init 30 = .ok (.iconst 0, 1) := by decide +kernel
theorem dX5_init_31 : decode cX5_init 31 = .ok (.putfield 27, 3) := by decide +kernel
theorem dX5_init_34 : decode cX5_init 34 = .ok (.return_, 1) := by decide +kernel
theorem dX5_append_0 : decode cX5_append 0 = .ok (.aload_n 0, 1) := by decide +kernel
theorem dX5_append_1 : decode cX5_append 1 = .ok (.getfield 15, 3) := by decide +kernel
theorem dX5_append_4 : decode cX5_append 4 = .ok (.ifCond .lt 12, 3) := by decide +kernel
theorem dX5_append_7 : decode cX5_append 7 = .ok (.aload_n 0, 1) := by decide +kernel
theorem dX5_append_8 : decode cX5_append 8 = .ok (.getfield 15, 3) := by decide +kernel
theorem dX5_append_11 : decode cX5_append 11 = .ok (.bipush 60, 2) := by decide +kernel
theorem dX5_append_13 : decode cX5_append 13 = .ok (.if_icmp .lt 5, 3) := by decide +kernel
theorem dX5_append_16 : decode cX5_append 16 = .ok (.iconst 0, 1) := by decide +kernel
theorem dX5_append_17 : decode cX5_append 17 = .ok (.ireturn, 1) := by decide +kernel
theorem dX5_append_18 : decode cX5_append 18 = .ok (.aload_n 0, 1) := by decide +kernel
theorem dX5_append_19 : decode cX5_append 19 = .ok (.getfield 9, 3) := by decide +kernel
theorem dX5_append_22 : decode cX5_append 22 = .ok (.aload_n 0, 1) := by decide +kernel
theorem dX5_append_23 : decode cX5_append 23 = .ok (.getfield 15, 3) := by decide +kernel
theorem dX5_append_26 : decode cX5_append 26 = .ok (.iload_n 1, 1) := by decide +kernel
theorem dX5_append_27 : decode cX5_append 27 = .ok (.castore, 1) := by decide +kernel
theorem dX5_append_28 : decode cX5_append 28 = .ok (.aload_n 0, 1) := by decide +kernel
theorem dX5_append_29 : decode cX5_append 29 = .ok (.dup, 1) := by decide +kernel
theorem dX5_append_30 : decode cX5_append 30 = .ok (.getfield 15, 3) := by decide +kernel
theorem dX5_append_33 : decode cX5_append 33 = .ok (.iconst 1, 1) := by decide +kernel
theorem dX5_append_34 : decode cX5_append 34 = .ok (.iadd, 1) := by decide +kernel
theorem dX5_append_35 : decode cX5_append 35 = .ok (.putfield 15, 3) := by decide +kernel
theorem dX5_append_38 : decode cX5_append 38 = .ok (.iconst 1, 1) := by decide +kernel
theorem dX5_append_39 : decode cX5_append 39 = .ok (.ireturn, 1) := by decide +kernel
theorem dX5_signAt_0 : decode cX5_signAt 0 = .ok (.iload_n 1, 1) := by decide +kernel
theorem dX5_signAt_1 : decode cX5_signAt 1 = .ok (.ifCond .lt 26, 3) := by decide +kernel
theorem dX5_signAt_4 : decode cX5_signAt 4 = .ok (.iload_n 1, 1) := by decide +kernel
theorem dX5_signAt_5 : decode cX5_signAt 5 = .ok (.aload_n 0, 1) := by decide +kernel
theorem dX5_signAt_6 : decode cX5_signAt 6 = .ok (.getfield 15, 3) := by decide +kernel
theorem dX5_signAt_9 : decode cX5_signAt 9 = .ok (.if_icmp .ge 18, 3) := by decide +kernel
theorem dX5_signAt_12 : decode cX5_signAt 12 = .ok (.iload_n 1, 1) := by decide +kernel
theorem dX5_signAt_13 : decode cX5_signAt 13 = .ok (.bipush 60, 2) := by decide +kernel
theorem dX5_signAt_15 : decode cX5_signAt 15 = .ok (.if_icmp .ge 12, 3) := by decide +kernel
theorem dX5_signAt_18 : decode cX5_signAt 18 = .ok (.aload_n 0, 1) := by decide +kernel
theorem dX5_signAt_19 : decode cX5_signAt 19 = .ok (.getfield 9, 3) := by decide +kernel
theorem dX5_signAt_22 : decode cX5_signAt 22 = .ok (.iload_n 1, 1) := by decide +kernel
theorem dX5_signAt_23 : decode cX5_signAt 23 = .ok (.caload, 1) := by decide +kernel
theorem dX5_signAt_24 : decode cX5_signAt 24 = .ok (.goto 4, 3) := by decide +kernel
theorem dX5_signAt_27 : decode cX5_signAt 27 = .ok (.iconst 0, 1) := by decide +kernel
theorem dX5_signAt_28 : decode cX5_signAt 28 = .ok (.ireturn, 1) := by decide +kernel
set_option maxRecDepth 20000 in
theorem ggX5_readOrder_X5_signAt : GoodIn wsX5_readOrder wsX5_signAt := goodIn_r _ [7, 8, 9, 25, 26, 27, 28, 29] (by decide +kernel) (by decide +kernel)
set_option maxRecDepth 20000 in
theorem gX5_readOrder_X5_signAt : GoodIn wsX5_readOrder (wsV RX5 30 RX5 yX5_signAt wsX5_signAt) := goodIn_app (goodIn_of _ (by decide +kernel)) ggX5_readOrder_X5_signAt
set_option maxRecDepth 20000 in
theorem ggX5_readOrder_X5_numbersOf : GoodIn wsX5_readOrder wsX5_numbersOf := goodIn_r _ [12] (by decide +kernel) (by decide +kernel)
set_option maxRecDepth 20000 in
theorem gX5_readOrder_X5_numbersOf : GoodIn wsX5_readOrder (va_wsS RX5 34 yX5_numbersOf wsX5_numbersOf) := goodIn_app (goodIn_of _ (by decide +kernel)) ggX5_readOrder_X5_numbersOf
set_option maxRecDepth 20000 in
theorem ggX5_readOrder_X5_readNumber : GoodIn wsX5_readOrder wsX5_readNumber := goodIn_r _ [16, 1, 17, 3, 4, 5, 6, 7, 8, 9, 18, 19, 20, 25, 26, 27, 28, 29] (by decide +kernel) (by decide +kernel)
set_option maxRecDepth 20000 in
theorem gX5_readOrder_X5_readNumber : GoodIn wsX5_readOrder (wsV RX5 38 RX5 yX5_readNumber wsX5_readNumber) := goodIn_app (goodIn_of _ (by decide +kernel)) ggX5_readOrder_X5_readNumber
set_option maxRecDepth 20000 in
theorem ggX5_readOrder_X5_readSign : GoodIn wsX5_readOrder wsX5_readSign := goodIn_r _ [24, 1, 3, 4, 5, 6, 7, 8, 9, 25, 26, 27, 28, 29] (by decide +kernel) (by decide +kernel)
set_option maxRecDepth 20000 in
theorem gX5_readOrder_X5_readSign : GoodIn wsX5_readOrder (wsV RX5 42 RX5 yX5_readSign wsX5_readSign) := goodIn_app (goodIn_of _ (by decide +kernel)) ggX5_readOrder_X5_readSign
theorem dX5_readOrder_0 : decode cX5_readOrder 0 = .ok (.aload_n 0, 1) := by decide +kernel
theorem dX5_readOrder_1 : decode cX5_readOrder 1 = .ok (.iload_n 1, 1) := by decide +kernel
theorem dX5_readOrder_2 : decode cX5_readOrder 2 = .ok (.putfield 27, 3) := by decide +kernel
theorem dX5_readOrder_5 : decode cX5_readOrder 5 = .ok (.aload_n 0, 1) := by decide +kernel
theorem dX5_readOrder_6 : decode cX5_readOrder 6 = .ok (.aload_n 0, 1) := by decide +kernel
theorem dX5_readOrder_7 : decode cX5_readOrder 7 = .ok (.iload_n 1, 1) := by decide +kernel
theorem dX5_readOrder_8 : decode cX5_readOrder 8 = .ok (.invokevirtual 30, 3) := by decide +kernel
theorem dX5_readOrder_11 : decode cX5_readOrder 11 = .ok (.putfield 19, 3) := by decide +kernel
theorem dX5_readOrder_14 : decode cX5_readOrder 14 = .ok (.aload_n 0, 1) := by decide +kernel
theorem dX5_readOrder_15 : decode cX5_readOrder 15 = .ok (.getfield 19, 3) := by decide +kernel
theorem dX5_readOrder_18 : decode cX5_readOrder 18 = .ok (.invokestatic 34, 3) := by decide +kernel
theorem dX5_readOrder_21 : decode cX5_readOrder 21 = .ok (.istore_n 2, 1) := by decide +kernel
theorem dX5_readOrder_22 : decode cX5_readOrder 22 = .ok (.iload_n 2, 1) := by decide +kernel
theorem dX5_readOrder_23 : decode cX5_readOrder 23 = .ok (.ifCond .ne 5, 3) := by decide +kernel
theorem dX5_readOrder_26 : decode cX5_readOrder 26 = .ok (.iconst 0, 1) := by decide +kernel
theorem dX5_readOrder_27 : decode cX5_readOrder 27 = .ok (.ireturn, 1) := by decide +kernel
theorem dX5_readOrder_28 : decode cX5_readOrder 28 = .ok (.aload_n 0, 1) := by decide +kernel
theorem dX5_readOrder_29 : decode cX5_readOrder 29 = .ok (.dup, 1) := by decide +kernel
theorem dX5_readOrder_30 : decode cX5_readOrder 30 = .ok (.getfield 27, 3) := by decide +kernel
theorem dX5_readOrder_33 : decode cX5_readOrder 33 = .ok (.iconst 1, 1) := by decide +kernel
theorem dX5_readOrder_34 : decode cX5_readOrder 34 = .ok (.iadd, 1) := by decide +kernel
theorem dX5_readOrder_35 : decode cX5_readOrder 35 = .ok (.putfield 27, 3) := by decide +kernel
theorem dX5_readOrder_38 : decode cX5_readOrder 38 = .ok (.iconst 0, 1) := by decide +kernel
theorem dX5_readOrder_39 : decode cX5_readOrder 39 = .ok (.istore_n 3, 1) := by decide +kernel
theorem dX5_readOrder_40 : decode cX5_readOrder 40 = .ok (.iload_n 3, 1) := by decide +kernel
theorem dX5_readOrder_41 : decode cX5_readOrder 41 = .ok (.iload_n 2, 1) := by decide +kernel
theorem dX5_readOrder_42 : decode cX5_readOrder 42 = .ok (.if_icmp .ge 45, 3) := by decide +kernel
theorem dX5_readOrder_45 : decode cX5_readOrder 45 = .ok (.iload_n 3, 1) := by decide +kernel
theorem dX5_readOrder_46 : decode cX5_readOrder 46 = .ok (.iconst 3, 1) := by decide +kernel
theorem dX5_readOrder_47 : decode cX5_readOrder 47 = .ok (.if_icmp .ge 40, 3) := by decide +kernel
theorem dX5_readOrder_50 : decode cX5_readOrder 50 = .ok (.aload_n 0, 1) := by decide +kernel
theorem dX5_readOrder_51 : decode cX5_readOrder 51 = .ok (.iload_n 3, 1) := by decide +kernel
theorem dX5_readOrder_52 : decode cX5_readOrder 52 = .ok (.invokevirtual 38, 3) := by decide +kernel
theorem dX5_readOrder_55 : decode cX5_readOrder 55 = .ok (.ifCond .eq 24, 3) := by decide +kernel
theorem dX5_readOrder_58 : decode cX5_readOrder 58 = .ok (.aload_n 0, 1) := by decide +kernel
theorem dX5_readOrder_59 : decode cX5_readOrder 59 = .ok (.iload_n 3, 1) := by decide +kernel
theorem dX5_readOrder_60 : decode cX5_readOrder 60 = .ok (.iload_n 2, 1) := by decide +kernel
theorem dX5_readOrder_61 : decode cX5_readOrder 61 = .ok (.iconst 1, 1) := by decide +kernel
theorem dX5_readOrder_62 : decode cX5_readOrder 62 = .ok (.isub, 1) := by decide +kernel
theorem dX5_readOrder_63 : decode cX5_readOrder 63 = .ok (.if_icmp .ne 8, 3) := by decide +kernel
theorem dX5_readOrder_66 : decode cX5_readOrder 66 = .ok (.bipush 59, 2) := by decide +kernel
theorem dX5_readOrder_68 : decode cX5_readOrder 68 = .ok (.goto 5, 3) := by decide +kernel
theorem dX5_readOrder_71 : decode cX5_readOrder 71 = .ok (.bipush 44, 2) := by decide +kernel
theorem dX5_readOrder_73 : decode cX5_readOrder 73 = .ok (.invokevirtual 42, 3) := by decide +kernel
theorem dX5_readOrder_76 : decode cX5_readOrder 76 = .ok (.ifCond .ne 5, 3) := by decide +kernel
theorem dX5_readOrder_79 : decode cX5_readOrder 79 = .ok (.iconst 0, 1) := by decide +kernel
theorem dX5_readOrder_80 : decode cX5_readOrder 80 = .ok (.ireturn, 1) := by decide +kernel
theorem dX5_readOrder_81 : decode cX5_readOrder 81 = .ok (.iinc 3 1, 3) := by decide +kernel
theorem dX5_readOrder_84 : decode cX5_readOrder 84 = .ok (.goto (-44), 3) := by decide +kernel
theorem dX5_readOrder_87 : decode cX5_readOrder 87 = .ok (.iconst 1, 1) := by decide +kernel
theorem dX5_readOrder_88 : decode cX5_readOrder 88 = .ok (.ireturn, 1) := by decide +kernel
theorem dX5_numbersOf_0 : decode cX5_numbersOf 0 = .ok (.iload_n 0, 1) := by decide +kernel
theorem dX5_numbersOf_1 : decode cX5_numbersOf 1 = .ok (.lookupswitch 57 #[(100, 55), (108, 53), (115, 53), (117, 55), (120, 51)], 51) := by decide +kernel
theorem dX5_numbersOf_52 : decode cX5_numbersOf 52 = .ok (.iconst 1, 1) := by decide +kernel
theorem dX5_numbersOf_53 : decode cX5_numbersOf 53 = .ok (.ireturn, 1) := by decide +kernel
theorem dX5_numbersOf_54 : decode cX5_numbersOf 54 = .ok (.iconst 2, 1) := by decide +kernel
theorem dX5_numbersOf_55 : decode cX5_numbersOf 55 = .ok (.ireturn, 1) := by decide +kernel
theorem dX5_numbersOf_56 : decode cX5_numbersOf 56 = .ok (.iconst 3, 1) := by decide +kernel
theorem dX5_numbersOf_57 : decode cX5_numbersOf 57 = .ok (.ireturn, 1) := by decide +kernel
theorem dX5_numbersOf_58 : decode cX5_numbersOf 58 = .ok (.iconst 0, 1) := by decide +kernel
theorem dX5_numbersOf_59 : decode cX5_numbersOf 59 = .ok (.ireturn, 1) := by decide +kernel
set_option maxRecDepth 20000 in
theorem ggX5_readNumber_X5_signAt : GoodIn wsX5_readNumber wsX5_signAt := goodIn_r _ [7, 8, 9, 13, 14, 15, 16, 17] (by decide +kernel) (by decide +kernel)
set_option maxRecDepth 20000 in
theorem gX5_readNumber_X5_signAt : GoodIn wsX5_readNumber (wsV RX5 30 RX5 yX5_signAt wsX5_signAt) := goodIn_app (goodIn_of _ (by decide +kernel)) ggX5_readNumber_X5_signAt
set_option maxRecDepth 20000 in
theorem ggX5_readNumber_X6_within : GoodIn wsX5_readNumber wsX6_within := goodIn_r _ [12] (by decide +kernel) (by decide +kernel)
set_option maxRecDepth 20000 in
theorem gX5_readNumber_X6_within_n46 : GoodIn wsX5_readNumber (wsX6_within) := ggX5_readNumber_X6_within
theorem dX5_readNumber_0 : decode cX5_readNumber 0 = .ok (.iload_n 1, 1) := by decide +kernel
theorem dX5_readNumber_1 : decode cX5_readNumber 1 = .ok (.ifCond .lt 8, 3) := by decide +kernel
theorem dX5_readNumber_4 : decode cX5_readNumber 4 = .ok (.iload_n 1, 1) := by decide +kernel
theorem dX5_readNumber_5 : decode cX5_readNumber 5 = .ok (.iconst 3, 1) := by decide +kernel
theorem dX5_readNumber_6 : decode cX5_readNumber 6 = .ok (.if_icmp .lt 5, 3) := by decide +kernel
theorem dX5_readNumber_9 : decode cX5_readNumber 9 = .ok (.iconst 0, 1) := by decide +kernel
theorem dX5_readNumber_10 : decode cX5_readNumber 10 = .ok (.ireturn, 1) := by decide +kernel
theorem dX5_readNumber_11 : decode cX5_readNumber 11 = .ok (.iconst 0, 1) := by decide +kernel
theorem dX5_readNumber_12 : decode cX5_readNumber 12 = .ok (.istore_n 2, 1) := by decide +kernel
theorem dX5_readNumber_13 : decode cX5_readNumber 13 = .ok (.iconst 0, 1) := by decide +kernel
theorem dX5_readNumber_14 : decode cX5_readNumber 14 = .ok (.istore_n 3, 1) := by decide +kernel
theorem dX5_readNumber_15 : decode cX5_readNumber 15 = .ok (.iload_n 2, 1) := by decide +kernel
theorem dX5_readNumber_16 : decode cX5_readNumber 16 = .ok (.iconst 4, 1) := by decide +kernel
theorem dX5_readNumber_17 : decode cX5_readNumber 17 = .ok (.if_icmp .ge 54, 3) := by decide +kernel
theorem dX5_readNumber_20 : decode cX5_readNumber 20 = .ok (.aload_n 0, 1) := by decide +kernel
theorem dX5_readNumber_21 : decode cX5_readNumber 21 = .ok (.aload_n 0, 1) := by decide +kernel
theorem dX5_readNumber_22 : decode cX5_readNumber 22 = .ok (.getfield 27, 3) := by decide +kernel
theorem dX5_readNumber_25 : decode cX5_readNumber 25 = .ok (.invokevirtual 30, 3) := by decide +kernel
theorem dX5_readNumber_28 : decode cX5_readNumber 28 = .ok (.bipush 48, 2) := by decide +kernel
theorem dX5_readNumber_30 : decode cX5_readNumber 30 = .ok (.bipush 57, 2) := by decide +kernel
theorem dX5_readNumber_32 : decode cX5_readNumber 32 = .ok (.invokestatic 46, 3) := by decide +kernel
theorem dX5_readNumber_35 : decode cX5_readNumber 35 = .ok (.ifCond .eq 36, 3) := by decide +kernel
theorem dX5_readNumber_38 : decode cX5_readNumber 38 = .ok (.iload_n 3, 1) := by decide +kernel
theorem dX5_readNumber_39 : decode cX5_readNumber 39 = .ok (.bipush 10, 2) := by decide +kernel
theorem dX5_readNumber_41 : decode cX5_readNumber 41 = .ok (.imul, 1) := by decide +kernel
theorem dX5_readNumber_42 : decode cX5_readNumber 42 = .ok (.aload_n 0, 1) := by decide +kernel
theorem dX5_readNumber_43 : decode cX5_readNumber 43 = .ok (.aload_n 0, 1) := by decide +kernel
theorem dX5_readNumber_44 : decode cX5_readNumber 44 = .ok (.getfield 27, 3) := by decide +kernel
theorem dX5_readNumber_47 : decode cX5_readNumber 47 = .ok (.invokevirtual 30, 3) := by decide +kernel
theorem dX5_readNumber_50 : decode cX5_readNumber 50 = .ok (.iadd, 1) := by decide +kernel
theorem dX5_readNumber_51 : decode cX5_readNumber 51 = .ok (.bipush 48, 2) := by decide +kernel
theorem dX5_readNumber_53 : decode cX5_readNumber 53 = .ok (.isub, 1) := by decide +kernel
theorem dX5_readNumber_54 : decode cX5_readNumber 54 = .ok (.istore_n 3, 1) := by decide +kernel
theorem dX5_readNumber_55 : decode cX5_readNumber 55 = .ok (.iinc 2 1, 3) := by decide +kernel
theorem dX5_readNumber_58 : decode cX5_readNumber 58 = .ok (.aload_n 0, 1) := by decide +kernel
theorem dX5_readNumber_59 : decode cX5_readNumber 59 = .ok (.dup, 1) := by decide +kernel
theorem dX5_readNumber_60 : decode cX5_readNumber 60 = .ok (.getfield 27, 3) := by decide +kernel
theorem dX5_readNumber_63 : decode cX5_readNumber 63 = .ok (.iconst 1, 1) := by decide +kernel
theorem dX5_readNumber_64 : decode cX5_readNumber 64 = .ok (.iadd, 1) := by decide +kernel
theorem dX5_readNumber_65 : decode cX5_readNumber 65 = .ok (.putfield 27, 3) := by decide +kernel
theorem dX5_readNumber_68 : decode cX5_readNumber 68 = .ok (.goto (-53), 3) := by decide +kernel
theorem dX5_readNumber_71 : decode cX5_readNumber 71 = .ok (.aload_n 0, 1) := by decide +kernel
theorem dX5_readNumber_72 : decode cX5_readNumber 72 = .ok (.getfield 23, 3) := by decide +kernel
theorem dX5_readNumber_75 : decode cX5_readNumber 75 = .ok (.iload_n 1, 1) := by decide +kernel
theorem dX5_readNumber_76 : decode cX5_readNumber 76 = .ok (.iload_n 3, 1) := by decide +kernel
theorem dX5_readNumber_77 : decode cX5_readNumber 77 = .ok (.iastore, 1) := by decide +kernel
theorem dX5_readNumber_78 : decode cX5_readNumber 78 = .ok (.iload_n 2, 1) := by decide +kernel
theorem dX5_readNumber_79 : decode cX5_readNumber 79 = .ok (.ifCond .le 7, 3) := by decide +kernel
theorem dX5_readNumber_82 : decode cX5_readNumber 82 = .ok (.iconst 1, 1) := by decide +kernel
theorem dX5_readNumber_83 : decode cX5_readNumber 83 = .ok (.goto 4, 3) := by decide +kernel
theorem dX5_readNumber_86 : decode cX5_readNumber 86 = .ok (.iconst 0, 1) := by decide +kernel
theorem dX5_readNumber_87 : decode cX5_readNumber 87 = .ok (.ireturn, 1) := by decide +kernel
set_option maxRecDepth 20000 in
theorem ggX5_readSign_X5_signAt : GoodIn wsX5_readSign wsX5_signAt := goodIn_r _ [6, 7, 8, 9, 10, 11, 12, 13] (by decide +kernel) (by decide +kernel)
set_option maxRecDepth 20000 in
theorem gX5_readSign_X5_signAt : GoodIn wsX5_readSign (wsV RX5 30 RX5 yX5_signAt wsX5_signAt) := goodIn_app (goodIn_of _ (by decide +kernel)) ggX5_readSign_X5_signAt
theorem dX5_readSign_0 : decode cX5_readSign 0 = .ok (.aload_n 0, 1) := by decide +kernel
theorem dX5_readSign_1 : decode cX5_readSign 1 = .ok (.aload_n 0, 1) := by decide +kernel
theorem dX5_readSign_2 : decode cX5_readSign 2 = .ok (.getfield 27, 3) := by decide +kernel
theorem dX5_readSign_5 : decode cX5_readSign 5 = .ok (.invokevirtual 30, 3) := by decide +kernel
theorem dX5_readSign_8 : decode cX5_readSign 8 = .ok (.iload_n 1, 1) := by decide +kernel
theorem dX5_readSign_9 : decode cX5_readSign 9 = .ok (.if_icmp .eq 5, 3) := by decide +kernel
theorem dX5_readSign_12 : decode cX5_readSign 12 = .ok (.iconst 0, 1) := by decide +kernel
theorem dX5_readSign_13 : decode cX5_readSign 13 = .ok (.ireturn, 1) := by decide +kernel
theorem dX5_readSign_14 : decode cX5_readSign 14 = .ok (.aload_n 0, 1) := by decide +kernel
theorem dX5_readSign_15 : decode cX5_readSign 15 = .ok (.dup, 1) := by decide +kernel
theorem dX5_readSign_16 : decode cX5_readSign 16 = .ok (.getfield 27, 3) := by decide +kernel
theorem dX5_readSign_19 : decode cX5_readSign 19 = .ok (.iconst 1, 1) := by decide +kernel
theorem dX5_readSign_20 : decode cX5_readSign 20 = .ok (.iadd, 1) := by decide +kernel
theorem dX5_readSign_21 : decode cX5_readSign 21 = .ok (.putfield 27, 3) := by decide +kernel
theorem dX5_readSign_24 : decode cX5_readSign 24 = .ok (.iconst 1, 1) := by decide +kernel
theorem dX5_readSign_25 : decode cX5_readSign 25 = .ok (.ireturn, 1) := by decide +kernel
theorem dX6_within_0 : decode cX6_within 0 = .ok (.iload_n 0, 1) := by decide +kernel
theorem dX6_within_1 : decode cX6_within 1 = .ok (.iload_n 1, 1) := by decide +kernel
theorem dX6_within_2 : decode cX6_within 2 = .ok (.if_icmp .lt 12, 3) := by decide +kernel
theorem dX6_within_5 : decode cX6_within 5 = .ok (.iload_n 0, 1) := by decide +kernel
theorem dX6_within_6 : decode cX6_within 6 = .ok (.iload_n 2, 1) := by decide +kernel
theorem dX6_within_7 : decode cX6_within 7 = .ok (.if_icmp .gt 7, 3) := by decide +kernel
theorem dX6_within_10 : decode cX6_within 10 = .ok (.iconst 1, 1) := by decide +kernel
theorem dX6_within_11 : decode cX6_within 11 = .ok (.goto 4, 3) := by decide +kernel
theorem dX6_within_14 : decode cX6_within 14 = .ok (.iconst 0, 1) := by decide +kernel
theorem dX6_within_15 : decode cX6_within 15 = .ok (.ireturn, 1) := by decide +kernel
set_option maxRecDepth 20000 in
theorem ggX6_bendingOf_J9_floorDiv_7cf53 : GoodIn wsX6_bendingOf wsJ9_floorDiv_7cf53 := goodIn_r _ [4] (by decide +kernel) (by decide +kernel)
set_option maxRecDepth 20000 in
theorem gX6_bendingOf_J9_floorDiv_7cf53 : GoodIn wsX6_bendingOf (va_wsS RX6 258 yJ9_floorDiv_7cf53 wsJ9_floorDiv_7cf53) := goodIn_app (goodIn_of _ (by decide +kernel)) ggX6_bendingOf_J9_floorDiv_7cf53
theorem dX6_bendingOf_0 : decode cX6_bendingOf 0 = .ok (.sipush 780, 3) := by decide +kernel
theorem dX6_bendingOf_3 : decode cX6_bendingOf 3 = .ok (.iload_n 1, 1) := by decide +kernel
theorem dX6_bendingOf_4 : decode cX6_bendingOf 4 = .ok (.isub, 1) := by decide +kernel
theorem dX6_bendingOf_5 : decode cX6_bendingOf 5 = .ok (.istore_n 2, 1) := by decide +kernel
theorem dX6_bendingOf_6 : decode cX6_bendingOf 6 = .ok (.iload_n 0, 1) := by decide +kernel
theorem dX6_bendingOf_7 : decode cX6_bendingOf 7 = .ok (.ifCond .ne 16, 3) := by decide +kernel
theorem dX6_bendingOf_10 : decode cX6_bendingOf 10 = .ok (.sipush 500, 3) := by decide +kernel
theorem dX6_bendingOf_13 : decode cX6_bendingOf 13 = .ok (.iload_n 2, 1) := by decide +kernel
theorem dX6_bendingOf_14 : decode cX6_bendingOf 14 = .ok (.bipush 8, 2) := by decide +kernel
theorem dX6_bendingOf_16 : decode cX6_bendingOf 16 = .ok (.invokestatic 258, 3) := by decide +kernel
theorem dX6_bendingOf_19 : decode cX6_bendingOf 19 = .ok (.iadd, 1) := by decide +kernel
theorem dX6_bendingOf_20 : decode cX6_bendingOf 20 = .ok (.goto 12, 3) := by decide +kernel
theorem dX6_bendingOf_23 : decode cX6_bendingOf 23 = .ok (.sipush 600, 3) := by decide +kernel
theorem dX6_bendingOf_26 : decode cX6_bendingOf 26 = .ok (.iload_n 2, 1) := by decide +kernel
theorem dX6_bendingOf_27 : decode cX6_bendingOf 27 = .ok (.iconst 3, 1) := by decide +kernel
theorem dX6_bendingOf_28 : decode cX6_bendingOf 28 = .ok (.invokestatic 258, 3) := by decide +kernel
theorem dX6_bendingOf_31 : decode cX6_bendingOf 31 = .ok (.iadd, 1) := by decide +kernel
theorem dX6_bendingOf_32 : decode cX6_bendingOf 32 = .ok (.ireturn, 1) := by decide +kernel
theorem dJxf58ca_isNaN_12338_0 : decode cJxf58ca_isNaN_12338 0 = .ok (.fload_n 0, 1) := by decide +kernel
theorem dJxf58ca_isNaN_12338_1 : decode cJxf58ca_isNaN_12338 1 = .ok (.fload_n 0, 1) := by decide +kernel
theorem dJxf58ca_isNaN_12338_2 : decode cJxf58ca_isNaN_12338 2 = .ok (.fcmp .l, 1) := by decide +kernel
theorem dJxf58ca_isNaN_12338_3 : decode cJxf58ca_isNaN_12338 3 = .ok (.ifCond .eq 7, 3) := by decide +kernel
theorem dJxf58ca_isNaN_12338_6 : decode cJxf58ca_isNaN_12338 6 = .ok (.iconst 1, 1) := by decide +kernel
theorem dJxf58ca_isNaN_12338_7 : decode cJxf58ca_isNaN_12338 7 = .ok (.goto 4, 3) := by decide +kernel
theorem dJxf58ca_isNaN_12338_10 : decode cJxf58ca_isNaN_12338 10 = .ok (.iconst 0, 1) := by decide +kernel
theorem dJxf58ca_isNaN_12338_11 : decode cJxf58ca_isNaN_12338 11 = .ok (.ireturn, 1) := by decide +kernel
set_option maxRecDepth 20000 in
theorem ggJxf58ca_floatToIntBits_5c35a_Jxf58ca_isNaN_12338 : GoodIn wsJxf58ca_floatToIntBits_5c35a wsJxf58ca_isNaN_12338 := goodIn_r _ [9] (by decide +kernel) (by decide +kernel)
set_option maxRecDepth 20000 in
theorem gJxf58ca_floatToIntBits_5c35a_Jxf58ca_isNaN_12338 : GoodIn wsJxf58ca_floatToIntBits_5c35a (va_wsS RJxf58ca 59 yJxf58ca_isNaN_12338 wsJxf58ca_isNaN_12338) := goodIn_app (goodIn_of _ (by decide +kernel)) ggJxf58ca_floatToIntBits_5c35a_Jxf58ca_isNaN_12338
theorem dJxf58ca_floatToIntBits_5c35a_0 : decode cJxf58ca_floatToIntBits_5c35a 0 = .ok (.fload_n 0, 1) := by decide +kernel
theorem dJxf58ca_floatToIntBits_5c35a_1 : decode cJxf58ca_floatToIntBits_5c35a 1 = .ok (.invokestatic 59, 3) := by decide +kernel
theorem dJxf58ca_floatToIntBits_5c35a_4 : decode cJxf58ca_floatToIntBits_5c35a 4 = .ok (.ifCond .ne 8, 3) := by decide +kernel
theorem dJxf58ca_floatToIntBits_5c35a_7 : decode cJxf58ca_floatToIntBits_5c35a 7 = .ok (.fload_n 0, 1) := by decide +kernel
theorem dJxf58ca_floatToIntBits_5c35a_8 : decode cJxf58ca_floatToIntBits_5c35a 8 = .ok (.invokestatic 74, 3) := by decide +kernel
theorem dJxf58ca_floatToIntBits_5c35a_11 : decode cJxf58ca_floatToIntBits_5c35a 11 = .ok (.ireturn, 1) := by decide +kernel
theorem dJxf58ca_floatToIntBits_5c35a_12 : decode cJxf58ca_floatToIntBits_5c35a 12 = .ok (.ldc 77, 2) := by decide +kernel
theorem dJxf58ca_floatToIntBits_5c35a_14 : decode cJxf58ca_floatToIntBits_5c35a 14 = .ok (.ireturn, 1) := by decide +kernel
theorem dJ6_bitCount_0f7a4_0 : decode cJ6_bitCount_0f7a4 0 = .ok (.iload_n 0, 1) := by decide +kernel
theorem dJ6_bitCount_0f7a4_1 : decode cJ6_bitCount_0f7a4 1 = .ok (.iload_n 0, 1) := by decide +kernel
theorem dJ6_bitCount_0f7a4_2 : decode cJ6_bitCount_0f7a4 2 = .ok (.iconst 1, 1) := by decide +kernel
theorem dJ6_bitCount_0f7a4_3 : decode cJ6_bitCount_0f7a4 3 = .ok (.iushr, 1) := by decide +kernel
theorem dJ6_bitCount_0f7a4_4 : decode cJ6_bitCount_0f7a4 4 = .ok (.ldc_w 265, 3) := by decide +kernel
theorem dJ6_bitCount_0f7a4_7 : decode cJ6_bitCount_0f7a4 7 = .ok (.iand, 1) := by decide +kernel
theorem dJ6_bitCount_0f7a4_8 : decode cJ6_bitCount_0f7a4 8 = .ok (.isub, 1) := by decide +kernel
theorem dJ6_bitCount_0f7a4_9 : decode cJ6_bitCount_0f7a4 9 = .ok (.istore_n 0, 1) := by decide +kernel
theorem dJ6_bitCount_0f7a4_10 : decode cJ6_bitCount_0f7a4 10 = .ok (.iload_n 0, 1) := by decide +kernel
theorem dJ6_bitCount_0f7a4_11 : decode cJ6_bitCount_0f7a4 11 = .ok (.ldc_w 266, 3) := by decide +kernel
theorem dJ6_bitCount_0f7a4_14 : decode cJ6_bitCount_0f7a4 14 = .ok (.iand, 1) := by decide +kernel
theorem dJ6_bitCount_0f7a4_15 : decode cJ6_bitCount_0f7a4 15 = .ok (.iload_n 0, 1) := by decide +kernel
theorem dJ6_bitCount_0f7a4_16 : decode cJ6_bitCount_0f7a4 16 = .ok (.iconst 2, 1) := by decide +kernel
theorem dJ6_bitCount_0f7a4_17 : decode cJ6_bitCount_0f7a4 17 = .ok (.iushr, 1) := by decide +kernel
theorem dJ6_bitCount_0f7a4_18 : decode cJ6_bitCount_0f7a4 18 = .ok (.ldc_w 266, 3) := by decide +kernel
theorem dJ6_bitCount_0f7a4_21 : decode cJ6_bitCount_0f7a4 21 = .ok (.iand, 1) := by decide +kernel
theorem dJ6_bitCount_0f7a4_22 : decode cJ6_bitCount_0f7a4 22 = .ok (.iadd, 1) := by decide +kernel
theorem dJ6_bitCount_0f7a4_23 : decode cJ6_bitCount_0f7a4 23 = .ok (.istore_n 0, 1) := by decide +kernel
theorem dJ6_bitCount_0f7a4_24 : decode cJ6_bitCount_0f7a4 24 = .ok (.iload_n 0, 1) := by decide +kernel
theorem dJ6_bitCount_0f7a4_25 : decode cJ6_bitCount_0f7a4 25 = .ok (.iload_n 0, 1) := by decide +kernel
theorem dJ6_bitCount_0f7a4_26 : decode cJ6_bitCount_0f7a4 26 = .ok (.iconst 4, 1) := by decide +kernel
theorem dJ6_bitCount_0f7a4_27 : decode cJ6_bitCount_0f7a4 27 = .ok (.iushr, 1) := by decide +kernel
theorem dJ6_bitCount_0f7a4_28 : decode cJ6_bitCount_0f7a4 28 = .ok (.iadd, 1) := by decide +kernel
theorem dJ6_bitCount_0f7a4_29 : decode cJ6_bitCount_0f7a4 29 = .ok (.ldc_w 267, 3) := by decide +kernel
theorem dJ6_bitCount_0f7a4_32 : decode cJ6_bitCount_0f7a4 32 = .ok (.iand, 1) := by decide +kernel
theorem dJ6_bitCount_0f7a4_33 : decode cJ6_bitCount_0f7a4 33 = .ok (.istore_n 0, 1) := by decide +kernel
theorem dJ6_bitCount_0f7a4_34 : decode cJ6_bitCount_0f7a4 34 = .ok (.iload_n 0, 1) := by decide +kernel
theorem dJ6_bitCount_0f7a4_35 : decode cJ6_bitCount_0f7a4 35 = .ok (.iload_n 0, 1) := by decide +kernel
theorem dJ6_bitCount_0f7a4_36 : decode cJ6_bitCount_0f7a4 36 = .ok (.bipush 8, 2) := by decide +kernel
theorem dJ6_bitCount_0f7a4_38 : decode cJ6_bitCount_0f7a4 38 = .ok (.iushr, 1) := by decide +kernel
theorem dJ6_bitCount_0f7a4_39 : decode cJ6_bitCount_0f7a4 39 = .ok (.iadd, 1) := by decide +kernel
theorem dJ6_bitCount_0f7a4_40 : decode cJ6_bitCount_0f7a4 40 = .ok (.istore_n 0, 1) := by decide +kernel
theorem dJ6_bitCount_0f7a4_41 : decode cJ6_bitCount_0f7a4 41 = .ok (.iload_n 0, 1) := by decide +kernel
theorem dJ6_bitCount_0f7a4_42 : decode cJ6_bitCount_0f7a4 42 = .ok (.iload_n 0, 1) := by decide +kernel
theorem dJ6_bitCount_0f7a4_43 : decode cJ6_bitCount_0f7a4 43 = .ok (.bipush 16, 2) := by decide +kernel
theorem dJ6_bitCount_0f7a4_45 : decode cJ6_bitCount_0f7a4 45 = .ok (.iushr, 1) := by decide +kernel
theorem dJ6_bitCount_0f7a4_46 : decode cJ6_bitCount_0f7a4 46 = .ok (.iadd, 1) := by decide +kernel
theorem dJ6_bitCount_0f7a4_47 : decode cJ6_bitCount_0f7a4 47 = .ok (.istore_n 0, 1) := by decide +kernel
theorem dJ6_bitCount_0f7a4_48 : decode cJ6_bitCount_0f7a4 48 = .ok (.iload_n 0, 1) := by decide +kernel
theorem dJ6_bitCount_0f7a4_49 : decode cJ6_bitCount_0f7a4 49 = .ok (.bipush 63, 2) := by decide +kernel
theorem dJ6_bitCount_0f7a4_51 : decode cJ6_bitCount_0f7a4 51 = .ok (.iand, 1) := by decide +kernel
theorem dJ6_bitCount_0f7a4_52 : decode cJ6_bitCount_0f7a4 52 = .ok (.ireturn, 1) := by decide +kernel
theorem dJ9_floorDiv_7cf53_0 : decode cJ9_floorDiv_7cf53 0 = .ok (.iload_n 0, 1) := by decide +kernel
theorem dJ9_floorDiv_7cf53_1 : decode cJ9_floorDiv_7cf53 1 = .ok (.iload_n 1, 1) := by decide +kernel
theorem dJ9_floorDiv_7cf53_2 : decode cJ9_floorDiv_7cf53 2 = .ok (.idiv, 1) := by decide +kernel
theorem dJ9_floorDiv_7cf53_3 : decode cJ9_floorDiv_7cf53 3 = .ok (.istore_n 2, 1) := by decide +kernel
theorem dJ9_floorDiv_7cf53_4 : decode cJ9_floorDiv_7cf53 4 = .ok (.iload_n 0, 1) := by decide +kernel
theorem dJ9_floorDiv_7cf53_5 : decode cJ9_floorDiv_7cf53 5 = .ok (.iload_n 1, 1) := by decide +kernel
theorem dJ9_floorDiv_7cf53_6 : decode cJ9_floorDiv_7cf53 6 = .ok (.ixor, 1) := by decide +kernel
theorem dJ9_floorDiv_7cf53_7 : decode cJ9_floorDiv_7cf53 7 = .ok (.ifCond .ge 14, 3) := by decide +kernel
theorem dJ9_floorDiv_7cf53_10 : decode cJ9_floorDiv_7cf53 10 = .ok (.iload_n 2, 1) := by decide +kernel
theorem dJ9_floorDiv_7cf53_11 : decode cJ9_floorDiv_7cf53 11 = .ok (.iload_n 1, 1) := by decide +kernel
theorem dJ9_floorDiv_7cf53_12 : decode cJ9_floorDiv_7cf53 12 = .ok (.imul, 1) := by decide +kernel
theorem dJ9_floorDiv_7cf53_13 : decode cJ9_floorDiv_7cf53 13 = .ok (.iload_n 0, 1) := by decide +kernel
theorem dJ9_floorDiv_7cf53_14 : decode cJ9_floorDiv_7cf53 14 = .ok (.if_icmp .eq 7, 3) := by decide +kernel
theorem dJ9_floorDiv_7cf53_17 : decode cJ9_floorDiv_7cf53 17 = .ok (.iload_n 2, 1) := by decide +kernel
theorem dJ9_floorDiv_7cf53_18 : decode cJ9_floorDiv_7cf53 18 = .ok (.iconst 1, 1) := by decide +kernel
theorem dJ9_floorDiv_7cf53_19 : decode cJ9_floorDiv_7cf53 19 = .ok (.isub, 1) := by decide +kernel
theorem dJ9_floorDiv_7cf53_20 : decode cJ9_floorDiv_7cf53 20 = .ok (.ireturn, 1) := by decide +kernel
theorem dJ9_floorDiv_7cf53_21 : decode cJ9_floorDiv_7cf53 21 = .ok (.iload_n 2, 1) := by decide +kernel
theorem dJ9_floorDiv_7cf53_22 : decode cJ9_floorDiv_7cf53 22 = .ok (.ireturn, 1) := by decide +kernel
theorem dJ9_max_7cf53_0 : decode cJ9_max_7cf53 0 = .ok (.iload_n 0, 1) := by decide +kernel
theorem dJ9_max_7cf53_1 : decode cJ9_max_7cf53 1 = .ok (.iload_n 1, 1) := by decide +kernel
theorem dJ9_max_7cf53_2 : decode cJ9_max_7cf53 2 = .ok (.if_icmp .lt 7, 3) := by decide +kernel
theorem dJ9_max_7cf53_5 : decode cJ9_max_7cf53 5 = .ok (.iload_n 0, 1) := by decide +kernel
theorem dJ9_max_7cf53_6 : decode cJ9_max_7cf53 6 = .ok (.goto 4, 3) := by decide +kernel
theorem dJ9_max_7cf53_9 : decode cJ9_max_7cf53 9 = .ok (.iload_n 1, 1) := by decide +kernel
theorem dJ9_max_7cf53_10 : decode cJ9_max_7cf53 10 = .ok (.ireturn, 1) := by decide +kernel
theorem dJ9_min_7cf53_0 : decode cJ9_min_7cf53 0 = .ok (.iload_n 0, 1) := by decide +kernel
theorem dJ9_min_7cf53_1 : decode cJ9_min_7cf53 1 = .ok (.iload_n 1, 1) := by decide +kernel
theorem dJ9_min_7cf53_2 : decode cJ9_min_7cf53 2 = .ok (.if_icmp .gt 7, 3) := by decide +kernel
theorem dJ9_min_7cf53_5 : decode cJ9_min_7cf53 5 = .ok (.iload_n 0, 1) := by decide +kernel
theorem dJ9_min_7cf53_6 : decode cJ9_min_7cf53 6 = .ok (.goto 4, 3) := by decide +kernel
theorem dJ9_min_7cf53_9 : decode cJ9_min_7cf53 9 = .ok (.iload_n 1, 1) := by decide +kernel
theorem dJ9_min_7cf53_10 : decode cJ9_min_7cf53 10 = .ok (.ireturn, 1) := by decide +kernel
