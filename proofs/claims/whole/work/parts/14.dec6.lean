set_option maxRecDepth 20000 in
theorem ggX6_init_X0_init : GoodIn wsX6_init wsX0_init := goodIn_r _ [30, 31, 2, 3, 32, 33, 34, 35, 36, 37, 38, 39, 40, 41, 42, 79, 80, 81, 82, 83, 84, 85, 86, 87, 88] (by decide +kernel) (by decide +kernel)
set_option maxRecDepth 20000 in
theorem gX6_init_X0_init_n9 : GoodIn wsX6_init (wsX0_init) := ggX6_init_X0_init
set_option maxRecDepth 20000 in
theorem ggX6_init_X4_init : GoodIn wsX6_init wsX4_init := goodIn_r _ [44, 45, 2, 3, 32, 46, 47, 48, 49, 50, 100, 101, 102, 103, 104] (by decide +kernel) (by decide +kernel)
set_option maxRecDepth 20000 in
theorem gX6_init_X4_init_n21 : GoodIn wsX6_init (wsX4_init) := ggX6_init_X4_init
set_option maxRecDepth 20000 in
theorem ggX6_init_X1_init : GoodIn wsX6_init wsX1_init := goodIn_r _ [52, 53, 2, 3, 32, 54, 55, 56, 57, 105, 106, 107, 108] (by decide +kernel) (by decide +kernel)
set_option maxRecDepth 20000 in
theorem gX6_init_X1_init_n28 : GoodIn wsX6_init (wsX1_init) := ggX6_init_X1_init
set_option maxRecDepth 20000 in
theorem ggX6_init_X2_init : GoodIn wsX6_init wsX2_init := goodIn_r _ [59, 60, 2, 3, 61, 62, 63, 109, 110, 111] (by decide +kernel) (by decide +kernel)
set_option maxRecDepth 20000 in
theorem gX6_init_X2_init_n35 : GoodIn wsX6_init (wsX2_init) := ggX6_init_X2_init
set_option maxRecDepth 20000 in
theorem ggX6_init_X3_init : GoodIn wsX6_init wsX3_init := goodIn_r _ [65, 66, 2, 3, 67, 68, 69, 112, 113] (by decide +kernel) (by decide +kernel)
set_option maxRecDepth 20000 in
theorem gX6_init_X3_init_n42 : GoodIn wsX6_init (wsX3_init) := ggX6_init_X3_init
set_option maxRecDepth 20000 in
theorem ggX6_init_X5_init : GoodIn wsX6_init wsX5_init := goodIn_r _ [71, 72, 2, 3, 73, 74, 75, 76, 32, 77, 78, 114, 115, 116, 117, 118] (by decide +kernel) (by decide +kernel)
set_option maxRecDepth 20000 in
theorem gX6_init_X5_init_n49 : GoodIn wsX6_init (wsX5_init) := ggX6_init_X5_init
theorem dX6_init_0 : decode cX6_init 0 = .ok (.aload_n 0, 1) := by decide +kernel
theorem dX6_init_1 : decode cX6_init 1 = .ok (.invokespecial 1, 3) := by decide +kernel
theorem dX6_init_4 : decode cX6_init 4 = .ok (.aload_n 0, 1) := by decide +kernel
theorem dX6_init_5 : decode cX6_init 5 = .ok (.new 7, 3) := by decide +kernel
theorem dX6_init_8 : decode cX6_init 8 = .ok (.dup, 1) := by decide +kernel
theorem dX6_init_9 : decode cX6_init 9 = .ok (.invokespecial 9, 3) := by decide +kernel
theorem dX6_init_12 : decode cX6_init 12 = .ok (.putfield 10, 3) := by decide +kernel
theorem dX6_init_15 : decode cX6_init 15 = .ok (.aload_n 0, 1) := by decide +kernel
theorem dX6_init_16 : decode cX6_init 16 = .ok (.new 7, 3) := by decide +kernel
theorem dX6_init_19 : decode cX6_init 19 = .ok (.dup, 1) := by decide +kernel
theorem dX6_init_20 : decode cX6_init 20 = .ok (.invokespecial 9, 3) := by decide +kernel
theorem dX6_init_23 : decode cX6_init 23 = .ok (.putfield 16, 3) := by decide +kernel
theorem dX6_init_26 : decode cX6_init 26 = .ok (.aload_n 0, 1) := by decide +kernel
theorem dX6_init_27 : decode cX6_init 27 = .ok (.new 19, 3) := by decide +kernel
theorem dX6_init_30 : decode cX6_init 30 = .ok (.dup, 1) := by decide +kernel
theorem dX6_init_31 : decode cX6_init 31 = .ok (.invokespecial 21, 3) := by decide +kernel
theorem dX6_init_34 : decode cX6_init 34 = .ok (.putfield 22, 3) := by decide +kernel
theorem dX6_init_37 : decode cX6_init 37 = .ok (.aload_n 0, 1) := by decide +kernel
theorem dX6_init_38 : decode cX6_init 38 = .ok (.new 26, 3) := by decide +kernel
theorem dX6_init_41 : decode cX6_init 41 = .ok (.dup, 1) := by decide +kernel
theorem dX6_init_42 : decode cX6_init 42 = .ok (.invokespecial 28, 3) := by decide +kernel
theorem dX6_init_45 : decode cX6_init 45 = .ok (.putfield 29, 3) := by decide +kernel
theorem dX6_init_48 : decode cX6_init 48 = .ok (.aload_n 0, 1) := by decide +kernel
theorem dX6_init_49 : decode cX6_init 49 = .ok (.new 33, 3) := by decide +kernel
theorem dX6_init_52 : decode cX6_init 52 = .ok (.dup, 1) := by decide +kernel
theorem dX6_init_53 : decode cX6_init 53 = .ok (.invokespecial 35, 3) := by decide +kernel
theorem dX6_init_56 : decode cX6_init 56 = .ok (.putfield 36, 3) := by decide +kernel
theorem dX6_init_59 : decode cX6_init 59 = .ok (.aload_n 0, 1) := by decide +kernel
theorem dX6_init_60 : decode cX6_init 60 = .ok (.new 40, 3) := by decide +kernel
theorem dX6_init_63 : decode cX6_init 63 = .ok (.dup, 1) := by decide +kernel
theorem dX6_init_64 : decode cX6_init 64 = .ok (.invokespecial 42, 3) := by decide +kernel
theorem dX6_init_67 : decode cX6_init 67 = .ok (.putfield 43, 3) := by decide +kernel
theorem dX6_init_70 : decode cX6_init 70 = .ok (.aload_n 0, 1) := by decide +kernel
theorem dX6_init_71 : decode cX6_init 71 = .ok (.new 47, 3) := by decide +kernel
theorem dX6_init_74 : decode cX6_init 74 = .ok (.dup, 1) := by decide +kernel
theorem dX6_init_75 : decode cX6_init 75 = .ok (.invokespecial 49, 3) := by decide +kernel
theorem dX6_init_78 : decode cX6_init 78 = .ok (.putfield 50, 3) := by decide +kernel
theorem dX6_init_81 : decode cX6_init 81 = .ok (.return_, 1) := by decide +kernel
set_option maxRecDepth 20000 in
theorem ggX6_line_X0_copyFrom : GoodIn wsX6_line wsX0_copyFrom := goodIn_r _ [7, 8, 9, 10, 11, 12, 13, 14, 15, 16, 17, 18, 19, 20, 21, 67, 68, 69, 70, 71, 72, 73, 74, 75, 76] (by decide +kernel) (by decide +kernel)
set_option maxRecDepth 20000 in
theorem gX6_line_X0_copyFrom : GoodIn wsX6_line (wsV RX6 54 RX0 yX0_copyFrom wsX0_copyFrom) := goodIn_app (goodIn_of _ (by decide +kernel)) ggX6_line_X0_copyFrom
set_option maxRecDepth 20000 in
theorem ggX6_line_X0_addLine : GoodIn wsX6_line wsX0_addLine := goodIn_r _ [25, 26, 14, 27, 8, 13, 28, 29, 30, 67, 68, 69, 70, 71, 72, 73, 74, 75, 76] (by decide +kernel) (by decide +kernel)
set_option maxRecDepth 20000 in
theorem gX6_line_X0_addLine : GoodIn wsX6_line (wsV RX6 58 RX0 yX0_addLine wsX0_addLine) := goodIn_app (goodIn_of _ (by decide +kernel)) ggX6_line_X0_addLine
set_option maxRecDepth 20000 in
theorem ggX6_line_X6_keepTrial : GoodIn wsX6_line wsX6_keepTrial := goodIn_r _ [34, 35, 2, 1, 36, 37, 38, 39, 40, 41, 42, 43, 44, 6, 45, 46, 47, 48, 49, 50, 51, 52, 53, 54, 8, 13, 14, 15, 16, 17, 18, 19, 20, 21, 55, 4, 5, 7, 9, 10, 11, 12, 3, 56, 57, 58, 59, 60, 61, 62, 63, 64, 65, 66, 77, 78, 67, 68, 69, 70, 71, 72, 73, 74, 75, 76] (by decide +kernel) (by decide +kernel)
set_option maxRecDepth 20000 in
theorem gX6_line_X6_keepTrial : GoodIn wsX6_line (wsV RX6 62 RX6 yX6_keepTrial wsX6_keepTrial) := goodIn_app (goodIn_of _ (by decide +kernel)) ggX6_line_X6_keepTrial
theorem dX6_line_0 : decode cX6_line 0 = .ok (.aload_n 0, 1) := by decide +kernel
theorem dX6_line_1 : decode cX6_line 1 = .ok (.getfield 16, 3) := by decide +kernel
theorem dX6_line_4 : decode cX6_line 4 = .ok (.aload_n 0, 1) := by decide +kernel
theorem dX6_line_5 : decode cX6_line 5 = .ok (.getfield 10, 3) := by decide +kernel
theorem dX6_line_8 : decode cX6_line 8 = .ok (.invokevirtual 54, 3) := by decide +kernel
theorem dX6_line_11 : decode cX6_line 11 = .ok (.aload_n 0, 1) := by decide +kernel
theorem dX6_line_12 : decode cX6_line 12 = .ok (.aload_n 0, 1) := by decide +kernel
theorem dX6_line_13 : decode cX6_line 13 = .ok (.getfield 16, 3) := by decide +kernel
theorem dX6_line_16 : decode cX6_line 16 = .ok (.iload_n 1, 1) := by decide +kernel
theorem dX6_line_17 : decode cX6_line 17 = .ok (.iload_n 2, 1) := by decide +kernel
theorem dX6_line_18 : decode cX6_line 18 = .ok (.invokevirtual 58, 3) := by decide +kernel
theorem dX6_line_21 : decode cX6_line 21 = .ok (.invokevirtual 62, 3) := by decide +kernel
theorem dX6_line_24 : decode cX6_line 24 = .ok (.ireturn, 1) := by decide +kernel
set_option maxRecDepth 20000 in
theorem ggX6_dim_X0_copyFrom : GoodIn wsX6_dim wsX0_copyFrom := goodIn_r _ [7, 8, 9, 10, 11, 12, 13, 14, 15, 16, 17, 18, 19, 20, 21, 70, 71, 72, 73, 74, 75, 76, 77, 78, 79] (by decide +kernel) (by decide +kernel)
set_option maxRecDepth 20000 in
theorem gX6_dim_X0_copyFrom : GoodIn wsX6_dim (wsV RX6 54 RX0 yX0_copyFrom wsX0_copyFrom) := goodIn_app (goodIn_of _ (by decide +kernel)) ggX6_dim_X0_copyFrom
set_option maxRecDepth 20000 in
theorem ggX6_dim_X0_changeLight : GoodIn wsX6_dim wsX0_changeLight := goodIn_r _ [25, 26, 13, 27, 28, 29, 6, 30, 14, 31, 32, 33, 70, 71, 72, 73, 74, 75, 76, 77, 78, 79] (by decide +kernel) (by decide +kernel)
set_option maxRecDepth 20000 in
theorem gX6_dim_X0_changeLight : GoodIn wsX6_dim (wsV RX6 66 RX0 yX0_changeLight wsX0_changeLight) := goodIn_app (goodIn_of _ (by decide +kernel)) ggX6_dim_X0_changeLight
set_option maxRecDepth 20000 in
theorem ggX6_dim_X6_keepTrial : GoodIn wsX6_dim wsX6_keepTrial := goodIn_r _ [37, 38, 2, 1, 39, 40, 41, 42, 43, 44, 45, 46, 47, 6, 48, 49, 50, 51, 52, 53, 54, 55, 56, 57, 8, 13, 14, 15, 16, 17, 18, 19, 20, 21, 58, 4, 5, 7, 9, 10, 11, 12, 3, 59, 60, 61, 62, 63, 64, 65, 66, 67, 68, 69, 80, 81, 70, 71, 72, 73, 74, 75, 76, 77, 78, 79] (by decide +kernel) (by decide +kernel)
set_option maxRecDepth 20000 in
theorem gX6_dim_X6_keepTrial : GoodIn wsX6_dim (wsV RX6 62 RX6 yX6_keepTrial wsX6_keepTrial) := goodIn_app (goodIn_of _ (by decide +kernel)) ggX6_dim_X6_keepTrial
theorem dX6_dim_0 : decode cX6_dim 0 = .ok (.aload_n 0, 1) := by decide +kernel
theorem dX6_dim_1 : decode cX6_dim 1 = .ok (.getfield 16, 3) := by decide +kernel
theorem dX6_dim_4 : decode cX6_dim 4 = .ok (.aload_n 0, 1) := by decide +kernel
theorem dX6_dim_5 : decode cX6_dim 5 = .ok (.getfield 10, 3) := by decide +kernel
theorem dX6_dim_8 : decode cX6_dim 8 = .ok (.invokevirtual 54, 3) := by decide +kernel
theorem dX6_dim_11 : decode cX6_dim 11 = .ok (.aload_n 0, 1) := by decide +kernel
theorem dX6_dim_12 : decode cX6_dim 12 = .ok (.aload_n 0, 1) := by decide +kernel
theorem dX6_dim_13 : decode cX6_dim 13 = .ok (.getfield 16, 3) := by decide +kernel
theorem dX6_dim_16 : decode cX6_dim 16 = .ok (.iload_n 1, 1) := by decide +kernel
theorem dX6_dim_17 : decode cX6_dim 17 = .ok (.iload_n 2, 1) := by decide +kernel
theorem dX6_dim_18 : decode cX6_dim 18 = .ok (.invokevirtual 66, 3) := by decide +kernel
theorem dX6_dim_21 : decode cX6_dim 21 = .ok (.invokevirtual 62, 3) := by decide +kernel
theorem dX6_dim_24 : decode cX6_dim 24 = .ok (.ireturn, 1) := by decide +kernel
set_option maxRecDepth 20000 in
theorem ggX6_prism_X0_copyFrom : GoodIn wsX6_prism wsX0_copyFrom := goodIn_r _ [7, 8, 9, 10, 11, 12, 13, 14, 15, 16, 17, 18, 19, 20, 21, 88, 89, 90, 91, 92, 93, 94, 95, 96, 97] (by decide +kernel) (by decide +kernel)
set_option maxRecDepth 20000 in
theorem gX6_prism_X0_copyFrom : GoodIn wsX6_prism (wsV RX6 54 RX0 yX0_copyFrom wsX0_copyFrom) := goodIn_app (goodIn_of _ (by decide +kernel)) ggX6_prism_X0_copyFrom
set_option maxRecDepth 20000 in
theorem ggX6_prism_X0_addPrism : GoodIn wsX6_prism wsX0_addPrism := goodIn_r _ [25, 26, 27, 28, 29, 30, 31, 32, 6, 33, 34, 20, 35, 15, 16, 17, 18, 19, 36, 37, 38, 39, 40, 41, 42, 43, 44, 45, 46, 47, 48, 49, 50, 51, 88, 89, 90, 91, 92, 93, 94, 95, 96, 97] (by decide +kernel) (by decide +kernel)
set_option maxRecDepth 20000 in
theorem gX6_prism_X0_addPrism : GoodIn wsX6_prism (wsV RX6 69 RX0 yX0_addPrism wsX0_addPrism) := goodIn_app (goodIn_of _ (by decide +kernel)) ggX6_prism_X0_addPrism
set_option maxRecDepth 20000 in
theorem ggX6_prism_X6_keepTrial : GoodIn wsX6_prism wsX6_keepTrial := goodIn_r _ [55, 56, 2, 1, 57, 58, 59, 60, 61, 62, 63, 64, 65, 6, 66, 67, 68, 69, 70, 71, 72, 73, 74, 75, 8, 13, 14, 15, 16, 17, 18, 19, 20, 21, 76, 4, 5, 7, 9, 10, 11, 12, 3, 77, 78, 79, 80, 81, 82, 83, 84, 85, 86, 87, 98, 99, 88, 89, 90, 91, 92, 93, 94, 95, 96, 97] (by decide +kernel) (by decide +kernel)
set_option maxRecDepth 20000 in
theorem gX6_prism_X6_keepTrial : GoodIn wsX6_prism (wsV RX6 62 RX6 yX6_keepTrial wsX6_keepTrial) := goodIn_app (goodIn_of _ (by decide +kernel)) ggX6_prism_X6_keepTrial
theorem dX6_prism_0 : decode cX6_prism 0 = .ok (.aload_n 0, 1) := by decide +kernel
theorem dX6_prism_1 : decode cX6_prism 1 = .ok (.getfield 16, 3) := by decide +kernel
theorem dX6_prism_4 : decode cX6_prism 4 = .ok (.aload_n 0, 1) := by decide +kernel
theorem dX6_prism_5 : decode cX6_prism 5 = .ok (.getfield 10, 3) := by decide +kernel
theorem dX6_prism_8 : decode cX6_prism 8 = .ok (.invokevirtual 54, 3) := by decide +kernel
theorem dX6_prism_11 : decode cX6_prism 11 = .ok (.aload_n 0, 1) := by decide +kernel
theorem dX6_prism_12 : decode cX6_prism 12 = .ok (.aload_n 0, 1) := by decide +kernel
theorem dX6_prism_13 : decode cX6_prism 13 = .ok (.getfield 16, 3) := by decide +kernel
theorem dX6_prism_16 : decode cX6_prism 16 = .ok (.iload_n 1, 1) := by decide +kernel
theorem dX6_prism_17 : decode cX6_prism 17 = .ok (.iload_n 2, 1) := by decide +kernel
theorem dX6_prism_18 : decode cX6_prism 18 = .ok (.iload_n 3, 1) := by decide +kernel
theorem dX6_prism_19 : decode cX6_prism 19 = .ok (.iload 4, 2) := by decide +kernel
theorem dX6_prism_21 : decode cX6_prism 21 = .ok (.invokevirtual 69, 3) := by decide +kernel
theorem dX6_prism_24 : decode cX6_prism 24 = .ok (.invokevirtual 62, 3) := by decide +kernel
theorem dX6_prism_27 : decode cX6_prism 27 = .ok (.ireturn, 1) := by decide +kernel
set_option maxRecDepth 20000 in
theorem ggX6_slit_X0_copyFrom : GoodIn wsX6_slit wsX0_copyFrom := goodIn_r _ [7, 8, 9, 10, 11, 12, 13, 14, 15, 16, 17, 18, 19, 20, 21, 88, 89, 90, 91, 92, 93, 94, 95, 96, 97] (by decide +kernel) (by decide +kernel)
set_option maxRecDepth 20000 in
theorem gX6_slit_X0_copyFrom : GoodIn wsX6_slit (wsV RX6 54 RX0 yX0_copyFrom wsX0_copyFrom) := goodIn_app (goodIn_of _ (by decide +kernel)) ggX6_slit_X0_copyFrom
set_option maxRecDepth 20000 in
theorem ggX6_slit_X0_addSlit : GoodIn wsX6_slit wsX0_addSlit := goodIn_r _ [25, 26, 27, 28, 29, 30, 31, 32, 6, 33, 34, 20, 35, 15, 16, 17, 18, 19, 36, 37, 38, 39, 40, 41, 42, 43, 44, 45, 46, 47, 48, 49, 50, 51, 88, 89, 90, 91, 92, 93, 94, 95, 96, 97] (by decide +kernel) (by decide +kernel)
set_option maxRecDepth 20000 in
theorem gX6_slit_X0_addSlit : GoodIn wsX6_slit (wsV RX6 73 RX0 yX0_addSlit wsX0_addSlit) := goodIn_app (goodIn_of _ (by decide +kernel)) ggX6_slit_X0_addSlit
set_option maxRecDepth 20000 in
theorem ggX6_slit_X6_keepTrial : GoodIn wsX6_slit wsX6_keepTrial := goodIn_r _ [55, 56, 2, 1, 57, 58, 59, 60, 61, 62, 63, 64, 65, 6, 66, 67, 68, 69, 70, 71, 72, 73, 74, 75, 8, 13, 14, 15, 16, 17, 18, 19, 20, 21, 76, 4, 5, 7, 9, 10, 11, 12, 3, 77, 78, 79, 80, 81, 82, 83, 84, 85, 86, 87, 98, 99, 88, 89, 90, 91, 92, 93, 94, 95, 96, 97] (by decide +kernel) (by decide +kernel)
set_option maxRecDepth 20000 in
theorem gX6_slit_X6_keepTrial : GoodIn wsX6_slit (wsV RX6 62 RX6 yX6_keepTrial wsX6_keepTrial) := goodIn_app (goodIn_of _ (by decide +kernel)) ggX6_slit_X6_keepTrial
theorem dX6_slit_0 : decode cX6_slit 0 = .ok (.aload_n 0, 1) := by decide +kernel
theorem dX6_slit_1 : decode cX6_slit 1 = .ok (.getfield 16, 3) := by decide +kernel
theorem dX6_slit_4 : decode cX6_slit 4 = .ok (.aload_n 0, 1) := by decide +kernel
theorem dX6_slit_5 : decode cX6_slit 5 = .ok (.getfield 10, 3) := by decide +kernel
theorem dX6_slit_8 : decode cX6_slit 8 = .ok (.invokevirtual 54, 3) := by decide +kernel
theorem dX6_slit_11 : decode cX6_slit 11 = .ok (.aload_n 0, 1) := by decide +kernel
theorem dX6_slit_12 : decode cX6_slit 12 = .ok (.aload_n 0, 1) := by decide +kernel
theorem dX6_slit_13 : decode cX6_slit 13 = .ok (.getfield 16, 3) := by decide +kernel
theorem dX6_slit_16 : decode cX6_slit 16 = .ok (.iload_n 1, 1) := by decide +kernel
theorem dX6_slit_17 : decode cX6_slit 17 = .ok (.iload_n 2, 1) := by decide +kernel
theorem dX6_slit_18 : decode cX6_slit 18 = .ok (.iload_n 3, 1) := by decide +kernel
theorem dX6_slit_19 : decode cX6_slit 19 = .ok (.invokevirtual 73, 3) := by decide +kernel
theorem dX6_slit_22 : decode cX6_slit 22 = .ok (.invokevirtual 62, 3) := by decide +kernel
theorem dX6_slit_25 : decode cX6_slit 25 = .ok (.ireturn, 1) := by decide +kernel
set_option maxRecDepth 20000 in
theorem ggX6_take_X0_copyFrom : GoodIn wsX6_take wsX0_copyFrom := goodIn_r _ [7, 8, 9, 10, 11, 12, 13, 14, 15, 16, 17, 18, 19, 20, 21, 78, 79, 80, 81, 82, 83, 84, 85, 86, 87] (by decide +kernel) (by decide +kernel)
set_option maxRecDepth 20000 in
theorem gX6_take_X0_copyFrom : GoodIn wsX6_take (wsV RX6 54 RX0 yX0_copyFrom wsX0_copyFrom) := goodIn_app (goodIn_of _ (by decide +kernel)) ggX6_take_X0_copyFrom
set_option maxRecDepth 20000 in
theorem ggX6_take_X0_removeThing : GoodIn wsX6_take wsX0_removeThing := goodIn_r _ [25, 26, 20, 27, 28, 29, 6, 30, 15, 31, 32, 33, 34, 35, 36, 37, 38, 16, 17, 18, 19, 39, 40, 41, 78, 79, 80, 81, 82, 83, 84, 85, 86, 87] (by decide +kernel) (by decide +kernel)
set_option maxRecDepth 20000 in
theorem gX6_take_X0_removeThing : GoodIn wsX6_take (wsV RX6 77 RX0 yX0_removeThing wsX0_removeThing) := goodIn_app (goodIn_of _ (by decide +kernel)) ggX6_take_X0_removeThing
set_option maxRecDepth 20000 in
theorem ggX6_take_X6_keepTrial : GoodIn wsX6_take wsX6_keepTrial := goodIn_r _ [45, 46, 2, 1, 47, 48, 49, 50, 51, 52, 53, 54, 55, 6, 56, 57, 58, 59, 60, 61, 62, 63, 64, 65, 8, 13, 14, 15, 16, 17, 18, 19, 20, 21, 66, 4, 5, 7, 9, 10, 11, 12, 3, 67, 68, 69, 70, 71, 72, 73, 74, 75, 76, 77, 88, 89, 78, 79, 80, 81, 82, 83, 84, 85, 86, 87] (by decide +kernel) (by decide +kernel)
set_option maxRecDepth 20000 in
theorem gX6_take_X6_keepTrial : GoodIn wsX6_take (wsV RX6 62 RX6 yX6_keepTrial wsX6_keepTrial) := goodIn_app (goodIn_of _ (by decide +kernel)) ggX6_take_X6_keepTrial
theorem dX6_take_0 : decode cX6_take 0 = .ok (.aload_n 0, 1) := by decide +kernel
theorem dX6_take_1 : decode cX6_take 1 = .ok (.getfield 16, 3) := by decide +kernel
theorem dX6_take_4 : decode cX6_take 4 = .ok (.aload_n 0, 1) := by decide +kernel
theorem dX6_take_5 : decode cX6_take 5 = .ok (.getfield 10, 3) := by decide +kernel
theorem dX6_take_8 : decode cX6_take 8 = .ok (.invokevirtual 54, 3) := by decide +kernel
theorem dX6_take_11 : decode cX6_take 11 = .ok (.aload_n 0, 1) := by decide +kernel
theorem dX6_take_12 : decode cX6_take 12 = .ok (.aload_n 0, 1) := by decide +kernel
theorem dX6_take_13 : decode cX6_take 13 = .ok (.getfield 16, 3) := by decide +kernel
theorem dX6_take_16 : decode cX6_take 16 = .ok (.iload_n 1, 1) := by decide +kernel
theorem dX6_take_17 : decode cX6_take 17 = .ok (.invokevirtual 77, 3) := by decide +kernel
theorem dX6_take_20 : decode cX6_take 20 = .ok (.invokevirtual 62, 3) := by decide +kernel
theorem dX6_take_23 : decode cX6_take 23 = .ok (.ireturn, 1) := by decide +kernel
set_option maxRecDepth 20000 in
theorem ggX6_move_X0_copyFrom : GoodIn wsX6_move wsX0_copyFrom := goodIn_r _ [7, 8, 9, 10, 11, 12, 13, 14, 15, 16, 17, 18, 19, 20, 21, 92, 93, 94, 95, 96, 97, 98, 99, 100, 101] (by decide +kernel) (by decide +kernel)
set_option maxRecDepth 20000 in
theorem gX6_move_X0_copyFrom : GoodIn wsX6_move (wsV RX6 54 RX0 yX0_copyFrom wsX0_copyFrom) := goodIn_app (goodIn_of _ (by decide +kernel)) ggX6_move_X0_copyFrom
set_option maxRecDepth 20000 in
theorem ggX6_move_X0_moveThing : GoodIn wsX6_move wsX0_moveThing := goodIn_r _ [25, 26, 27, 16, 17, 18, 19, 28, 29, 30, 6, 31, 15, 32, 33, 34, 35, 20, 36, 37, 38, 39, 40, 41, 42, 43, 44, 45, 46, 47, 48, 49, 50, 51, 52, 53, 54, 55, 92, 93, 94, 95, 96, 97, 98, 99, 100, 101] (by decide +kernel) (by decide +kernel)
set_option maxRecDepth 20000 in
theorem gX6_move_X0_moveThing : GoodIn wsX6_move (wsV RX6 80 RX0 yX0_moveThing wsX0_moveThing) := goodIn_app (goodIn_of _ (by decide +kernel)) ggX6_move_X0_moveThing
set_option maxRecDepth 20000 in
theorem ggX6_move_X6_keepTrial : GoodIn wsX6_move wsX6_keepTrial := goodIn_r _ [59, 60, 2, 1, 61, 62, 63, 64, 65, 66, 67, 68, 69, 6, 70, 71, 72, 73, 74, 75, 76, 77, 78, 79, 8, 13, 14, 15, 16, 17, 18, 19, 20, 21, 80, 4, 5, 7, 9, 10, 11, 12, 3, 81, 82, 83, 84, 85, 86, 87, 88, 89, 90, 91, 102, 103, 92, 93, 94, 95, 96, 97, 98, 99, 100, 101] (by decide +kernel) (by decide +kernel)
set_option maxRecDepth 20000 in
theorem gX6_move_X6_keepTrial : GoodIn wsX6_move (wsV RX6 62 RX6 yX6_keepTrial wsX6_keepTrial) := goodIn_app (goodIn_of _ (by decide +kernel)) ggX6_move_X6_keepTrial
theorem dX6_move_0 : decode cX6_move 0 = .ok (.aload_n 0, 1) := by decide +kernel
theorem dX6_move_1 : decode cX6_move 1 = .ok (.getfield 16, 3) := by decide +kernel
theorem dX6_move_4 : decode cX6_move 4 = .ok (.aload_n 0, 1) := by decide +kernel
theorem dX6_move_5 : decode cX6_move 5 = .ok (.getfield 10, 3) := by decide +kernel
theorem dX6_move_8 : decode cX6_move 8 = .ok (.invokevirtual 54, 3) := by decide +kernel
theorem dX6_move_11 : decode cX6_move 11 = .ok (.aload_n 0, 1) := by decide +kernel
theorem dX6_move_12 : decode cX6_move 12 = .ok (.aload_n 0, 1) := by decide +kernel
theorem dX6_move_13 : decode cX6_move 13 = .ok (.getfield 16, 3) := by decide +kernel
theorem dX6_move_16 : decode cX6_move 16 = .ok (.iload_n 1, 1) := by decide +kernel
theorem dX6_move_17 : decode cX6_move 17 = .ok (.iload_n 2, 1) := by decide +kernel
theorem dX6_move_18 : decode cX6_move 18 = .ok (.invokevirtual 80, 3) := by decide +kernel
theorem dX6_move_21 : decode cX6_move 21 = .ok (.invokevirtual 62, 3) := by decide +kernel
theorem dX6_move_24 : decode cX6_move 24 = .ok (.ireturn, 1) := by decide +kernel
set_option maxRecDepth 20000 in
theorem ggX6_set_X0_copyFrom : GoodIn wsX6_set wsX0_copyFrom := goodIn_r _ [7, 8, 9, 10, 11, 12, 13, 14, 15, 16, 17, 18, 19, 20, 21, 66, 67, 68, 69, 70, 71, 72, 73, 74, 75] (by decide +kernel) (by decide +kernel)
set_option maxRecDepth 20000 in
theorem gX6_set_X0_copyFrom : GoodIn wsX6_set (wsV RX6 54 RX0 yX0_copyFrom wsX0_copyFrom) := goodIn_app (goodIn_of _ (by decide +kernel)) ggX6_set_X0_copyFrom
set_option maxRecDepth 20000 in
theorem ggX6_set_X0_changeSetting : GoodIn wsX6_set wsX0_changeSetting := goodIn_r _ [25, 26, 21, 27, 28, 29, 66, 67, 68, 69, 70, 71, 72, 73, 74, 75] (by decide +kernel) (by decide +kernel)
set_option maxRecDepth 20000 in
theorem gX6_set_X0_changeSetting : GoodIn wsX6_set (wsV RX6 83 RX0 yX0_changeSetting wsX0_changeSetting) := goodIn_app (goodIn_of _ (by decide +kernel)) ggX6_set_X0_changeSetting
set_option maxRecDepth 20000 in
theorem ggX6_set_X6_keepTrial : GoodIn wsX6_set wsX6_keepTrial := goodIn_r _ [33, 34, 2, 1, 35, 36, 37, 38, 39, 40, 41, 42, 43, 6, 44, 45, 46, 47, 48, 49, 50, 51, 52, 53, 8, 13, 14, 15, 16, 17, 18, 19, 20, 21, 54, 4, 5, 7, 9, 10, 11, 12, 3, 55, 56, 57, 58, 59, 60, 61, 62, 63, 64, 65, 76, 77, 66, 67, 68, 69, 70, 71, 72, 73, 74, 75] (by decide +kernel) (by decide +kernel)
set_option maxRecDepth 20000 in
theorem gX6_set_X6_keepTrial : GoodIn wsX6_set (wsV RX6 62 RX6 yX6_keepTrial wsX6_keepTrial) := goodIn_app (goodIn_of _ (by decide +kernel)) ggX6_set_X6_keepTrial
theorem dX6_set_0 : decode cX6_set 0 = .ok (.aload_n 0, 1) := by decide +kernel
theorem dX6_set_1 : decode cX6_set 1 = .ok (.getfield 16, 3) := by decide +kernel
theorem dX6_set_4 : decode cX6_set 4 = .ok (.aload_n 0, 1) := by decide +kernel
theorem dX6_set_5 : decode cX6_set 5 = .ok (.getfield 10, 3) := by decide +kernel
theorem dX6_set_8 : decode cX6_set 8 = .ok (.invokevirtual 54, 3) := by decide +kernel
theorem dX6_set_11 : decode cX6_set 11 = .ok (.aload_n 0, 1) := by decide +kernel
theorem dX6_set_12 : decode cX6_set 12 = .ok (.aload_n 0, 1) := by decide +kernel
theorem dX6_set_13 : decode cX6_set 13 = .ok (.getfield 16, 3) := by decide +kernel
theorem dX6_set_16 : decode cX6_set 16 = .ok (.iload_n 1, 1) := by decide +kernel
theorem dX6_set_17 : decode cX6_set 17 = .ok (.iload_n 2, 1) := by decide +kernel
theorem dX6_set_18 : decode cX6_set 18 = .ok (.invokevirtual 83, 3) := by decide +kernel
theorem dX6_set_21 : decode cX6_set 21 = .ok (.invokevirtual 62, 3) := by decide +kernel
theorem dX6_set_24 : decode cX6_set 24 = .ok (.ireturn, 1) := by decide +kernel
set_option maxRecDepth 20000 in
theorem ggX6_lineOf_X0_hasLine : GoodIn wsX6_lineOf wsX0_hasLine := goodIn_r _ [15, 16, 99, 100, 101, 102, 103, 104, 105, 106, 107, 108] (by decide +kernel) (by decide +kernel)
set_option maxRecDepth 20000 in
theorem gX6_lineOf_X0_hasLine : GoodIn wsX6_lineOf (wsV RX6 86 RX0 yX0_hasLine wsX0_hasLine) := goodIn_app (goodIn_of _ (by decide +kernel)) ggX6_lineOf_X0_hasLine
set_option maxRecDepth 20000 in
theorem ggX6_lineOf_X6_within : GoodIn wsX6_lineOf wsX6_within := goodIn_r _ [20] (by decide +kernel) (by decide +kernel)
set_option maxRecDepth 20000 in
theorem gX6_lineOf_X6_within : GoodIn wsX6_lineOf (va_wsS RX6 90 yX6_within wsX6_within) := goodIn_app (goodIn_of _ (by decide +kernel)) ggX6_lineOf_X6_within
set_option maxRecDepth 20000 in
theorem ggX6_lineOf_X4_follow : GoodIn wsX6_lineOf wsX4_follow := goodIn_r _ [25, 26, 27, 28, 12, 13, 14, 15, 16, 29, 30, 31, 24, 32, 33, 34, 35, 36, 37, 38, 39, 40, 41, 42, 43, 44, 45, 46, 47, 48, 49, 50, 51, 52, 53, 54, 55, 56, 57, 58, 18, 19, 20, 59, 60, 61, 62, 63, 64, 65, 66, 67, 68, 69, 70, 71, 72, 73, 74, 75, 99, 100, 101, 102, 103, 104, 105, 106, 107, 108, 109, 110, 111, 112, 113] (by decide +kernel) (by decide +kernel)
set_option maxRecDepth 20000 in
theorem gX6_lineOf_X4_follow : GoodIn wsX6_lineOf (wsV RX6 95 RX4 yX4_follow wsX4_follow) := goodIn_app (goodIn_of _ (by decide +kernel)) ggX6_lineOf_X4_follow
set_option maxRecDepth 20000 in
theorem ggX6_lineOf_X4_comes : GoodIn wsX6_lineOf wsX4_comes := goodIn_r _ [79, 65, 109, 110, 111, 112, 113] (by decide +kernel) (by decide +kernel)
set_option maxRecDepth 20000 in
theorem gX6_lineOf_X4_comes : GoodIn wsX6_lineOf (wsV RX6 98 RX4 yX4_comes wsX4_comes) := goodIn_app (goodIn_of _ (by decide +kernel)) ggX6_lineOf_X4_comes
set_option maxRecDepth 20000 in
theorem ggX6_lineOf_X6_oneIf : GoodIn wsX6_lineOf wsX6_oneIf := goodIn_r _ [82] (by decide +kernel) (by decide +kernel)
set_option maxRecDepth 20000 in
theorem gX6_lineOf_X6_oneIf : GoodIn wsX6_lineOf (va_wsS RX6 108 yX6_oneIf wsX6_oneIf) := goodIn_app (goodIn_of _ (by decide +kernel)) ggX6_lineOf_X6_oneIf
set_option maxRecDepth 20000 in
theorem ggX6_lineOf_X0_cellOf : GoodIn wsX6_lineOf wsX0_cellOf := goodIn_r _ [86, 87, 74, 46, 47, 48, 99, 100, 101, 102, 103, 104, 105, 106, 107, 108] (by decide +kernel) (by decide +kernel)
set_option maxRecDepth 20000 in
theorem gX6_lineOf_X0_cellOf : GoodIn wsX6_lineOf (wsV RX6 119 RX0 yX0_cellOf wsX0_cellOf) := goodIn_app (goodIn_of _ (by decide +kernel)) ggX6_lineOf_X0_cellOf
theorem dX6_lineOf_0 : decode cX6_lineOf 0 = .ok (.aload_n 0, 1) := by decide +kernel
theorem dX6_lineOf_1 : decode cX6_lineOf 1 = .ok (.getfield 10, 3) := by decide +kernel
theorem dX6_lineOf_4 : decode cX6_lineOf 4 = .ok (.iload_n 1, 1) := by decide +kernel
theorem dX6_lineOf_5 : decode cX6_lineOf 5 = .ok (.invokevirtual 86, 3) := by decide +kernel
theorem dX6_lineOf_8 : decode cX6_lineOf 8 = .ok (.ifCond .eq 13, 3) := by decide +kernel
theorem dX6_lineOf_11 : decode cX6_lineOf 11 = .ok (.iload_n 2, 1) := by decide +kernel
theorem dX6_lineOf_12 : decode cX6_lineOf 12 = .ok (.iconst 0, 1) := by decide +kernel
theorem dX6_lineOf_13 : decode cX6_lineOf 13 = .ok (.bipush 7, 2) := by decide +kernel
theorem dX6_lineOf_15 : decode cX6_lineOf 15 = .ok (.invokestatic 90, 3) := by decide +kernel
theorem dX6_lineOf_18 : decode cX6_lineOf 18 = .ok (.ifCond .ne 6, 3) := by decide +kernel
theorem dX6_lineOf_21 : decode cX6_lineOf 21 = .ok (.ldc 94, 2) := by decide +kernel
theorem dX6_lineOf_23 : decode cX6_lineOf 23 = .ok (.ireturn, 1) := by decide +kernel
theorem dX6_lineOf_24 : decode cX6_lineOf 24 = .ok (.aload_n 0, 1) := by decide +kernel
theorem dX6_lineOf_25 : decode cX6_lineOf 25 = .ok (.getfield 22, 3) := by decide +kernel
theorem dX6_lineOf_28 : decode cX6_lineOf 28 = .ok (.aload_n 0, 1) := by decide +kernel
theorem dX6_lineOf_29 : decode cX6_lineOf 29 = .ok (.getfield 10, 3) := by decide +kernel
theorem dX6_lineOf_32 : decode cX6_lineOf 32 = .ok (.invokevirtual 95, 3) := by decide +kernel
theorem dX6_lineOf_35 : decode cX6_lineOf 35 = .ok (.aload_n 0, 1) := by decide +kernel
theorem dX6_lineOf_36 : decode cX6_lineOf 36 = .ok (.getfield 22, 3) := by decide +kernel
theorem dX6_lineOf_39 : decode cX6_lineOf 39 = .ok (.iload_n 1, 1) := by decide +kernel
theorem dX6_lineOf_40 : decode cX6_lineOf 40 = .ok (.invokevirtual 98, 3) := by decide +kernel
theorem dX6_lineOf_43 : decode cX6_lineOf 43 = .ok (.istore_n 3, 1) := by decide +kernel
theorem dX6_lineOf_44 : decode cX6_lineOf 44 = .ok (.iload_n 2, 1) := by decide +kernel
theorem dX6_lineOf_45 : decode cX6_lineOf 45 = .ok (.tableswitch 151 0 6 #[43, 53, 63, 68, 87, 106, 132], 43) := by decide +kernel
theorem dX6_lineOf_88 : decode cX6_lineOf 88 = .ok (.aload_n 0, 1) := by decide +kernel
theorem dX6_lineOf_89 : decode cX6_lineOf 89 = .ok (.getfield 10, 3) := by decide +kernel
theorem dX6_lineOf_92 : decode cX6_lineOf 92 = .ok (.getfield 101, 3) := by decide +kernel
theorem dX6_lineOf_95 : decode cX6_lineOf 95 = .ok (.iload_n 1, 1) := by decide +kernel
theorem dX6_lineOf_96 : decode cX6_lineOf 96 = .ok (.iaload, 1) := by decide +kernel
theorem dX6_lineOf_97 : decode cX6_lineOf 97 = .ok (.ireturn, 1) := by decide +kernel
theorem dX6_lineOf_98 : decode cX6_lineOf 98 = .ok (.aload_n 0, 1) := by decide +kernel
theorem dX6_lineOf_99 : decode cX6_lineOf 99 = .ok (.getfield 10, 3) := by decide +kernel
theorem dX6_lineOf_102 : decode cX6_lineOf 102 = .ok (.getfield 105, 3) := by decide +kernel
theorem dX6_lineOf_105 : decode cX6_lineOf 105 = .ok (.iload_n 1, 1) := by decide +kernel
theorem dX6_lineOf_106 : decode cX6_lineOf 106 = .ok (.iaload, 1) := by decide +kernel
theorem dX6_lineOf_107 : decode cX6_lineOf 107 = .ok (.ireturn, 1) := by decide +kernel
theorem dX6_lineOf_108 : decode cX6_lineOf 108 = .ok (.iload_n 3, 1) := by decide +kernel
theorem dX6_lineOf_109 : decode cX6_lineOf 109 = .ok (.invokestatic 108, 3) := by decide +kernel
theorem dX6_lineOf_112 : decode cX6_lineOf 112 = .ok (.ireturn, 1) := by decide +kernel
theorem dX6_lineOf_113 : decode cX6_lineOf 113 = .ok (.iload_n 3, 1) := by decide +kernel
theorem dX6_lineOf_114 : decode cX6_lineOf 114 = .ok (.ifCond .eq 15, 3) := by decide +kernel
theorem dX6_lineOf_117 : decode cX6_lineOf 117 = .ok (.aload_n 0, 1) := by decide +kernel
theorem dX6_lineOf_118 : decode cX6_lineOf 118 = .ok (.getfield 22, 3) := by decide +kernel
theorem dX6_lineOf_121 : decode cX6_lineOf 121 = .ok (.getfield 112, 3) := by decide +kernel
theorem dX6_lineOf_124 : decode cX6_lineOf 124 = .ok (.iload_n 1, 1) := by decide +kernel
theorem dX6_lineOf_125 : decode cX6_lineOf 125 = .ok (.iaload, 1) := by decide +kernel
theorem dX6_lineOf_126 : decode cX6_lineOf 126 = .ok (.goto 5, 3) := by decide +kernel
theorem dX6_lineOf_129 : decode cX6_lineOf 129 = .ok (.ldc 115, 2) := by decide +kernel
theorem dX6_lineOf_131 : decode cX6_lineOf 131 = .ok (.ireturn, 1) := by decide +kernel
theorem dX6_lineOf_132 : decode cX6_lineOf 132 = .ok (.iload_n 3, 1) := by decide +kernel
theorem dX6_lineOf_133 : decode cX6_lineOf 133 = .ok (.ifCond .eq 15, 3) := by decide +kernel
theorem dX6_lineOf_136 : decode cX6_lineOf 136 = .ok (.aload_n 0, 1) := by decide +kernel
theorem dX6_lineOf_137 : decode cX6_lineOf 137 = .ok (.getfield 22, 3) := by decide +kernel
theorem dX6_lineOf_140 : decode cX6_lineOf 140 = .ok (.getfield 116, 3) := by decide +kernel
theorem dX6_lineOf_143 : decode cX6_lineOf 143 = .ok (.iload_n 1, 1) := by decide +kernel
theorem dX6_lineOf_144 : decode cX6_lineOf 144 = .ok (.iaload, 1) := by decide +kernel
theorem dX6_lineOf_145 : decode cX6_lineOf 145 = .ok (.goto 5, 3) := by decide +kernel
theorem dX6_lineOf_148 : decode cX6_lineOf 148 = .ok (.ldc 115, 2) := by decide +kernel
theorem dX6_lineOf_150 : decode cX6_lineOf 150 = .ok (.ireturn, 1) := by decide +kernel
theorem dX6_lineOf_151 : decode cX6_lineOf 151 = .ok (.iload_n 3, 1) := by decide +kernel
theorem dX6_lineOf_152 : decode cX6_lineOf 152 = .ok (.ifCond .eq 22, 3) := by decide +kernel
theorem dX6_lineOf_155 : decode cX6_lineOf 155 = .ok (.aload_n 0, 1) := by decide +kernel
theorem dX6_lineOf_156 : decode cX6_lineOf 156 = .ok (.getfield 10, 3) := by decide +kernel
theorem dX6_lineOf_159 : decode cX6_lineOf 159 = .ok (.aload_n 0, 1) := by decide +kernel
theorem dX6_lineOf_160 : decode cX6_lineOf 160 = .ok (.getfield 22, 3) := by decide +kernel
theorem dX6_lineOf_163 : decode cX6_lineOf 163 = .ok (.getfield 112, 3) := by decide +kernel
theorem dX6_lineOf_166 : decode cX6_lineOf 166 = .ok (.iload_n 1, 1) := by decide +kernel
theorem dX6_lineOf_167 : decode cX6_lineOf 167 = .ok (.iaload, 1) := by decide +kernel
theorem dX6_lineOf_168 : decode cX6_lineOf 168 = .ok (.invokevirtual 119, 3) := by decide +kernel
theorem dX6_lineOf_171 : decode cX6_lineOf 171 = .ok (.goto 5, 3) := by decide +kernel
theorem dX6_lineOf_174 : decode cX6_lineOf 174 = .ok (.ldc 115, 2) := by decide +kernel
theorem dX6_lineOf_176 : decode cX6_lineOf 176 = .ok (.ireturn, 1) := by decide +kernel
theorem dX6_lineOf_177 : decode cX6_lineOf 177 = .ok (.iload_n 3, 1) := by decide +kernel
theorem dX6_lineOf_178 : decode cX6_lineOf 178 = .ok (.ifCond .eq 8, 3) := by decide +kernel
theorem dX6_lineOf_181 : decode cX6_lineOf 181 = .ok (.ldc 115, 2) := by decide +kernel
theorem dX6_lineOf_183 : decode cX6_lineOf 183 = .ok (.goto 12, 3) := by decide +kernel
theorem dX6_lineOf_186 : decode cX6_lineOf 186 = .ok (.aload_n 0, 1) := by decide +kernel
theorem dX6_lineOf_187 : decode cX6_lineOf 187 = .ok (.getfield 22, 3) := by decide +kernel
theorem dX6_lineOf_190 : decode cX6_lineOf 190 = .ok (.getfield 122, 3) := by decide +kernel
theorem dX6_lineOf_193 : decode cX6_lineOf 193 = .ok (.iload_n 1, 1) := by decide +kernel
theorem dX6_lineOf_194 : decode cX6_lineOf 194 = .ok (.iaload, 1) := by decide +kernel
theorem dX6_lineOf_195 : decode cX6_lineOf 195 = .ok (.ireturn, 1) := by decide +kernel
theorem dX6_lineOf_196 : decode cX6_lineOf 196 = .ok (.iload_n 3, 1) := by decide +kernel
theorem dX6_lineOf_197 : decode cX6_lineOf 197 = .ok (.ifCond .eq 8, 3) := by decide +kernel
theorem dX6_lineOf_200 : decode cX6_lineOf 200 = .ok (.ldc 115, 2) := by decide +kernel
theorem dX6_lineOf_202 : decode cX6_lineOf 202 = .ok (.goto 12, 3) := by decide +kernel
theorem dX6_lineOf_205 : decode cX6_lineOf 205 = .ok (.aload_n 0, 1) := by decide +kernel
theorem dX6_lineOf_206 : decode cX6_lineOf 206 = .ok (.getfield 22, 3) := by decide +kernel
theorem dX6_lineOf_209 : decode cX6_lineOf 209 = .ok (.getfield 125, 3) := by decide +kernel
theorem dX6_lineOf_212 : decode cX6_lineOf 212 = .ok (.iload_n 1, 1) := by decide +kernel
theorem dX6_lineOf_213 : decode cX6_lineOf 213 = .ok (.iaload, 1) := by decide +kernel
theorem dX6_lineOf_214 : decode cX6_lineOf 214 = .ok (.ireturn, 1) := by decide +kernel
set_option maxRecDepth 20000 in
theorem ggX6_thing_X6_within : GoodIn wsX6_thing wsX6_within := goodIn_r _ [12] (by decide +kernel) (by decide +kernel)
set_option maxRecDepth 20000 in
theorem gX6_thing_X6_within : GoodIn wsX6_thing (va_wsS RX6 90 yX6_within wsX6_within) := goodIn_app (goodIn_of _ (by decide +kernel)) ggX6_thing_X6_within
set_option maxRecDepth 20000 in
theorem ggX6_thing_X0_hasThing : GoodIn wsX6_thing wsX0_hasThing := goodIn_r _ [17, 18, 103, 104, 105, 106, 107, 108, 109, 110, 111, 112] (by decide +kernel) (by decide +kernel)
set_option maxRecDepth 20000 in
theorem gX6_thing_X0_hasThing : GoodIn wsX6_thing (wsV RX6 128 RX0 yX0_hasThing wsX0_hasThing) := goodIn_app (goodIn_of _ (by decide +kernel)) ggX6_thing_X0_hasThing
set_option maxRecDepth 20000 in
theorem ggX6_thing_X4_follow : GoodIn wsX6_thing wsX4_follow := goodIn_r _ [23, 24, 25, 26, 27, 28, 16, 29, 30, 31, 32, 33, 22, 34, 35, 36, 37, 38, 39, 14, 15, 17, 18, 40, 41, 42, 43, 44, 45, 46, 47, 48, 49, 50, 51, 52, 53, 54, 55, 56, 10, 11, 12, 57, 58, 59, 60, 61, 62, 63, 64, 65, 66, 67, 68, 69, 70, 71, 72, 73, 103, 104, 105, 106, 107, 108, 109, 110, 111, 112, 113, 114, 115, 116, 117] (by decide +kernel) (by decide +kernel)
set_option maxRecDepth 20000 in
theorem gX6_thing_X4_follow : GoodIn wsX6_thing (wsV RX6 95 RX4 yX4_follow wsX4_follow) := goodIn_app (goodIn_of _ (by decide +kernel)) ggX6_thing_X4_follow
set_option maxRecDepth 20000 in
theorem ggX6_thing_X6_turnOfThing : GoodIn wsX6_thing wsX6_turnOfThing := goodIn_r _ [77, 2, 6, 3, 78, 13, 14, 15, 16, 17, 18, 92, 93, 94, 95, 96, 97, 98, 99, 100, 101, 102, 103, 104, 105, 106, 107, 108, 109, 110, 111, 112] (by decide +kernel) (by decide +kernel)
set_option maxRecDepth 20000 in
theorem gX6_thing_X6_turnOfThing : GoodIn wsX6_thing (wsV RX6 143 RX6 yX6_turnOfThing wsX6_turnOfThing) := goodIn_app (goodIn_of _ (by decide +kernel)) ggX6_thing_X6_turnOfThing
set_option maxRecDepth 20000 in
theorem ggX6_thing_X4_linesAt : GoodIn wsX6_thing wsX4_linesAt := goodIn_r _ [82, 62, 63, 26, 27, 28, 16, 29, 30, 83, 84, 85, 22, 86, 113, 114, 115, 116, 117, 103, 104, 105, 106, 107, 108, 109, 110, 111, 112] (by decide +kernel) (by decide +kernel)
set_option maxRecDepth 20000 in
theorem gX6_thing_X4_linesAt : GoodIn wsX6_thing (wsV RX6 146 RX4 yX4_linesAt wsX4_linesAt) := goodIn_app (goodIn_of _ (by decide +kernel)) ggX6_thing_X4_linesAt
set_option maxRecDepth 20000 in
theorem ggX6_thing_X4_lightLostAt : GoodIn wsX6_thing wsX4_lightLostAt := goodIn_r _ [90, 62, 91, 26, 27, 28, 16, 29, 30, 83, 84, 85, 22, 86, 63, 113, 114, 115, 116, 117, 103, 104, 105, 106, 107, 108, 109, 110, 111, 112] (by decide +kernel) (by decide +kernel)
set_option maxRecDepth 20000 in
theorem gX6_thing_X4_lightLostAt : GoodIn wsX6_thing (wsV RX6 150 RX4 yX4_lightLostAt wsX4_lightLostAt) := goodIn_app (goodIn_of _ (by decide +kernel)) ggX6_thing_X4_lightLostAt
theorem dX6_thing_0 : decode cX6_thing 0 = .ok (.iload_n 1, 1) := by decide +kernel
theorem dX6_thing_1 : decode cX6_thing 1 = .ok (.ifCond .lt 13, 3) := by decide +kernel
theorem dX6_thing_4 : decode cX6_thing 4 = .ok (.iload_n 2, 1) := by decide +kernel
theorem dX6_thing_5 : decode cX6_thing 5 = .ok (.iconst 0, 1) := by decide +kernel
theorem dX6_thing_6 : decode cX6_thing 6 = .ok (.bipush 6, 2) := by decide +kernel
theorem dX6_thing_8 : decode cX6_thing 8 = .ok (.invokestatic 90, 3) := by decide +kernel
theorem dX6_thing_11 : decode cX6_thing 11 = .ok (.ifCond .ne 6, 3) := by decide +kernel
theorem dX6_thing_14 : decode cX6_thing 14 = .ok (.ldc 94, 2) := by decide +kernel
theorem dX6_thing_16 : decode cX6_thing 16 = .ok (.ireturn, 1) := by decide +kernel
theorem dX6_thing_17 : decode cX6_thing 17 = .ok (.aload_n 0, 1) := by decide +kernel
theorem dX6_thing_18 : decode cX6_thing 18 = .ok (.getfield 10, 3) := by decide +kernel
theorem dX6_thing_21 : decode cX6_thing 21 = .ok (.iload_n 1, 1) := by decide +kernel
theorem dX6_thing_22 : decode cX6_thing 22 = .ok (.invokevirtual 128, 3) := by decide +kernel
theorem dX6_thing_25 : decode cX6_thing 25 = .ok (.ifCond .ne 6, 3) := by decide +kernel
theorem dX6_thing_28 : decode cX6_thing 28 = .ok (.ldc 115, 2) := by decide +kernel
theorem dX6_thing_30 : decode cX6_thing 30 = .ok (.ireturn, 1) := by decide +kernel
theorem dX6_thing_31 : decode cX6_thing 31 = .ok (.aload_n 0, 1) := by decide +kernel
theorem dX6_thing_32 : decode cX6_thing 32 = .ok (.getfield 22, 3) := by decide +kernel
theorem dX6_thing_35 : decode cX6_thing 35 = .ok (.aload_n 0, 1) := by decide +kernel
theorem dX6_thing_36 : decode cX6_thing 36 = .ok (.getfield 10, 3) := by decide +kernel
theorem dX6_thing_39 : decode cX6_thing 39 = .ok (.invokevirtual 95, 3) := by decide +kernel
theorem dX6_thing_42 : decode cX6_thing 42 = .ok (.iload_n 2, 1) := by decide +kernel
theorem dX6_thing_43 : decode cX6_thing 43 = .ok (.tableswitch 104 0 5 #[37, 47, 57, 67, 77, 83], 37) := by decide +kernel
theorem dX6_thing_80 : decode cX6_thing 80 = .ok (.aload_n 0, 1) := by decide +kernel
theorem dX6_thing_81 : decode cX6_thing 81 = .ok (.getfield 10, 3) := by decide +kernel
theorem dX6_thing_84 : decode cX6_thing 84 = .ok (.getfield 131, 3) := by decide +kernel
theorem dX6_thing_87 : decode cX6_thing 87 = .ok (.iload_n 1, 1) := by decide +kernel
theorem dX6_thing_88 : decode cX6_thing 88 = .ok (.iaload, 1) := by decide +kernel
theorem dX6_thing_89 : decode cX6_thing 89 = .ok (.ireturn, 1) := by decide +kernel
theorem dX6_thing_90 : decode cX6_thing 90 = .ok (.aload_n 0, 1) := by decide +kernel
theorem dX6_thing_91 : decode cX6_thing 91 = .ok (.getfield 10, 3) := by decide +kernel
theorem dX6_thing_94 : decode cX6_thing 94 = .ok (.getfield 134, 3) := by decide +kernel
theorem dX6_thing_97 : decode cX6_thing 97 = .ok (.iload_n 1, 1) := by decide +kernel
theorem dX6_thing_98 : decode cX6_thing 98 = .ok (.iaload, 1) := by decide +kernel
theorem dX6_thing_99 : decode cX6_thing 99 = .ok (.ireturn, 1) := by decide +kernel
theorem dX6_thing_100 : decode cX6_thing 100 = .ok (.aload_n 0, 1) := by decide +kernel
theorem dX6_thing_101 : decode cX6_thing 101 = .ok (.getfield 10, 3) := by decide +kernel
theorem dX6_thing_104 : decode cX6_thing 104 = .ok (.getfield 137, 3) := by decide +kernel
theorem dX6_thing_107 : decode cX6_thing 107 = .ok (.iload_n 1, 1) := by decide +kernel
theorem dX6_thing_108 : decode cX6_thing 108 = .ok (.iaload, 1) := by decide +kernel
theorem dX6_thing_109 : decode cX6_thing 109 = .ok (.ireturn, 1) := by decide +kernel
theorem dX6_thing_110 : decode cX6_thing 110 = .ok (.aload_n 0, 1) := by decide +kernel
theorem dX6_thing_111 : decode cX6_thing 111 = .ok (.getfield 10, 3) := by decide +kernel
theorem dX6_thing_114 : decode cX6_thing 114 = .ok (.getfield 140, 3) := by decide +kernel
theorem dX6_thing_117 : decode cX6_thing 117 = .ok (.iload_n 1, 1) := by decide +kernel
theorem dX6_thing_118 : decode cX6_thing 118 = .ok (.iaload, 1) := by decide +kernel
theorem dX6_thing_119 : decode cX6_thing 119 = .ok (.ireturn, 1) := by decide +kernel
theorem dX6_thing_120 : decode cX6_thing 120 = .ok (.aload_n 0, 1) := by decide +kernel
theorem dX6_thing_121 : decode cX6_thing 121 = .ok (.iload_n 1, 1) := by decide +kernel
theorem dX6_thing_122 : decode cX6_thing 122 = .ok (.invokevirtual 143, 3) := by decide +kernel
theorem dX6_thing_125 : decode cX6_thing 125 = .ok (.ireturn, 1) := by decide +kernel
theorem dX6_thing_126 : decode cX6_thing 126 = .ok (.aload_n 0, 1) := by decide +kernel
theorem dX6_thing_127 : decode cX6_thing 127 = .ok (.getfield 22, 3) := by decide +kernel
theorem dX6_thing_130 : decode cX6_thing 130 = .ok (.aload_n 0, 1) := by decide +kernel
theorem dX6_thing_131 : decode cX6_thing 131 = .ok (.getfield 10, 3) := by decide +kernel
theorem dX6_thing_134 : decode cX6_thing 134 = .ok (.aload_n 0, 1) := by decide +kernel
theorem dX6_thing_135 : decode cX6_thing 135 = .ok (.getfield 10, 3) := by decide +kernel
theorem dX6_thing_138 : decode cX6_thing 138 = .ok (.getfield 131, 3) := by decide +kernel
theorem dX6_thing_141 : decode cX6_thing 141 = .ok (.iload_n 1, 1) := by decide +kernel
theorem dX6_thing_142 : decode cX6_thing 142 = .ok (.iaload, 1) := by decide +kernel
theorem dX6_thing_143 : decode cX6_thing 143 = .ok (.invokevirtual 146, 3) := by decide +kernel
theorem dX6_thing_146 : decode cX6_thing 146 = .ok (.ireturn, 1) := by decide +kernel
theorem dX6_thing_147 : decode cX6_thing 147 = .ok (.aload_n 0, 1) := by decide +kernel
theorem dX6_thing_148 : decode cX6_thing 148 = .ok (.getfield 22, 3) := by decide +kernel
theorem dX6_thing_151 : decode cX6_thing 151 = .ok (.aload_n 0, 1) := by decide +kernel
theorem dX6_thing_152 : decode cX6_thing 152 = .ok (.getfield 10, 3) := by decide +kernel
theorem dX6_thing_155 : decode cX6_thing 155 = .ok (.aload_n 0, 1) := by decide +kernel
theorem dX6_thing_156 : decode cX6_thing 156 = .ok (.getfield 10, 3) := by decide +kernel
theorem dX6_thing_159 : decode cX6_thing 159 = .ok (.getfield 131, 3) := by decide +kernel
theorem dX6_thing_162 : decode cX6_thing 162 = .ok (.iload_n 1, 1) := by decide +kernel
theorem dX6_thing_163 : decode cX6_thing 163 = .ok (.iaload, 1) := by decide +kernel
theorem dX6_thing_164 : decode cX6_thing 164 = .ok (.invokevirtual 150, 3) := by decide +kernel
theorem dX6_thing_167 : decode cX6_thing 167 = .ok (.ireturn, 1) := by decide +kernel
set_option maxRecDepth 20000 in
theorem ggX6_height_X0_hasLine : GoodIn wsX6_height wsX0_hasLine := goodIn_r _ [7, 8, 84, 85, 86, 87, 88, 89, 90, 91, 92, 93] (by decide +kernel) (by decide +kernel)
set_option maxRecDepth 20000 in
theorem gX6_height_X0_hasLine : GoodIn wsX6_height (wsV RX6 86 RX0 yX0_hasLine wsX0_hasLine) := goodIn_app (goodIn_of _ (by decide +kernel)) ggX6_height_X0_hasLine
set_option maxRecDepth 20000 in
theorem ggX6_height_X6_within : GoodIn wsX6_height wsX6_within := goodIn_r _ [12] (by decide +kernel) (by decide +kernel)
set_option maxRecDepth 20000 in
theorem gX6_height_X6_within : GoodIn wsX6_height (va_wsS RX6 90 yX6_within wsX6_within) := goodIn_app (goodIn_of _ (by decide +kernel)) ggX6_height_X6_within
set_option maxRecDepth 20000 in
theorem ggX6_height_X6_heightAt : GoodIn wsX6_height wsX6_heightAt := goodIn_r _ [16, 17, 1, 18, 19, 20, 21, 22, 23, 24, 25, 26, 27, 28, 29, 4, 5, 6, 7, 8, 30, 31, 32, 33, 34, 35, 36, 37, 38, 39, 40, 41, 42, 43, 44, 45, 46, 47, 48, 49, 50, 51, 10, 11, 12, 52, 53, 54, 55, 56, 57, 58, 59, 60, 61, 62, 63, 64, 65, 66, 67, 68, 69, 70, 71, 72, 73, 74, 75, 76, 77, 78, 79, 80, 81, 82, 83, 94, 95, 96, 97, 98, 84, 85, 86, 87, 88, 89, 90, 91, 92, 93] (by decide +kernel) (by decide +kernel)
set_option maxRecDepth 20000 in
theorem gX6_height_X6_heightAt : GoodIn wsX6_height (wsV RX6 153 RX6 yX6_heightAt wsX6_heightAt) := goodIn_app (goodIn_of _ (by decide +kernel)) ggX6_height_X6_heightAt
theorem dX6_height_0 : decode cX6_height 0 = .ok (.aload_n 0, 1) := by decide +kernel
theorem dX6_height_1 : decode cX6_height 1 = .ok (.getfield 10, 3) := by decide +kernel
theorem dX6_height_4 : decode cX6_height 4 = .ok (.iload_n 1, 1) := by decide +kernel
theorem dX6_height_5 : decode cX6_height 5 = .ok (.invokevirtual 86, 3) := by decide +kernel
theorem dX6_height_8 : decode cX6_height 8 = .ok (.ifCond .eq 14, 3) := by decide +kernel
theorem dX6_height_11 : decode cX6_height 11 = .ok (.iload_n 2, 1) := by decide +kernel
theorem dX6_height_12 : decode cX6_height 12 = .ok (.iconst 0, 1) := by decide +kernel
theorem dX6_height_13 : decode cX6_height 13 = .ok (.sipush 1000, 3) := by decide +kernel
theorem dX6_height_16 : decode cX6_height 16 = .ok (.invokestatic 90, 3) := by decide +kernel
theorem dX6_height_19 : decode cX6_height 19 = .ok (.ifCond .ne 6, 3) := by decide +kernel
theorem dX6_height_22 : decode cX6_height 22 = .ok (.ldc 94, 2) := by decide +kernel
theorem dX6_height_24 : decode cX6_height 24 = .ok (.ireturn, 1) := by decide +kernel
theorem dX6_height_25 : decode cX6_height 25 = .ok (.aload_n 0, 1) := by decide +kernel
theorem dX6_height_26 : decode cX6_height 26 = .ok (.iload_n 1, 1) := by decide +kernel
theorem dX6_height_27 : decode cX6_height 27 = .ok (.iload_n 2, 1) := by decide +kernel
theorem dX6_height_28 : decode cX6_height 28 = .ok (.invokevirtual 153, 3) := by decide +kernel
theorem dX6_height_31 : decode cX6_height 31 = .ok (.ireturn, 1) := by decide +kernel
set_option maxRecDepth 20000 in
theorem ggX6_light_X6_within : GoodIn wsX6_light wsX6_within := goodIn_r _ [8] (by decide +kernel) (by decide +kernel)
set_option maxRecDepth 20000 in
theorem gX6_light_X6_within : GoodIn wsX6_light (va_wsS RX6 90 yX6_within wsX6_within) := goodIn_app (goodIn_of _ (by decide +kernel)) ggX6_light_X6_within
set_option maxRecDepth 20000 in
theorem ggX6_light_X4_follow : GoodIn wsX6_light wsX4_follow := goodIn_r _ [13, 14, 15, 16, 17, 18, 19, 20, 21, 22, 23, 24, 12, 25, 26, 27, 28, 29, 30, 31, 32, 33, 34, 35, 36, 37, 38, 39, 40, 41, 42, 43, 44, 45, 46, 47, 48, 49, 50, 51, 6, 7, 8, 52, 53, 54, 55, 56, 57, 58, 59, 60, 61, 62, 63, 64, 65, 66, 67, 68, 117, 118, 119, 120, 121, 122, 123, 124, 125, 126, 127, 128, 129, 130, 131] (by decide +kernel) (by decide +kernel)
set_option maxRecDepth 20000 in
theorem gX6_light_X4_follow : GoodIn wsX6_light (wsV RX6 95 RX4 yX4_follow wsX4_follow) := goodIn_app (goodIn_of _ (by decide +kernel)) ggX6_light_X4_follow
set_option maxRecDepth 20000 in
theorem ggX6_light_X1_gather : GoodIn wsX6_light wsX1_gather := goodIn_r _ [73, 74, 75, 76, 77, 17, 18, 19, 20, 21, 78, 79, 80, 12, 81, 58, 82, 83, 84, 85, 86, 67, 39, 40, 41, 87, 88, 89, 72, 90, 91, 92, 93, 94, 95, 96, 97, 98, 99, 100, 101, 132, 133, 134, 135, 127, 128, 129, 130, 131, 117, 118, 119, 120, 121, 122, 123, 124, 125, 126] (by decide +kernel) (by decide +kernel)
set_option maxRecDepth 20000 in
theorem gX6_light_X1_gather : GoodIn wsX6_light (wsV RX6 156 RX1 yX1_gather wsX1_gather) := goodIn_app (goodIn_of _ (by decide +kernel)) ggX6_light_X1_gather
set_option maxRecDepth 20000 in
theorem ggX6_light_X1_lightOf : GoodIn wsX6_light wsX1_lightOf := goodIn_r _ [105, 92, 94, 95, 96, 72, 97, 91, 98, 99, 100, 101, 74, 132, 133, 134, 135] (by decide +kernel) (by decide +kernel)
set_option maxRecDepth 20000 in
theorem gX6_light_X1_lightOf : GoodIn wsX6_light (wsV RX6 160 RX1 yX1_lightOf wsX1_lightOf) := goodIn_app (goodIn_of _ (by decide +kernel)) ggX6_light_X1_lightOf
theorem dX6_light_0 : decode cX6_light 0 = .ok (.iload_n 1, 1) := by decide +kernel
theorem dX6_light_1 : decode cX6_light 1 = .ok (.sipush (-9999), 3) := by decide +kernel
theorem dX6_light_4 : decode cX6_light 4 = .ok (.sipush 9999, 3) := by decide +kernel
theorem dX6_light_7 : decode cX6_light 7 = .ok (.invokestatic 90, 3) := by decide +kernel
theorem dX6_light_10 : decode cX6_light 10 = .ok (.ifCond .ne 6, 3) := by decide +kernel
theorem dX6_light_13 : decode cX6_light 13 = .ok (.ldc 94, 2) := by decide +kernel
theorem dX6_light_15 : decode cX6_light 15 = .ok (.ireturn, 1) := by decide +kernel
theorem dX6_light_16 : decode cX6_light 16 = .ok (.aload_n 0, 1) := by decide +kernel
theorem dX6_light_17 : decode cX6_light 17 = .ok (.getfield 22, 3) := by decide +kernel
theorem dX6_light_20 : decode cX6_light 20 = .ok (.aload_n 0, 1) := by decide +kernel
theorem dX6_light_21 : decode cX6_light 21 = .ok (.getfield 10, 3) := by decide +kernel
theorem dX6_light_24 : decode cX6_light 24 = .ok (.invokevirtual 95, 3) := by decide +kernel
theorem dX6_light_27 : decode cX6_light 27 = .ok (.aload_n 0, 1) := by decide +kernel
theorem dX6_light_28 : decode cX6_light 28 = .ok (.getfield 29, 3) := by decide +kernel
theorem dX6_light_31 : decode cX6_light 31 = .ok (.aload_n 0, 1) := by decide +kernel
theorem dX6_light_32 : decode cX6_light 32 = .ok (.getfield 10, 3) := by decide +kernel
theorem dX6_light_35 : decode cX6_light 35 = .ok (.aload_n 0, 1) := by decide +kernel
theorem dX6_light_36 : decode cX6_light 36 = .ok (.getfield 22, 3) := by decide +kernel
theorem dX6_light_39 : decode cX6_light 39 = .ok (.invokevirtual 156, 3) := by decide +kernel
theorem dX6_light_42 : decode cX6_light 42 = .ok (.aload_n 0, 1) := by decide +kernel
theorem dX6_light_43 : decode cX6_light 43 = .ok (.getfield 29, 3) := by decide +kernel
theorem dX6_light_46 : decode cX6_light 46 = .ok (.iload_n 1, 1) := by decide +kernel
theorem dX6_light_47 : decode cX6_light 47 = .ok (.invokevirtual 160, 3) := by decide +kernel
theorem dX6_light_50 : decode cX6_light 50 = .ok (.ireturn, 1) := by decide +kernel
set_option maxRecDepth 20000 in
theorem ggX6_bright_X6_within : GoodIn wsX6_bright wsX6_within := goodIn_r _ [12] (by decide +kernel) (by decide +kernel)
set_option maxRecDepth 20000 in
theorem gX6_bright_X6_within : GoodIn wsX6_bright (va_wsS RX6 90 yX6_within wsX6_within) := goodIn_app (goodIn_of _ (by decide +kernel)) ggX6_bright_X6_within
set_option maxRecDepth 20000 in
theorem ggX6_bright_X4_follow : GoodIn wsX6_bright wsX4_follow := goodIn_r _ [17, 18, 19, 20, 21, 22, 23, 24, 25, 26, 27, 28, 16, 29, 30, 31, 32, 33, 34, 35, 36, 37, 38, 39, 40, 41, 42, 43, 44, 45, 46, 47, 48, 49, 50, 51, 52, 53, 54, 55, 10, 11, 12, 56, 57, 58, 59, 60, 61, 62, 63, 64, 65, 66, 67, 68, 69, 70, 71, 72, 130, 131, 132, 133, 134, 135, 136, 137, 138, 139, 140, 141, 142, 143, 144] (by decide +kernel) (by decide +kernel)
set_option maxRecDepth 20000 in
theorem gX6_bright_X4_follow : GoodIn wsX6_bright (wsV RX6 95 RX4 yX4_follow wsX4_follow) := goodIn_app (goodIn_of _ (by decide +kernel)) ggX6_bright_X4_follow
set_option maxRecDepth 20000 in
theorem ggX6_bright_X1_gather : GoodIn wsX6_bright wsX1_gather := goodIn_r _ [77, 78, 79, 80, 81, 21, 22, 23, 24, 25, 82, 83, 84, 16, 85, 62, 86, 87, 88, 89, 90, 71, 43, 44, 45, 91, 92, 93, 76, 94, 95, 96, 97, 98, 99, 100, 101, 102, 103, 104, 105, 126, 127, 128, 129, 140, 141, 142, 143, 144, 130, 131, 132, 133, 134, 135, 136, 137, 138, 139] (by decide +kernel) (by decide +kernel)
set_option maxRecDepth 20000 in
theorem gX6_bright_X1_gather : GoodIn wsX6_bright (wsV RX6 156 RX1 yX1_gather wsX1_gather) := goodIn_app (goodIn_of _ (by decide +kernel)) ggX6_bright_X1_gather
set_option maxRecDepth 20000 in
theorem ggX6_bright_X1_slotOfRank : GoodIn wsX6_bright wsX1_slotOfRank := goodIn_r _ [109, 102, 103, 104, 76, 105, 78, 110, 111, 112, 113, 96, 95, 126, 127, 128, 129] (by decide +kernel) (by decide +kernel)
set_option maxRecDepth 20000 in
theorem gX6_bright_X1_slotOfRank : GoodIn wsX6_bright (wsV RX6 163 RX1 yX1_slotOfRank wsX1_slotOfRank) := goodIn_app (goodIn_of _ (by decide +kernel)) ggX6_bright_X1_slotOfRank
set_option maxRecDepth 20000 in
theorem ggX6_bright_X1_hasSlot : GoodIn wsX6_bright wsX1_hasSlot := goodIn_r _ [105, 78, 126, 127, 128, 129] (by decide +kernel) (by decide +kernel)
set_option maxRecDepth 20000 in
theorem gX6_bright_X1_hasSlot : GoodIn wsX6_bright (wsV RX6 166 RX1 yX1_hasSlot wsX1_hasSlot) := goodIn_app (goodIn_of _ (by decide +kernel)) ggX6_bright_X1_hasSlot
theorem dX6_bright_0 : decode cX6_bright 0 = .ok (.iload_n 1, 1) := by decide +kernel
theorem dX6_bright_1 : decode cX6_bright 1 = .ok (.ifCond .lt 12, 3) := by decide +kernel
theorem dX6_bright_4 : decode cX6_bright 4 = .ok (.iload_n 2, 1) := by decide +kernel
theorem dX6_bright_5 : decode cX6_bright 5 = .ok (.iconst 0, 1) := by decide +kernel
theorem dX6_bright_6 : decode cX6_bright 6 = .ok (.iconst 2, 1) := by decide +kernel
theorem dX6_bright_7 : decode cX6_bright 7 = .ok (.invokestatic 90, 3) := by decide +kernel
theorem dX6_bright_10 : decode cX6_bright 10 = .ok (.ifCond .ne 6, 3) := by decide +kernel
theorem dX6_bright_13 : decode cX6_bright 13 = .ok (.ldc 94, 2) := by decide +kernel
theorem dX6_bright_15 : decode cX6_bright 15 = .ok (.ireturn, 1) := by decide +kernel
theorem dX6_bright_16 : decode cX6_bright 16 = .ok (.aload_n 0, 1) := by decide +kernel
theorem dX6_bright_17 : decode cX6_bright 17 = .ok (.getfield 22, 3) := by decide +kernel
theorem dX6_bright_20 : decode cX6_bright 20 = .ok (.aload_n 0, 1) := by decide +kernel
theorem dX6_bright_21 : decode cX6_bright 21 = .ok (.getfield 10, 3) := by decide +kernel
theorem dX6_bright_24 : decode cX6_bright 24 = .ok (.invokevirtual 95, 3) := by decide +kernel
theorem dX6_bright_27 : decode cX6_bright 27 = .ok (.aload_n 0, 1) := by decide +kernel
theorem dX6_bright_28 : decode cX6_bright 28 = .ok (.getfield 29, 3) := by decide +kernel
theorem dX6_bright_31 : decode cX6_bright 31 = .ok (.aload_n 0, 1) := by decide +kernel
theorem dX6_bright_32 : decode cX6_bright 32 = .ok (.getfield 10, 3) := by decide +kernel
theorem dX6_bright_35 : decode cX6_bright 35 = .ok (.aload_n 0, 1) := by decide +kernel
theorem dX6_bright_36 : decode cX6_bright 36 = .ok (.getfield 22, 3) := by decide +kernel
theorem dX6_bright_39 : decode cX6_bright 39 = .ok (.invokevirtual 156, 3) := by decide +kernel
theorem dX6_bright_42 : decode cX6_bright 42 = .ok (.aload_n 0, 1) := by decide +kernel
theorem dX6_bright_43 : decode cX6_bright 43 = .ok (.getfield 29, 3) := by decide +kernel
theorem dX6_bright_46 : decode cX6_bright 46 = .ok (.iload_n 1, 1) := by decide +kernel
theorem dX6_bright_47 : decode cX6_bright 47 = .ok (.invokevirtual 163, 3) := by decide +kernel
theorem dX6_bright_50 : decode cX6_bright 50 = .ok (.istore_n 3, 1) := by decide +kernel
theorem dX6_bright_51 : decode cX6_bright 51 = .ok (.aload_n 0, 1) := by decide +kernel
theorem dX6_bright_52 : decode cX6_bright 52 = .ok (.getfield 29, 3) := by decide +kernel
theorem dX6_bright_55 : decode cX6_bright 55 = .ok (.iload_n 3, 1) := by decide +kernel
theorem dX6_bright_56 : decode cX6_bright 56 = .ok (.invokevirtual 166, 3) := by decide +kernel
theorem dX6_bright_59 : decode cX6_bright 59 = .ok (.ifCond .ne 6, 3) := by decide +kernel
theorem dX6_bright_62 : decode cX6_bright 62 = .ok (.ldc 115, 2) := by decide +kernel
theorem dX6_bright_64 : decode cX6_bright 64 = .ok (.ireturn, 1) := by decide +kernel
theorem dX6_bright_65 : decode cX6_bright 65 = .ok (.iload_n 2, 1) := by decide +kernel
theorem dX6_bright_66 : decode cX6_bright 66 = .ok (.lookupswitch 46 #[(0, 26), (1, 36)], 26) := by decide +kernel
theorem dX6_bright_92 : decode cX6_bright 92 = .ok (.aload_n 0, 1) := by decide +kernel
theorem dX6_bright_93 : decode cX6_bright 93 = .ok (.getfield 29, 3) := by decide +kernel
theorem dX6_bright_96 : decode cX6_bright 96 = .ok (.getfield 169, 3) := by decide +kernel
theorem dX6_bright_99 : decode cX6_bright 99 = .ok (.iload_n 3, 1) := by decide +kernel
theorem dX6_bright_100 : decode cX6_bright 100 = .ok (.iaload, 1) := by decide +kernel
theorem dX6_bright_101 : decode cX6_bright 101 = .ok (.ireturn, 1) := by decide +kernel
theorem dX6_bright_102 : decode cX6_bright 102 = .ok (.aload_n 0, 1) := by decide +kernel
theorem dX6_bright_103 : decode cX6_bright 103 = .ok (.getfield 29, 3) := by decide +kernel
theorem dX6_bright_106 : decode cX6_bright 106 = .ok (.getfield 172, 3) := by decide +kernel
theorem dX6_bright_109 : decode cX6_bright 109 = .ok (.iload_n 3, 1) := by decide +kernel
theorem dX6_bright_110 : decode cX6_bright 110 = .ok (.iaload, 1) := by decide +kernel
theorem dX6_bright_111 : decode cX6_bright 111 = .ok (.ireturn, 1) := by decide +kernel
theorem dX6_bright_112 : decode cX6_bright 112 = .ok (.aload_n 0, 1) := by decide +kernel
theorem dX6_bright_113 : decode cX6_bright 113 = .ok (.getfield 29, 3) := by decide +kernel
theorem dX6_bright_116 : decode cX6_bright 116 = .ok (.getfield 173, 3) := by decide +kernel
theorem dX6_bright_119 : decode cX6_bright 119 = .ok (.iload_n 3, 1) := by decide +kernel
theorem dX6_bright_120 : decode cX6_bright 120 = .ok (.iaload, 1) := by decide +kernel
theorem dX6_bright_121 : decode cX6_bright 121 = .ok (.ireturn, 1) := by decide +kernel
set_option maxRecDepth 20000 in
theorem ggX6_bending_X6_within : GoodIn wsX6_bending wsX6_within := goodIn_r _ [5] (by decide +kernel) (by decide +kernel)
set_option maxRecDepth 20000 in
theorem gX6_bending_X6_within : GoodIn wsX6_bending (va_wsS RX6 90 yX6_within wsX6_within) := goodIn_app (goodIn_of _ (by decide +kernel)) ggX6_bending_X6_within
set_option maxRecDepth 20000 in
theorem ggX6_bending_X6_bendingOf : GoodIn wsX6_bending wsX6_bendingOf := goodIn_r _ [8, 9, 10, 11, 12] (by decide +kernel) (by decide +kernel)
set_option maxRecDepth 20000 in
theorem gX6_bending_X6_bendingOf : GoodIn wsX6_bending (va_wsS RX6 176 yX6_bendingOf wsX6_bendingOf) := goodIn_app (goodIn_of _ (by decide +kernel)) ggX6_bending_X6_bendingOf
theorem dX6_bending_0 : decode cX6_bending 0 = .ok (.iload_n 1, 1) := by decide +kernel
theorem dX6_bending_1 : decode cX6_bending 1 = .ok (.iconst 0, 1) := by decide +kernel
theorem dX6_bending_2 : decode cX6_bending 2 = .ok (.iconst 1, 1) := by decide +kernel
theorem dX6_bending_3 : decode cX6_bending 3 = .ok (.invokestatic 90, 3) := by decide +kernel
theorem dX6_bending_6 : decode cX6_bending 6 = .ok (.ifCond .eq 16, 3) := by decide +kernel
theorem dX6_bending_9 : decode cX6_bending 9 = .ok (.iload_n 2, 1) := by decide +kernel
theorem dX6_bending_10 : decode cX6_bending 10 = .ok (.sipush 380, 3) := by decide +kernel
theorem dX6_bending_13 : decode cX6_bending 13 = .ok (.sipush 780, 3) := by decide +kernel
theorem dX6_bending_16 : decode cX6_bending 16 = .ok (.invokestatic 90, 3) := by decide +kernel
theorem dX6_bending_19 : decode cX6_bending 19 = .ok (.ifCond .ne 6, 3) := by decide +kernel
theorem dX6_bending_22 : decode cX6_bending 22 = .ok (.ldc 94, 2) := by decide +kernel
theorem dX6_bending_24 : decode cX6_bending 24 = .ok (.ireturn, 1) := by decide +kernel
theorem dX6_bending_25 : decode cX6_bending 25 = .ok (.iload_n 1, 1) := by decide +kernel
theorem dX6_bending_26 : decode cX6_bending 26 = .ok (.iload_n 2, 1) := by decide +kernel
theorem dX6_bending_27 : decode cX6_bending 27 = .ok (.invokestatic 176, 3) := by decide +kernel
theorem dX6_bending_30 : decode cX6_bending 30 = .ok (.ireturn, 1) := by decide +kernel
set_option maxRecDepth 20000 in
theorem ggX6_best_X0_indexOf : GoodIn wsX6_best wsX0_indexOf := goodIn_r _ [11, 12, 13, 14, 15, 10, 16, 17, 177, 178, 179, 180, 181, 182, 183, 184, 185, 186] (by decide +kernel) (by decide +kernel)
set_option maxRecDepth 20000 in
theorem gX6_best_X0_indexOf : GoodIn wsX6_best (wsV RX6 179 RX0 yX0_indexOf wsX0_indexOf) := goodIn_app (goodIn_of _ (by decide +kernel)) ggX6_best_X0_indexOf
set_option maxRecDepth 20000 in
theorem ggX6_best_X6_within : GoodIn wsX6_best wsX6_within := goodIn_r _ [21] (by decide +kernel) (by decide +kernel)
set_option maxRecDepth 20000 in
theorem gX6_best_X6_within : GoodIn wsX6_best (va_wsS RX6 90 yX6_within wsX6_within) := goodIn_app (goodIn_of _ (by decide +kernel)) ggX6_best_X6_within
set_option maxRecDepth 20000 in
theorem ggX6_best_X2_clear : GoodIn wsX6_best wsX2_clear := goodIn_r _ [26, 27, 174, 175, 176] (by decide +kernel) (by decide +kernel)
set_option maxRecDepth 20000 in
theorem gX6_best_X2_clear : GoodIn wsX6_best (wsV RX6 182 RX2 yX2_clear wsX2_clear) := goodIn_app (goodIn_of _ (by decide +kernel)) ggX6_best_X2_clear
set_option maxRecDepth 20000 in
theorem ggX6_best_X6_offerPlace : GoodIn wsX6_best wsX6_offerPlace := goodIn_r _ [31, 32, 1, 33, 34, 35, 10, 36, 37, 38, 39, 40, 41, 42, 43, 12, 44, 45, 46, 47, 17, 48, 49, 50, 51, 52, 53, 54, 55, 8, 9, 11, 13, 14, 15, 16, 19, 20, 21, 56, 57, 58, 59, 60, 61, 62, 63, 64, 65, 66, 67, 68, 69, 70, 71, 72, 73, 74, 75, 76, 77, 3, 78, 79, 80, 81, 82, 83, 84, 85, 86, 87, 88, 89, 90, 91, 92, 93, 94, 95, 96, 97, 98, 99, 100, 101, 102, 103, 104, 105, 106, 107, 108, 109, 110, 111, 112, 113, 114, 115, 116, 117, 118, 119, 120, 121, 122, 123, 124, 125, 126, 127, 128, 129, 130, 131, 132, 133, 134, 135, 136, 137, 138, 139, 140, 141, 142, 143, 144, 145, 146, 147, 148, 149, 150, 151, 152, 153, 154, 155, 156, 157, 158, 159, 25, 160, 27, 161, 162, 163, 164, 165, 166, 167, 168, 169, 170, 171, 172, 173, 177, 178, 179, 180, 181, 182, 183, 184, 185, 186, 187, 188, 189, 190, 191, 174, 175, 176] (by decide +kernel) (by decide +kernel)
set_option maxRecDepth 20000 in
theorem gX6_best_X6_offerPlace : GoodIn wsX6_best (wsV RX6 185 RX6 yX6_offerPlace wsX6_offerPlace) := goodIn_app (goodIn_of _ (by decide +kernel)) ggX6_best_X6_offerPlace
theorem dX6_best_0 : decode cX6_best 0 = .ok (.aload_n 0, 1) := by decide +kernel
theorem dX6_best_1 : decode cX6_best 1 = .ok (.getfield 10, 3) := by decide +kernel
theorem dX6_best_4 : decode cX6_best 4 = .ok (.iload_n 1, 1) := by decide +kernel
theorem dX6_best_5 : decode cX6_best 5 = .ok (.invokevirtual 179, 3) := by decide +kernel
theorem dX6_best_8 : decode cX6_best 8 = .ok (.ifCond .lt 12, 3) := by decide +kernel
theorem dX6_best_11 : decode cX6_best 11 = .ok (.iload_n 2, 1) := by decide +kernel
theorem dX6_best_12 : decode cX6_best 12 = .ok (.iconst 0, 1) := by decide +kernel
theorem dX6_best_13 : decode cX6_best 13 = .ok (.iconst 2, 1) := by decide +kernel
theorem dX6_best_14 : decode cX6_best 14 = .ok (.invokestatic 90, 3) := by decide +kernel
theorem dX6_best_17 : decode cX6_best 17 = .ok (.ifCond .ne 6, 3) := by decide +kernel
theorem dX6_best_20 : decode cX6_best 20 = .ok (.ldc 94, 2) := by decide +kernel
theorem dX6_best_22 : decode cX6_best 22 = .ok (.ireturn, 1) := by decide +kernel
theorem dX6_best_23 : decode cX6_best 23 = .ok (.aload_n 0, 1) := by decide +kernel
theorem dX6_best_24 : decode cX6_best 24 = .ok (.getfield 36, 3) := by decide +kernel
theorem dX6_best_27 : decode cX6_best 27 = .ok (.invokevirtual 182, 3) := by decide +kernel
theorem dX6_best_30 : decode cX6_best 30 = .ok (.bipush 10, 2) := by decide +kernel
theorem dX6_best_32 : decode cX6_best 32 = .ok (.istore_n 3, 1) := by decide +kernel
theorem dX6_best_33 : decode cX6_best 33 = .ok (.iload_n 3, 1) := by decide +kernel
theorem dX6_best_34 : decode cX6_best 34 = .ok (.sipush 990, 3) := by decide +kernel
theorem dX6_best_37 : decode cX6_best 37 = .ok (.if_icmp .gt 15, 3) := by decide +kernel
theorem dX6_best_40 : decode cX6_best 40 = .ok (.aload_n 0, 1) := by decide +kernel
theorem dX6_best_41 : decode cX6_best 41 = .ok (.iload_n 1, 1) := by decide +kernel
theorem dX6_best_42 : decode cX6_best 42 = .ok (.iload_n 3, 1) := by decide +kernel
theorem dX6_best_43 : decode cX6_best 43 = .ok (.invokevirtual 185, 3) := by decide +kernel
theorem dX6_best_46 : decode cX6_best 46 = .ok (.iinc 3 10, 3) := by decide +kernel
theorem dX6_best_49 : decode cX6_best 49 = .ok (.goto (-16), 3) := by decide +kernel
theorem dX6_best_52 : decode cX6_best 52 = .ok (.iload_n 2, 1) := by decide +kernel
theorem dX6_best_53 : decode cX6_best 53 = .ok (.lookupswitch 43 #[(0, 27), (1, 35)], 27) := by decide +kernel
theorem dX6_best_80 : decode cX6_best 80 = .ok (.aload_n 0, 1) := by decide +kernel
theorem dX6_best_81 : decode cX6_best 81 = .ok (.getfield 36, 3) := by decide +kernel
theorem dX6_best_84 : decode cX6_best 84 = .ok (.getfield 189, 3) := by decide +kernel
theorem dX6_best_87 : decode cX6_best 87 = .ok (.ireturn, 1) := by decide +kernel
theorem dX6_best_88 : decode cX6_best 88 = .ok (.aload_n 0, 1) := by decide +kernel
theorem dX6_best_89 : decode cX6_best 89 = .ok (.getfield 36, 3) := by decide +kernel
theorem dX6_best_92 : decode cX6_best 92 = .ok (.getfield 193, 3) := by decide +kernel
theorem dX6_best_95 : decode cX6_best 95 = .ok (.ireturn, 1) := by decide +kernel
theorem dX6_best_96 : decode cX6_best 96 = .ok (.aload_n 0, 1) := by decide +kernel
theorem dX6_best_97 : decode cX6_best 97 = .ok (.getfield 36, 3) := by decide +kernel
theorem dX6_best_100 : decode cX6_best 100 = .ok (.getfield 196, 3) := by decide +kernel
theorem dX6_best_103 : decode cX6_best 103 = .ok (.ireturn, 1) := by decide +kernel
set_option maxRecDepth 20000 in
theorem ggX6_alone_X0_hasLine : GoodIn wsX6_alone wsX0_hasLine := goodIn_r _ [9, 10, 90, 91, 92, 93, 94, 95, 96, 97, 98, 99] (by decide +kernel) (by decide +kernel)
set_option maxRecDepth 20000 in
theorem gX6_alone_X0_hasLine : GoodIn wsX6_alone (wsV RX6 86 RX0 yX0_hasLine wsX0_hasLine) := goodIn_app (goodIn_of _ (by decide +kernel)) ggX6_alone_X0_hasLine
set_option maxRecDepth 20000 in
theorem ggX6_alone_X6_within : GoodIn wsX6_alone wsX6_within := goodIn_r _ [14] (by decide +kernel) (by decide +kernel)
set_option maxRecDepth 20000 in
theorem gX6_alone_X6_within : GoodIn wsX6_alone (va_wsS RX6 90 yX6_within wsX6_within) := goodIn_app (goodIn_of _ (by decide +kernel)) ggX6_alone_X6_within
set_option maxRecDepth 20000 in
theorem ggX6_alone_X0_indexOf : GoodIn wsX6_alone wsX0_indexOf := goodIn_r _ [18, 19, 20, 21, 22, 8, 23, 24, 90, 91, 92, 93, 94, 95, 96, 97, 98, 99] (by decide +kernel) (by decide +kernel)
set_option maxRecDepth 20000 in
theorem gX6_alone_X0_indexOf : GoodIn wsX6_alone (wsV RX6 179 RX0 yX0_indexOf wsX0_indexOf) := goodIn_app (goodIn_of _ (by decide +kernel)) ggX6_alone_X0_indexOf
set_option maxRecDepth 20000 in
theorem ggX6_alone_X6_heightAt : GoodIn wsX6_alone wsX6_heightAt := goodIn_r _ [28, 29, 1, 30, 4, 31, 32, 33, 34, 35, 36, 37, 38, 39, 40, 6, 7, 8, 9, 10, 41, 21, 22, 23, 24, 42, 43, 44, 45, 46, 47, 48, 49, 50, 51, 52, 53, 54, 55, 56, 57, 58, 12, 13, 14, 20, 59, 60, 61, 62, 63, 64, 65, 66, 67, 68, 69, 70, 71, 72, 73, 74, 75, 76, 77, 78, 79, 80, 81, 82, 83, 84, 85, 86, 87, 88, 89, 100, 101, 102, 103, 104, 90, 91, 92, 93, 94, 95, 96, 97, 98, 99] (by decide +kernel) (by decide +kernel)
set_option maxRecDepth 20000 in
theorem gX6_alone_X6_heightAt : GoodIn wsX6_alone (wsV RX6 153 RX6 yX6_heightAt wsX6_heightAt) := goodIn_app (goodIn_of _ (by decide +kernel)) ggX6_alone_X6_heightAt
theorem dX6_alone_0 : decode cX6_alone 0 = .ok (.aload_n 0, 1) := by decide +kernel
theorem dX6_alone_1 : decode cX6_alone 1 = .ok (.getfield 10, 3) := by decide +kernel
theorem dX6_alone_4 : decode cX6_alone 4 = .ok (.iload_n 1, 1) := by decide +kernel
theorem dX6_alone_5 : decode cX6_alone 5 = .ok (.invokevirtual 86, 3) := by decide +kernel
theorem dX6_alone_8 : decode cX6_alone 8 = .ok (.ifCond .eq 14, 3) := by decide +kernel
theorem dX6_alone_11 : decode cX6_alone 11 = .ok (.iload_n 2, 1) := by decide +kernel
theorem dX6_alone_12 : decode cX6_alone 12 = .ok (.iconst 1, 1) := by decide +kernel
theorem dX6_alone_13 : decode cX6_alone 13 = .ok (.sipush 999, 3) := by decide +kernel
theorem dX6_alone_16 : decode cX6_alone 16 = .ok (.invokestatic 90, 3) := by decide +kernel
theorem dX6_alone_19 : decode cX6_alone 19 = .ok (.ifCond .ne 6, 3) := by decide +kernel
theorem dX6_alone_22 : decode cX6_alone 22 = .ok (.ldc 94, 2) := by decide +kernel
theorem dX6_alone_24 : decode cX6_alone 24 = .ok (.ireturn, 1) := by decide +kernel
theorem dX6_alone_25 : decode cX6_alone 25 = .ok (.aload_n 0, 1) := by decide +kernel
theorem dX6_alone_26 : decode cX6_alone 26 = .ok (.getfield 10, 3) := by decide +kernel
theorem dX6_alone_29 : decode cX6_alone 29 = .ok (.iload_n 2, 1) := by decide +kernel
theorem dX6_alone_30 : decode cX6_alone 30 = .ok (.invokevirtual 179, 3) := by decide +kernel
theorem dX6_alone_33 : decode cX6_alone 33 = .ok (.ifCond .lt 6, 3) := by decide +kernel
theorem dX6_alone_36 : decode cX6_alone 36 = .ok (.ldc 199, 2) := by decide +kernel
theorem dX6_alone_38 : decode cX6_alone 38 = .ok (.ireturn, 1) := by decide +kernel
theorem dX6_alone_39 : decode cX6_alone 39 = .ok (.aload_n 0, 1) := by decide +kernel
theorem dX6_alone_40 : decode cX6_alone 40 = .ok (.iload_n 1, 1) := by decide +kernel
theorem dX6_alone_41 : decode cX6_alone 41 = .ok (.iload_n 2, 1) := by decide +kernel
theorem dX6_alone_42 : decode cX6_alone 42 = .ok (.invokevirtual 153, 3) := by decide +kernel
theorem dX6_alone_45 : decode cX6_alone 45 = .ok (.istore_n 3, 1) := by decide +kernel
theorem dX6_alone_46 : decode cX6_alone 46 = .ok (.iload_n 3, 1) := by decide +kernel
theorem dX6_alone_47 : decode cX6_alone 47 = .ok (.ldc 115, 2) := by decide +kernel
theorem dX6_alone_49 : decode cX6_alone 49 = .ok (.if_icmp .ne 6, 3) := by decide +kernel
theorem dX6_alone_52 : decode cX6_alone 52 = .ok (.ldc 115, 2) := by decide +kernel
theorem dX6_alone_54 : decode cX6_alone 54 = .ok (.ireturn, 1) := by decide +kernel
theorem dX6_alone_55 : decode cX6_alone 55 = .ok (.iconst 0, 1) := by decide +kernel
theorem dX6_alone_56 : decode cX6_alone 56 = .ok (.istore 4, 2) := by decide +kernel
theorem dX6_alone_58 : decode cX6_alone 58 = .ok (.iload 4, 2) := by decide +kernel
theorem dX6_alone_60 : decode cX6_alone 60 = .ok (.bipush 8, 2) := by decide +kernel
theorem dX6_alone_62 : decode cX6_alone 62 = .ok (.if_icmp .ge 41, 3) := by decide +kernel
theorem dX6_alone_65 : decode cX6_alone 65 = .ok (.aload_n 0, 1) := by decide +kernel
theorem dX6_alone_66 : decode cX6_alone 66 = .ok (.getfield 10, 3) := by decide +kernel
theorem dX6_alone_69 : decode cX6_alone 69 = .ok (.iload 4, 2) := by decide +kernel
theorem dX6_alone_71 : decode cX6_alone 71 = .ok (.invokevirtual 86, 3) := by decide +kernel
theorem dX6_alone_74 : decode cX6_alone 74 = .ok (.ifCond .eq 29, 3) := by decide +kernel
theorem dX6_alone_77 : decode cX6_alone 77 = .ok (.iload 4, 2) := by decide +kernel
theorem dX6_alone_79 : decode cX6_alone 79 = .ok (.iload_n 1, 1) := by decide +kernel
theorem dX6_alone_80 : decode cX6_alone 80 = .ok (.if_icmp .eq 17, 3) := by decide +kernel
theorem dX6_alone_83 : decode cX6_alone 83 = .ok (.aload_n 0, 1) := by decide +kernel
theorem dX6_alone_84 : decode cX6_alone 84 = .ok (.iload 4, 2) := by decide +kernel
theorem dX6_alone_86 : decode cX6_alone 86 = .ok (.iload_n 2, 1) := by decide +kernel
theorem dX6_alone_87 : decode cX6_alone 87 = .ok (.invokevirtual 153, 3) := by decide +kernel
theorem dX6_alone_90 : decode cX6_alone 90 = .ok (.iload_n 3, 1) := by decide +kernel
theorem dX6_alone_91 : decode cX6_alone 91 = .ok (.if_icmp .ne 6, 3) := by decide +kernel
theorem dX6_alone_94 : decode cX6_alone 94 = .ok (.ldc 199, 2) := by decide +kernel
theorem dX6_alone_96 : decode cX6_alone 96 = .ok (.ireturn, 1) := by decide +kernel
theorem dX6_alone_97 : decode cX6_alone 97 = .ok (.iinc 4 1, 3) := by decide +kernel
theorem dX6_alone_100 : decode cX6_alone 100 = .ok (.goto (-42), 3) := by decide +kernel
theorem dX6_alone_103 : decode cX6_alone 103 = .ok (.iload_n 3, 1) := by decide +kernel
theorem dX6_alone_104 : decode cX6_alone 104 = .ok (.ireturn, 1) := by decide +kernel
set_option maxRecDepth 20000 in
theorem ggX6_tuned_X0_indexOf : GoodIn wsX6_tuned wsX0_indexOf := goodIn_r _ [12, 13, 14, 15, 16, 11, 17, 18, 146, 147, 148, 149, 150, 151, 152, 153, 154, 155] (by decide +kernel) (by decide +kernel)
set_option maxRecDepth 20000 in
theorem gX6_tuned_X0_indexOf : GoodIn wsX6_tuned (wsV RX6 179 RX0 yX0_indexOf wsX0_indexOf) := goodIn_app (goodIn_of _ (by decide +kernel)) ggX6_tuned_X0_indexOf
set_option maxRecDepth 20000 in
theorem ggX6_tuned_X0_hasThing : GoodIn wsX6_tuned wsX0_hasThing := goodIn_r _ [17, 18, 146, 147, 148, 149, 150, 151, 152, 153, 154, 155] (by decide +kernel) (by decide +kernel)
set_option maxRecDepth 20000 in
theorem gX6_tuned_X0_hasThing : GoodIn wsX6_tuned (wsV RX6 128 RX0 yX0_hasThing wsX0_hasThing) := goodIn_app (goodIn_of _ (by decide +kernel)) ggX6_tuned_X0_hasThing
set_option maxRecDepth 20000 in
theorem ggX6_tuned_X2_clear : GoodIn wsX6_tuned wsX2_clear := goodIn_r _ [24, 25, 156, 157, 158] (by decide +kernel) (by decide +kernel)
set_option maxRecDepth 20000 in
theorem gX6_tuned_X2_clear : GoodIn wsX6_tuned (wsV RX6 182 RX2 yX2_clear wsX2_clear) := goodIn_app (goodIn_of _ (by decide +kernel)) ggX6_tuned_X2_clear
set_option maxRecDepth 20000 in
theorem ggX6_tuned_X0_copyFrom : GoodIn wsX6_tuned wsX0_copyFrom := goodIn_r _ [29, 30, 31, 32, 33, 34, 35, 36, 13, 37, 38, 39, 40, 18, 41, 146, 147, 148, 149, 150, 151, 152, 153, 154, 155] (by decide +kernel) (by decide +kernel)
set_option maxRecDepth 20000 in
theorem gX6_tuned_X0_copyFrom : GoodIn wsX6_tuned (wsV RX6 54 RX0 yX0_copyFrom wsX0_copyFrom) := goodIn_app (goodIn_of _ (by decide +kernel)) ggX6_tuned_X0_copyFrom
set_option maxRecDepth 20000 in
theorem ggX6_tuned_X6_offerTrial : GoodIn wsX6_tuned wsX6_offerTrial := goodIn_r _ [46, 47, 5, 4, 48, 49, 50, 51, 52, 53, 54, 55, 56, 57, 11, 58, 36, 59, 60, 61, 62, 63, 64, 65, 66, 67, 15, 16, 17, 18, 68, 69, 70, 71, 72, 73, 74, 75, 76, 77, 78, 37, 38, 39, 79, 80, 81, 82, 45, 83, 14, 84, 85, 86, 87, 88, 89, 90, 91, 92, 93, 40, 94, 95, 96, 97, 98, 99, 100, 101, 102, 103, 104, 105, 106, 107, 108, 109, 110, 111, 112, 113, 114, 115, 116, 117, 118, 119, 120, 121, 122, 123, 124, 125, 126, 127, 128, 129, 130, 131, 23, 132, 25, 133, 134, 135, 136, 137, 138, 139, 140, 141, 142, 143, 144, 145, 146, 147, 148, 149, 150, 151, 152, 153, 154, 155, 159, 160, 161, 162, 163, 156, 157, 158] (by decide +kernel) (by decide +kernel)
set_option maxRecDepth 20000 in
theorem gX6_tuned_X6_offerTrial : GoodIn wsX6_tuned (wsV RX6 200 RX6 yX6_offerTrial wsX6_offerTrial) := goodIn_app (goodIn_of _ (by decide +kernel)) ggX6_tuned_X6_offerTrial
theorem dX6_tuned_0 : decode cX6_tuned 0 = .ok (.aload_n 0, 1) := by decide +kernel
theorem dX6_tuned_1 : decode cX6_tuned 1 = .ok (.getfield 10, 3) := by decide +kernel
theorem dX6_tuned_4 : decode cX6_tuned 4 = .ok (.iload_n 1, 1) := by decide +kernel
theorem dX6_tuned_5 : decode cX6_tuned 5 = .ok (.invokevirtual 179, 3) := by decide +kernel
theorem dX6_tuned_8 : decode cX6_tuned 8 = .ok (.istore_n 2, 1) := by decide +kernel
theorem dX6_tuned_9 : decode cX6_tuned 9 = .ok (.aload_n 0, 1) := by decide +kernel
theorem dX6_tuned_10 : decode cX6_tuned 10 = .ok (.getfield 10, 3) := by decide +kernel
theorem dX6_tuned_13 : decode cX6_tuned 13 = .ok (.iload_n 2, 1) := by decide +kernel
theorem dX6_tuned_14 : decode cX6_tuned 14 = .ok (.invokevirtual 128, 3) := by decide +kernel
theorem dX6_tuned_17 : decode cX6_tuned 17 = .ok (.ifCond .eq 15, 3) := by decide +kernel
theorem dX6_tuned_20 : decode cX6_tuned 20 = .ok (.aload_n 0, 1) := by decide +kernel
theorem dX6_tuned_21 : decode cX6_tuned 21 = .ok (.getfield 10, 3) := by decide +kernel
theorem dX6_tuned_24 : decode cX6_tuned 24 = .ok (.getfield 134, 3) := by decide +kernel
theorem dX6_tuned_27 : decode cX6_tuned 27 = .ok (.iload_n 2, 1) := by decide +kernel
theorem dX6_tuned_28 : decode cX6_tuned 28 = .ok (.iaload, 1) := by decide +kernel
theorem dX6_tuned_29 : decode cX6_tuned 29 = .ok (.ifCond .eq 6, 3) := by decide +kernel
theorem dX6_tuned_32 : decode cX6_tuned 32 = .ok (.ldc 94, 2) := by decide +kernel
theorem dX6_tuned_34 : decode cX6_tuned 34 = .ok (.ireturn, 1) := by decide +kernel
theorem dX6_tuned_35 : decode cX6_tuned 35 = .ok (.aload_n 0, 1) := by decide +kernel
theorem dX6_tuned_36 : decode cX6_tuned 36 = .ok (.getfield 36, 3) := by decide +kernel
theorem dX6_tuned_39 : decode cX6_tuned 39 = .ok (.invokevirtual 182, 3) := by decide +kernel
theorem dX6_tuned_42 : decode cX6_tuned 42 = .ok (.aload_n 0, 1) := by decide +kernel
theorem dX6_tuned_43 : decode cX6_tuned 43 = .ok (.getfield 16, 3) := by decide +kernel
theorem dX6_tuned_46 : decode cX6_tuned 46 = .ok (.aload_n 0, 1) := by decide +kernel
theorem dX6_tuned_47 : decode cX6_tuned 47 = .ok (.getfield 10, 3) := by decide +kernel
theorem dX6_tuned_50 : decode cX6_tuned 50 = .ok (.invokevirtual 54, 3) := by decide +kernel
theorem dX6_tuned_53 : decode cX6_tuned 53 = .ok (.iconst 1, 1) := by decide +kernel
theorem dX6_tuned_54 : decode cX6_tuned 54 = .ok (.istore_n 3, 1) := by decide +kernel
theorem dX6_tuned_55 : decode cX6_tuned 55 = .ok (.iload_n 3, 1) := by decide +kernel
theorem dX6_tuned_56 : decode cX6_tuned 56 = .ok (.bipush 99, 2) := by decide +kernel
theorem dX6_tuned_58 : decode cX6_tuned 58 = .ok (.if_icmp .gt 24, 3) := by decide +kernel
theorem dX6_tuned_61 : decode cX6_tuned 61 = .ok (.aload_n 0, 1) := by decide +kernel
theorem dX6_tuned_62 : decode cX6_tuned 62 = .ok (.getfield 16, 3) := by decide +kernel
theorem dX6_tuned_65 : decode cX6_tuned 65 = .ok (.getfield 140, 3) := by decide +kernel
theorem dX6_tuned_68 : decode cX6_tuned 68 = .ok (.iload_n 2, 1) := by decide +kernel
theorem dX6_tuned_69 : decode cX6_tuned 69 = .ok (.iload_n 3, 1) := by decide +kernel
theorem dX6_tuned_70 : decode cX6_tuned 70 = .ok (.iastore, 1) := by decide +kernel
theorem dX6_tuned_71 : decode cX6_tuned 71 = .ok (.aload_n 0, 1) := by decide +kernel
theorem dX6_tuned_72 : decode cX6_tuned 72 = .ok (.iload_n 3, 1) := by decide +kernel
theorem dX6_tuned_73 : decode cX6_tuned 73 = .ok (.invokevirtual 200, 3) := by decide +kernel
theorem dX6_tuned_76 : decode cX6_tuned 76 = .ok (.iinc 3 1, 3) := by decide +kernel
theorem dX6_tuned_79 : decode cX6_tuned 79 = .ok (.goto (-24), 3) := by decide +kernel
theorem dX6_tuned_82 : decode cX6_tuned 82 = .ok (.aload_n 0, 1) := by decide +kernel
theorem dX6_tuned_83 : decode cX6_tuned 83 = .ok (.getfield 36, 3) := by decide +kernel
theorem dX6_tuned_86 : decode cX6_tuned 86 = .ok (.getfield 189, 3) := by decide +kernel
theorem dX6_tuned_89 : decode cX6_tuned 89 = .ok (.ireturn, 1) := by decide +kernel
set_option maxRecDepth 20000 in
theorem ggX6_share_X0_lightOfAll : GoodIn wsX6_share wsX0_lightOfAll := goodIn_r _ [8, 9, 10, 11, 12, 7, 13, 14, 97, 98, 99, 100, 101, 102, 103, 104, 105, 106] (by decide +kernel) (by decide +kernel)
set_option maxRecDepth 20000 in
theorem gX6_share_X0_lightOfAll : GoodIn wsX6_share (wsV RX6 204 RX0 yX0_lightOfAll wsX0_lightOfAll) := goodIn_app (goodIn_of _ (by decide +kernel)) ggX6_share_X0_lightOfAll
set_option maxRecDepth 20000 in
theorem ggX6_share_X4_follow : GoodIn wsX6_share wsX4_follow := goodIn_r _ [19, 20, 21, 22, 11, 12, 7, 13, 14, 23, 24, 25, 18, 26, 27, 28, 29, 30, 31, 32, 33, 34, 35, 36, 37, 38, 39, 40, 41, 42, 43, 44, 45, 46, 47, 48, 49, 50, 51, 52, 53, 54, 55, 56, 57, 58, 59, 60, 61, 62, 63, 64, 65, 66, 67, 68, 69, 70, 71, 72, 97, 98, 99, 100, 101, 102, 103, 104, 105, 106, 107, 108, 109, 110, 111] (by decide +kernel) (by decide +kernel)
set_option maxRecDepth 20000 in
theorem gX6_share_X4_follow : GoodIn wsX6_share (wsV RX6 95 RX4 yX4_follow wsX4_follow) := goodIn_app (goodIn_of _ (by decide +kernel)) ggX6_share_X4_follow
set_option maxRecDepth 20000 in
theorem ggX6_share_X4_lightOnScreen : GoodIn wsX6_share wsX4_lightOnScreen := goodIn_r _ [76, 77, 22, 11, 12, 7, 13, 14, 78, 79, 80, 18, 81, 62, 97, 98, 99, 100, 101, 102, 103, 104, 105, 106, 107, 108, 109, 110, 111] (by decide +kernel) (by decide +kernel)
set_option maxRecDepth 20000 in
theorem gX6_share_X4_lightOnScreen : GoodIn wsX6_share (wsV RX6 208 RX4 yX4_lightOnScreen wsX4_lightOnScreen) := goodIn_app (goodIn_of _ (by decide +kernel)) ggX6_share_X4_lightOnScreen
set_option maxRecDepth 20000 in
theorem ggX6_share_X6_bitsOf : GoodIn wsX6_share wsX6_bitsOf := goodIn_r _ [84, 85] (by decide +kernel) (by decide +kernel)
set_option maxRecDepth 20000 in
theorem gX6_share_X6_bitsOf : GoodIn wsX6_share (va_wsS RX6 212 yX6_bitsOf wsX6_bitsOf) := goodIn_app (goodIn_of _ (by decide +kernel)) ggX6_share_X6_bitsOf
theorem dX6_share_0 : decode cX6_share 0 = .ok (.aload_n 0, 1) := by decide +kernel
theorem dX6_share_1 : decode cX6_share 1 = .ok (.getfield 10, 3) := by decide +kernel
theorem dX6_share_4 : decode cX6_share 4 = .ok (.invokevirtual 204, 3) := by decide +kernel
theorem dX6_share_7 : decode cX6_share 7 = .ok (.istore_n 1, 1) := by decide +kernel
theorem dX6_share_8 : decode cX6_share 8 = .ok (.iload_n 1, 1) := by decide +kernel
theorem dX6_share_9 : decode cX6_share 9 = .ok (.ifCond .gt 6, 3) := by decide +kernel
theorem dX6_share_12 : decode cX6_share 12 = .ok (.ldc 115, 2) := by decide +kernel
theorem dX6_share_14 : decode cX6_share 14 = .ok (.ireturn, 1) := by decide +kernel
theorem dX6_share_15 : decode cX6_share 15 = .ok (.aload_n 0, 1) := by decide +kernel
theorem dX6_share_16 : decode cX6_share 16 = .ok (.getfield 22, 3) := by decide +kernel
theorem dX6_share_19 : decode cX6_share 19 = .ok (.aload_n 0, 1) := by decide +kernel
theorem dX6_share_20 : decode cX6_share 20 = .ok (.getfield 10, 3) := by decide +kernel
theorem dX6_share_23 : decode cX6_share 23 = .ok (.invokevirtual 95, 3) := by decide +kernel
theorem dX6_share_26 : decode cX6_share 26 = .ok (.aload_n 0, 1) := by decide +kernel
theorem dX6_share_27 : decode cX6_share 27 = .ok (.getfield 22, 3) := by decide +kernel
theorem dX6_share_30 : decode cX6_share 30 = .ok (.aload_n 0, 1) := by decide +kernel
theorem dX6_share_31 : decode cX6_share 31 = .ok (.getfield 10, 3) := by decide +kernel
theorem dX6_share_34 : decode cX6_share 34 = .ok (.invokevirtual 208, 3) := by decide +kernel
theorem dX6_share_37 : decode cX6_share 37 = .ok (.i2f, 1) := by decide +kernel
theorem dX6_share_38 : decode cX6_share 38 = .ok (.iload_n 1, 1) := by decide +kernel
theorem dX6_share_39 : decode cX6_share 39 = .ok (.i2f, 1) := by decide +kernel
theorem dX6_share_40 : decode cX6_share 40 = .ok (.fdiv, 1) := by decide +kernel
theorem dX6_share_41 : decode cX6_share 41 = .ok (.invokestatic 212, 3) := by decide +kernel
theorem dX6_share_44 : decode cX6_share 44 = .ok (.ireturn, 1) := by decide +kernel
set_option maxRecDepth 20000 in
theorem ggX6_count_X0_lightOfAll : GoodIn wsX6_count wsX0_lightOfAll := goodIn_r _ [13, 14, 15, 16, 17, 12, 18, 19, 177, 178, 179, 180, 181, 182, 183, 184, 185, 186] (by decide +kernel) (by decide +kernel)
set_option maxRecDepth 20000 in
theorem gX6_count_X0_lightOfAll : GoodIn wsX6_count (wsV RX6 204 RX0 yX0_lightOfAll wsX0_lightOfAll) := goodIn_app (goodIn_of _ (by decide +kernel)) ggX6_count_X0_lightOfAll
set_option maxRecDepth 20000 in
theorem ggX6_count_X6_countOfRays : GoodIn wsX6_count wsX6_countOfRays := goodIn_r _ [24, 25, 1, 26, 27, 28, 29, 30, 31, 32, 33, 34, 35, 36, 16, 17, 12, 18, 19, 37, 38, 39, 40, 41, 42, 43, 44, 45, 46, 47, 48, 49, 50, 51, 52, 53, 54, 55, 56, 57, 58, 59, 60, 61, 62, 63, 64, 65, 66, 67, 23, 68, 69, 70, 71, 72, 73, 74, 75, 76, 77, 78, 79, 80, 81, 82, 83, 84, 85, 86, 87, 88, 89, 90, 91, 92, 93, 94, 95, 96, 97, 98, 99, 100, 101, 102, 103, 104, 105, 106, 107, 108, 109, 110, 111, 112, 2, 113, 114, 115, 116, 117, 118, 119, 120, 121, 122, 123, 124, 125, 126, 127, 128, 129, 130, 131, 132, 133, 134, 135, 136, 137, 138, 139, 140, 141, 142, 143, 144, 145, 146, 147, 148, 149, 150, 151, 152, 153, 154, 155, 156, 157, 158, 159, 160, 161, 9, 10, 11, 13, 14, 15, 162, 163, 164, 165, 166, 167, 168, 169, 170, 171, 172, 173, 174, 175, 176, 194, 195, 196, 197, 177, 178, 179, 180, 181, 182, 183, 184, 185, 186, 198, 199, 200, 201, 202] (by decide +kernel) (by decide +kernel)
set_option maxRecDepth 20000 in
theorem gX6_count_X6_countOfRays : GoodIn wsX6_count (wsV RX6 231 RX6 yX6_countOfRays wsX6_countOfRays) := goodIn_app (goodIn_of _ (by decide +kernel)) ggX6_count_X6_countOfRays
theorem dX6_count_0 : decode cX6_count 0 = .ok (.iload_n 1, 1) := by decide +kernel
theorem dX6_count_1 : decode cX6_count 1 = .ok (.lookupswitch 107 #[(0, 59), (1, 67), (6, 75), (11, 83), (12, 91), (20, 99)], 59) := by decide +kernel
theorem dX6_count_60 : decode cX6_count 60 = .ok (.aload_n 0, 1) := by decide +kernel
theorem dX6_count_61 : decode cX6_count 61 = .ok (.getfield 10, 3) := by decide +kernel
theorem dX6_count_64 : decode cX6_count 64 = .ok (.getfield 216, 3) := by decide +kernel
theorem dX6_count_67 : decode cX6_count 67 = .ok (.ireturn, 1) := by decide +kernel
theorem dX6_count_68 : decode cX6_count 68 = .ok (.aload_n 0, 1) := by decide +kernel
theorem dX6_count_69 : decode cX6_count 69 = .ok (.getfield 10, 3) := by decide +kernel
theorem dX6_count_72 : decode cX6_count 72 = .ok (.getfield 219, 3) := by decide +kernel
theorem dX6_count_75 : decode cX6_count 75 = .ok (.ireturn, 1) := by decide +kernel
theorem dX6_count_76 : decode cX6_count 76 = .ok (.aload_n 0, 1) := by decide +kernel
theorem dX6_count_77 : decode cX6_count 77 = .ok (.getfield 10, 3) := by decide +kernel
theorem dX6_count_80 : decode cX6_count 80 = .ok (.invokevirtual 204, 3) := by decide +kernel
theorem dX6_count_83 : decode cX6_count 83 = .ok (.ireturn, 1) := by decide +kernel
theorem dX6_count_84 : decode cX6_count 84 = .ok (.aload_n 0, 1) := by decide +kernel
theorem dX6_count_85 : decode cX6_count 85 = .ok (.getfield 43, 3) := by decide +kernel
theorem dX6_count_88 : decode cX6_count 88 = .ok (.getfield 222, 3) := by decide +kernel
theorem dX6_count_91 : decode cX6_count 91 = .ok (.ireturn, 1) := by decide +kernel
theorem dX6_count_92 : decode cX6_count 92 = .ok (.aload_n 0, 1) := by decide +kernel
theorem dX6_count_93 : decode cX6_count 93 = .ok (.getfield 50, 3) := by decide +kernel
theorem dX6_count_96 : decode cX6_count 96 = .ok (.getfield 225, 3) := by decide +kernel
theorem dX6_count_99 : decode cX6_count 99 = .ok (.ireturn, 1) := by decide +kernel
theorem dX6_count_100 : decode cX6_count 100 = .ok (.aload_n 0, 1) := by decide +kernel
theorem dX6_count_101 : decode cX6_count 101 = .ok (.getfield 10, 3) := by decide +kernel
theorem dX6_count_104 : decode cX6_count 104 = .ok (.getfield 228, 3) := by decide +kernel
theorem dX6_count_107 : decode cX6_count 107 = .ok (.ireturn, 1) := by decide +kernel
theorem dX6_count_108 : decode cX6_count 108 = .ok (.aload_n 0, 1) := by decide +kernel
theorem dX6_count_109 : decode cX6_count 109 = .ok (.iload_n 1, 1) := by decide +kernel
theorem dX6_count_110 : decode cX6_count 110 = .ok (.invokevirtual 231, 3) := by decide +kernel
theorem dX6_count_113 : decode cX6_count 113 = .ok (.ireturn, 1) := by decide +kernel
set_option maxRecDepth 20000 in
theorem ggX6_undo_X3_takeLatest : GoodIn wsX6_undo wsX3_takeLatest := goodIn_r _ [9, 10, 11, 12, 13, 14, 15, 16, 17, 18, 19, 20, 21, 22, 23, 24, 25, 26, 27, 28, 29, 30, 42, 43, 44, 45, 46, 47, 48, 49, 50, 51, 52, 53] (by decide +kernel) (by decide +kernel)
set_option maxRecDepth 20000 in
theorem gX6_undo_X3_takeLatest : GoodIn wsX6_undo (wsV RX6 234 RX3 yX3_takeLatest wsX3_takeLatest) := goodIn_app (goodIn_of _ (by decide +kernel)) ggX6_undo_X3_takeLatest
theorem dX6_undo_0 : decode cX6_undo 0 = .ok (.aload_n 0, 1) := by decide +kernel
theorem dX6_undo_1 : decode cX6_undo 1 = .ok (.getfield 43, 3) := by decide +kernel
theorem dX6_undo_4 : decode cX6_undo 4 = .ok (.aload_n 0, 1) := by decide +kernel
theorem dX6_undo_5 : decode cX6_undo 5 = .ok (.getfield 10, 3) := by decide +kernel
theorem dX6_undo_8 : decode cX6_undo 8 = .ok (.invokevirtual 234, 3) := by decide +kernel
theorem dX6_undo_11 : decode cX6_undo 11 = .ok (.ifCond .eq 13, 3) := by decide +kernel
theorem dX6_undo_14 : decode cX6_undo 14 = .ok (.aload_n 0, 1) := by decide +kernel
theorem dX6_undo_15 : decode cX6_undo 15 = .ok (.getfield 43, 3) := by decide +kernel
theorem dX6_undo_18 : decode cX6_undo 18 = .ok (.getfield 222, 3) := by decide +kernel
theorem dX6_undo_21 : decode cX6_undo 21 = .ok (.goto 5, 3) := by decide +kernel
theorem dX6_undo_24 : decode cX6_undo 24 = .ok (.ldc 199, 2) := by decide +kernel
theorem dX6_undo_26 : decode cX6_undo 26 = .ok (.ireturn, 1) := by decide +kernel
set_option maxRecDepth 20000 in
theorem ggX6_type_X6_within : GoodIn wsX6_type wsX6_within := goodIn_r _ [8] (by decide +kernel) (by decide +kernel)
set_option maxRecDepth 20000 in
theorem gX6_type_X6_within : GoodIn wsX6_type (va_wsS RX6 90 yX6_within wsX6_within) := goodIn_app (goodIn_of _ (by decide +kernel)) ggX6_type_X6_within
set_option maxRecDepth 20000 in
theorem ggX6_type_X5_append : GoodIn wsX6_type wsX5_append := goodIn_r _ [13, 14, 15, 27, 28, 29, 30, 31] (by decide +kernel) (by decide +kernel)
set_option maxRecDepth 20000 in
theorem gX6_type_X5_append : GoodIn wsX6_type (wsV RX6 238 RX5 yX5_append wsX5_append) := goodIn_app (goodIn_of _ (by decide +kernel)) ggX6_type_X5_append
theorem dX6_type_0 : decode cX6_type 0 = .ok (.iload_n 1, 1) := by decide +kernel
theorem dX6_type_1 : decode cX6_type 1 = .ok (.bipush 32, 2) := by decide +kernel
theorem dX6_type_3 : decode cX6_type 3 = .ok (.bipush 126, 2) := by decide +kernel
theorem dX6_type_5 : decode cX6_type 5 = .ok (.invokestatic 90, 3) := by decide +kernel
theorem dX6_type_8 : decode cX6_type 8 = .ok (.ifCond .ne 6, 3) := by decide +kernel
theorem dX6_type_11 : decode cX6_type 11 = .ok (.ldc 94, 2) := by decide +kernel
theorem dX6_type_13 : decode cX6_type 13 = .ok (.ireturn, 1) := by decide +kernel
theorem dX6_type_14 : decode cX6_type 14 = .ok (.aload_n 0, 1) := by decide +kernel
theorem dX6_type_15 : decode cX6_type 15 = .ok (.getfield 50, 3) := by decide +kernel
theorem dX6_type_18 : decode cX6_type 18 = .ok (.iload_n 1, 1) := by decide +kernel
theorem dX6_type_19 : decode cX6_type 19 = .ok (.i2c, 1) := by decide +kernel
theorem dX6_type_20 : decode cX6_type 20 = .ok (.invokevirtual 238, 3) := by decide +kernel
theorem dX6_type_23 : decode cX6_type 23 = .ok (.ifCond .eq 13, 3) := by decide +kernel
theorem dX6_type_26 : decode cX6_type 26 = .ok (.aload_n 0, 1) := by decide +kernel
theorem dX6_type_27 : decode cX6_type 27 = .ok (.getfield 50, 3) := by decide +kernel
theorem dX6_type_30 : decode cX6_type 30 = .ok (.getfield 225, 3) := by decide +kernel
theorem dX6_type_33 : decode cX6_type 33 = .ok (.goto 5, 3) := by decide +kernel
theorem dX6_type_36 : decode cX6_type 36 = .ok (.ldc 242, 2) := by decide +kernel
theorem dX6_type_38 : decode cX6_type 38 = .ok (.ireturn, 1) := by decide +kernel
theorem dX6_clearText_0 : decode cX6_clearText 0 = .ok (.aload_n 0, 1) := by decide +kernel
theorem dX6_clearText_1 : decode cX6_clearText 1 = .ok (.getfield 50, 3) := by decide +kernel
theorem dX6_clearText_4 : decode cX6_clearText 4 = .ok (.getfield 225, 3) := by decide +kernel
theorem dX6_clearText_7 : decode cX6_clearText 7 = .ok (.istore_n 1, 1) := by decide +kernel
theorem dX6_clearText_8 : decode cX6_clearText 8 = .ok (.aload_n 0, 1) := by decide +kernel
theorem dX6_clearText_9 : decode cX6_clearText 9 = .ok (.getfield 50, 3) := by decide +kernel
theorem dX6_clearText_12 : decode cX6_clearText 12 = .ok (.iconst 0, 1) := by decide +kernel
theorem dX6_clearText_13 : decode cX6_clearText 13 = .ok (.putfield 225, 3) := by decide +kernel
theorem dX6_clearText_16 : decode cX6_clearText 16 = .ok (.iload_n 1, 1) := by decide +kernel
theorem dX6_clearText_17 : decode cX6_clearText 17 = .ok (.ireturn, 1) := by decide +kernel
set_option maxRecDepth 20000 in
theorem ggX6_fault_X6_within : GoodIn wsX6_fault wsX6_within := goodIn_r _ [9] (by decide +kernel) (by decide +kernel)
set_option maxRecDepth 20000 in
theorem gX6_fault_X6_within : GoodIn wsX6_fault (va_wsS RX6 90 yX6_within wsX6_within) := goodIn_app (goodIn_of _ (by decide +kernel)) ggX6_fault_X6_within
set_option maxRecDepth 20000 in
theorem ggX6_fault_X6_tryText : GoodIn wsX6_fault wsX6_tryText := goodIn_r _ [13, 14, 15, 2, 16, 17, 18, 19, 20, 21, 22, 23, 24, 25, 26, 27, 28, 29, 30, 31, 32, 33, 34, 35, 36, 37, 38, 39, 40, 41, 42, 43, 44, 45, 46, 47, 48, 49, 50, 51, 52, 53, 54, 55, 56, 57, 58, 59, 7, 8, 9, 60, 61, 62, 63, 64, 65, 66, 67, 4, 5, 68, 69, 70, 71, 72, 73, 74, 75, 76, 77, 78, 79, 80, 81, 82, 83, 84, 85, 86, 87, 88, 89, 90, 91, 92, 93, 94, 95, 96, 97, 98, 99, 100, 101, 102, 103, 104, 105, 106, 107, 108, 109, 110, 111, 112, 113, 114, 115, 116, 117, 118, 119, 120, 121, 122, 123, 124, 125, 126, 127, 128, 129, 130, 131, 132, 133, 134, 135, 136, 137, 138] (by decide +kernel) (by decide +kernel)
set_option maxRecDepth 20000 in
theorem gX6_fault_X6_tryText : GoodIn wsX6_fault (wsV RX6 243 RX6 yX6_tryText wsX6_tryText) := goodIn_app (goodIn_of _ (by decide +kernel)) ggX6_fault_X6_tryText
theorem dX6_fault_0 : decode cX6_fault 0 = .ok (.iload_n 1, 1) := by decide +kernel
theorem dX6_fault_1 : decode cX6_fault 1 = .ok (.iconst 0, 1) := by decide +kernel
theorem dX6_fault_2 : decode cX6_fault 2 = .ok (.iconst 2, 1) := by decide +kernel
theorem dX6_fault_3 : decode cX6_fault 3 = .ok (.invokestatic 90, 3) := by decide +kernel
theorem dX6_fault_6 : decode cX6_fault 6 = .ok (.ifCond .ne 6, 3) := by decide +kernel
theorem dX6_fault_9 : decode cX6_fault 9 = .ok (.ldc 94, 2) := by decide +kernel
theorem dX6_fault_11 : decode cX6_fault 11 = .ok (.ireturn, 1) := by decide +kernel
theorem dX6_fault_12 : decode cX6_fault 12 = .ok (.aload_n 0, 1) := by decide +kernel
theorem dX6_fault_13 : decode cX6_fault 13 = .ok (.invokevirtual 243, 3) := by decide +kernel
theorem dX6_fault_16 : decode cX6_fault 16 = .ok (.aload_n 0, 1) := by decide +kernel
theorem dX6_fault_17 : decode cX6_fault 17 = .ok (.getfield 246, 3) := by decide +kernel
theorem dX6_fault_20 : decode cX6_fault 20 = .ok (.ifCond .ne 6, 3) := by decide +kernel
theorem dX6_fault_23 : decode cX6_fault 23 = .ok (.ldc 115, 2) := by decide +kernel
theorem dX6_fault_25 : decode cX6_fault 25 = .ok (.ireturn, 1) := by decide +kernel
theorem dX6_fault_26 : decode cX6_fault 26 = .ok (.iload_n 1, 1) := by decide +kernel
theorem dX6_fault_27 : decode cX6_fault 27 = .ok (.lookupswitch 35 #[(0, 25), (1, 30)], 25) := by decide +kernel
theorem dX6_fault_52 : decode cX6_fault 52 = .ok (.aload_n 0, 1) := by decide +kernel
theorem dX6_fault_53 : decode cX6_fault 53 = .ok (.getfield 249, 3) := by decide +kernel
theorem dX6_fault_56 : decode cX6_fault 56 = .ok (.ireturn, 1) := by decide +kernel
theorem dX6_fault_57 : decode cX6_fault 57 = .ok (.aload_n 0, 1) := by decide +kernel
theorem dX6_fault_58 : decode cX6_fault 58 = .ok (.getfield 246, 3) := by decide +kernel
theorem dX6_fault_61 : decode cX6_fault 61 = .ok (.ireturn, 1) := by decide +kernel
theorem dX6_fault_62 : decode cX6_fault 62 = .ok (.aload_n 0, 1) := by decide +kernel
theorem dX6_fault_63 : decode cX6_fault 63 = .ok (.getfield 252, 3) := by decide +kernel
theorem dX6_fault_66 : decode cX6_fault 66 = .ok (.ireturn, 1) := by decide +kernel
set_option maxRecDepth 20000 in
theorem ggX6_play_X6_tryText : GoodIn wsX6_play wsX6_tryText := goodIn_r _ [8, 9, 10, 1, 2, 11, 12, 13, 14, 15, 16, 17, 18, 19, 20, 21, 22, 23, 24, 25, 26, 27, 28, 29, 30, 31, 32, 33, 34, 35, 36, 37, 38, 39, 40, 41, 42, 43, 44, 45, 46, 47, 48, 49, 50, 51, 52, 53, 54, 7, 55, 56, 57, 58, 59, 60, 61, 62, 63, 64, 65, 66, 67, 68, 69, 70, 71, 72, 73, 74, 75, 76, 77, 78, 79, 80, 81, 82, 83, 84, 85, 86, 87, 88, 89, 90, 91, 92, 93, 94, 95, 96, 97, 98, 99, 100, 101, 102, 103, 104, 105, 106, 107, 108, 109, 110, 136, 137, 138, 139, 140, 141, 142, 143, 144, 145, 146, 147, 148, 149, 150, 151, 152, 153, 154, 155, 156, 157, 158, 159, 160, 161] (by decide +kernel) (by decide +kernel)
set_option maxRecDepth 20000 in
theorem gX6_play_X6_tryText : GoodIn wsX6_play (wsV RX6 243 RX6 yX6_tryText wsX6_tryText) := goodIn_app (goodIn_of _ (by decide +kernel)) ggX6_play_X6_tryText
set_option maxRecDepth 20000 in
theorem ggX6_play_X6_keepTrial : GoodIn wsX6_play wsX6_keepTrial := goodIn_r _ [114, 115, 10, 9, 116, 117, 118, 119, 120, 121, 122, 123, 124, 17, 125, 126, 127, 128, 129, 130, 131, 132, 133, 134, 19, 24, 25, 26, 27, 28, 29, 30, 31, 32, 135, 15, 16, 18, 20, 21, 22, 23, 14, 136, 137, 138, 139, 140, 141, 142, 143, 144, 145, 146, 162, 163, 152, 153, 154, 155, 156, 157, 158, 159, 160, 161] (by decide +kernel) (by decide +kernel)
set_option maxRecDepth 20000 in
theorem gX6_play_X6_keepTrial : GoodIn wsX6_play (wsV RX6 62 RX6 yX6_keepTrial wsX6_keepTrial) := goodIn_app (goodIn_of _ (by decide +kernel)) ggX6_play_X6_keepTrial
theorem dX6_play_0 : decode cX6_play 0 = .ok (.aload_n 0, 1) := by decide +kernel
theorem dX6_play_1 : decode cX6_play 1 = .ok (.invokevirtual 243, 3) := by decide +kernel
theorem dX6_play_4 : decode cX6_play 4 = .ok (.aload_n 0, 1) := by decide +kernel
theorem dX6_play_5 : decode cX6_play 5 = .ok (.aload_n 0, 1) := by decide +kernel
theorem dX6_play_6 : decode cX6_play 6 = .ok (.getfield 246, 3) := by decide +kernel
theorem dX6_play_9 : decode cX6_play 9 = .ok (.ifCond .ne 10, 3) := by decide +kernel
theorem dX6_play_12 : decode cX6_play 12 = .ok (.aload_n 0, 1) := by decide +kernel
theorem dX6_play_13 : decode cX6_play 13 = .ok (.getfield 255, 3) := by decide +kernel
theorem dX6_play_16 : decode cX6_play 16 = .ok (.goto 5, 3) := by decide +kernel
theorem dX6_play_19 : decode cX6_play 19 = .ok (.ldc 199, 2) := by decide +kernel
theorem dX6_play_21 : decode cX6_play 21 = .ok (.invokevirtual 62, 3) := by decide +kernel
theorem dX6_play_24 : decode cX6_play 24 = .ok (.ireturn, 1) := by decide +kernel
theorem dX6_oneIf_0 : decode cX6_oneIf 0 = .ok (.iload_n 0, 1) := by decide +kernel
theorem dX6_oneIf_1 : decode cX6_oneIf 1 = .ok (.ifCond .eq 7, 3) := by decide +kernel
theorem dX6_oneIf_4 : decode cX6_oneIf 4 = .ok (.iconst 1, 1) := by decide +kernel
theorem dX6_oneIf_5 : decode cX6_oneIf 5 = .ok (.goto 4, 3) := by decide +kernel
theorem dX6_oneIf_8 : decode cX6_oneIf 8 = .ok (.iconst 0, 1) := by decide +kernel
theorem dX6_oneIf_9 : decode cX6_oneIf 9 = .ok (.ireturn, 1) := by decide +kernel
set_option maxRecDepth 20000 in
theorem ggX6_keepTrial_X3_record : GoodIn wsX6_keepTrial wsX3_record := goodIn_r _ [8, 9, 10, 11, 12, 13, 14, 15, 16, 7, 17, 18, 19, 20, 21, 22, 23, 24, 25, 26, 27, 28, 29, 30, 31, 32, 33, 34, 35, 36, 37, 38, 39, 40, 41, 54, 55, 56, 57, 58, 59, 60, 61, 62, 63, 64, 65] (by decide +kernel) (by decide +kernel)
set_option maxRecDepth 20000 in
theorem gX6_keepTrial_X3_record : GoodIn wsX6_keepTrial (wsV RX6 263 RX3 yX3_record wsX3_record) := goodIn_app (goodIn_of _ (by decide +kernel)) ggX6_keepTrial_X3_record
set_option maxRecDepth 20000 in
theorem ggX6_keepTrial_X0_copyFrom : GoodIn wsX6_keepTrial wsX0_copyFrom := goodIn_r _ [37, 24, 38, 39, 40, 41, 25, 26, 27, 28, 29, 30, 31, 32, 33, 56, 57, 58, 59, 60, 61, 62, 63, 64, 65] (by decide +kernel) (by decide +kernel)
set_option maxRecDepth 20000 in
theorem gX6_keepTrial_X0_copyFrom : GoodIn wsX6_keepTrial (wsV RX6 54 RX0 yX0_copyFrom wsX0_copyFrom) := goodIn_app (goodIn_of _ (by decide +kernel)) ggX6_keepTrial_X0_copyFrom
theorem dX6_keepTrial_0 : decode cX6_keepTrial 0 = .ok (.iload_n 1, 1) := by decide +kernel
theorem dX6_keepTrial_1 : decode cX6_keepTrial 1 = .ok (.ifCond .lt 25, 3) := by decide +kernel
theorem dX6_keepTrial_4 : decode cX6_keepTrial 4 = .ok (.aload_n 0, 1) := by decide +kernel
theorem dX6_keepTrial_5 : decode cX6_keepTrial 5 = .ok (.getfield 43, 3) := by decide +kernel
theorem dX6_keepTrial_8 : decode cX6_keepTrial 8 = .ok (.aload_n 0, 1) := by decide +kernel
theorem dX6_keepTrial_9 : decode cX6_keepTrial 9 = .ok (.getfield 10, 3) := by decide +kernel
theorem dX6_keepTrial_12 : decode cX6_keepTrial 12 = .ok (.invokevirtual 263, 3) := by decide +kernel
theorem dX6_keepTrial_15 : decode cX6_keepTrial 15 = .ok (.aload_n 0, 1) := by decide +kernel
theorem dX6_keepTrial_16 : decode cX6_keepTrial 16 = .ok (.getfield 10, 3) := by decide +kernel
theorem dX6_keepTrial_19 : decode cX6_keepTrial 19 = .ok (.aload_n 0, 1) := by decide +kernel
theorem dX6_keepTrial_20 : decode cX6_keepTrial 20 = .ok (.getfield 16, 3) := by decide +kernel
theorem dX6_keepTrial_23 : decode cX6_keepTrial 23 = .ok (.invokevirtual 54, 3) := by decide +kernel
theorem dX6_keepTrial_26 : decode cX6_keepTrial 26 = .ok (.iload_n 1, 1) := by decide +kernel
theorem dX6_keepTrial_27 : decode cX6_keepTrial 27 = .ok (.ireturn, 1) := by decide +kernel
set_option maxRecDepth 20000 in
theorem ggX6_turnOfThing_X0_hasThing : GoodIn wsX6_turnOfThing wsX0_hasThing := goodIn_r _ [9, 10, 22, 23, 24, 25, 26, 27, 28, 29, 30, 31] (by decide +kernel) (by decide +kernel)
set_option maxRecDepth 20000 in
theorem gX6_turnOfThing_X0_hasThing : GoodIn wsX6_turnOfThing (wsV RX6 128 RX0 yX0_hasThing wsX0_hasThing) := goodIn_app (goodIn_of _ (by decide +kernel)) ggX6_turnOfThing_X0_hasThing
theorem dX6_turnOfThing_0 : decode cX6_turnOfThing 0 = .ok (.aload_n 0, 1) := by decide +kernel
theorem dX6_turnOfThing_1 : decode cX6_turnOfThing 1 = .ok (.getfield 10, 3) := by decide +kernel
theorem dX6_turnOfThing_4 : decode cX6_turnOfThing 4 = .ok (.iload_n 1, 1) := by decide +kernel
theorem dX6_turnOfThing_5 : decode cX6_turnOfThing 5 = .ok (.invokevirtual 128, 3) := by decide +kernel
theorem dX6_turnOfThing_8 : decode cX6_turnOfThing 8 = .ok (.ifCond .eq 15, 3) := by decide +kernel
theorem dX6_turnOfThing_11 : decode cX6_turnOfThing 11 = .ok (.aload_n 0, 1) := by decide +kernel
theorem dX6_turnOfThing_12 : decode cX6_turnOfThing 12 = .ok (.getfield 10, 3) := by decide +kernel
theorem dX6_turnOfThing_15 : decode cX6_turnOfThing 15 = .ok (.getfield 134, 3) := by decide +kernel
theorem dX6_turnOfThing_18 : decode cX6_turnOfThing 18 = .ok (.iload_n 1, 1) := by decide +kernel
theorem dX6_turnOfThing_19 : decode cX6_turnOfThing 19 = .ok (.iaload, 1) := by decide +kernel
theorem dX6_turnOfThing_20 : decode cX6_turnOfThing 20 = .ok (.ifCond .eq 6, 3) := by decide +kernel
theorem dX6_turnOfThing_23 : decode cX6_turnOfThing 23 = .ok (.ldc 115, 2) := by decide +kernel
theorem dX6_turnOfThing_25 : decode cX6_turnOfThing 25 = .ok (.ireturn, 1) := by decide +kernel
theorem dX6_turnOfThing_26 : decode cX6_turnOfThing 26 = .ok (.aload_n 0, 1) := by decide +kernel
theorem dX6_turnOfThing_27 : decode cX6_turnOfThing 27 = .ok (.getfield 10, 3) := by decide +kernel
theorem dX6_turnOfThing_30 : decode cX6_turnOfThing 30 = .ok (.getfield 266, 3) := by decide +kernel
theorem dX6_turnOfThing_33 : decode cX6_turnOfThing 33 = .ok (.iload_n 1, 1) := by decide +kernel
theorem dX6_turnOfThing_34 : decode cX6_turnOfThing 34 = .ok (.iaload, 1) := by decide +kernel
theorem dX6_turnOfThing_35 : decode cX6_turnOfThing 35 = .ok (.iconst 1, 1) := by decide +kernel
theorem dX6_turnOfThing_36 : decode cX6_turnOfThing 36 = .ok (.if_icmp .ne 7, 3) := by decide +kernel
theorem dX6_turnOfThing_39 : decode cX6_turnOfThing 39 = .ok (.iconst 1, 1) := by decide +kernel
theorem dX6_turnOfThing_40 : decode cX6_turnOfThing 40 = .ok (.goto 4, 3) := by decide +kernel
theorem dX6_turnOfThing_43 : decode cX6_turnOfThing 43 = .ok (.iconst 2, 1) := by decide +kernel
theorem dX6_turnOfThing_44 : decode cX6_turnOfThing 44 = .ok (.ireturn, 1) := by decide +kernel
set_option maxRecDepth 20000 in
theorem ggX6_heightAt_X4_followLine : GoodIn wsX6_heightAt wsX4_followLine := goodIn_r _ [9, 10, 11, 12, 13, 14, 15, 16, 17, 18, 19, 20, 21, 22, 23, 24, 25, 26, 8, 27, 28, 29, 30, 31, 32, 33, 34, 35, 36, 37, 38, 39, 40, 41, 42, 43, 44, 45, 46, 47, 48, 49, 50, 51, 52, 53, 54, 55, 56, 57, 58, 59, 60, 61, 82, 83, 84, 85, 86, 87, 88, 89, 90, 91, 77, 78, 79, 80, 81] (by decide +kernel) (by decide +kernel)
set_option maxRecDepth 20000 in
theorem gX6_heightAt_X4_followLine : GoodIn wsX6_heightAt (wsV RX6 269 RX4 yX4_followLine wsX4_followLine) := goodIn_app (goodIn_of _ (by decide +kernel)) ggX6_heightAt_X4_followLine
set_option maxRecDepth 20000 in
theorem ggX6_heightAt_X4_comes : GoodIn wsX6_heightAt wsX4_comes := goodIn_r _ [65, 51, 77, 78, 79, 80, 81] (by decide +kernel) (by decide +kernel)
set_option maxRecDepth 20000 in
theorem gX6_heightAt_X4_comes : GoodIn wsX6_heightAt (wsV RX6 98 RX4 yX4_comes wsX4_comes) := goodIn_app (goodIn_of _ (by decide +kernel)) ggX6_heightAt_X4_comes
theorem dX6_heightAt_0 : decode cX6_heightAt 0 = .ok (.aload_n 0, 1) := by decide +kernel
theorem dX6_heightAt_1 : decode cX6_heightAt 1 = .ok (.getfield 22, 3) := by decide +kernel
theorem dX6_heightAt_4 : decode cX6_heightAt 4 = .ok (.aload_n 0, 1) := by decide +kernel
theorem dX6_heightAt_5 : decode cX6_heightAt 5 = .ok (.getfield 10, 3) := by decide +kernel
theorem dX6_heightAt_8 : decode cX6_heightAt 8 = .ok (.iload_n 1, 1) := by decide +kernel
theorem dX6_heightAt_9 : decode cX6_heightAt 9 = .ok (.iload_n 2, 1) := by decide +kernel
theorem dX6_heightAt_10 : decode cX6_heightAt 10 = .ok (.invokevirtual 269, 3) := by decide +kernel
theorem dX6_heightAt_13 : decode cX6_heightAt 13 = .ok (.aload_n 0, 1) := by decide +kernel
theorem dX6_heightAt_14 : decode cX6_heightAt 14 = .ok (.getfield 22, 3) := by decide +kernel
theorem dX6_heightAt_17 : decode cX6_heightAt 17 = .ok (.iload_n 1, 1) := by decide +kernel
theorem dX6_heightAt_18 : decode cX6_heightAt 18 = .ok (.invokevirtual 98, 3) := by decide +kernel
theorem dX6_heightAt_21 : decode cX6_heightAt 21 = .ok (.ifCond .eq 15, 3) := by decide +kernel
theorem dX6_heightAt_24 : decode cX6_heightAt 24 = .ok (.aload_n 0, 1) := by decide +kernel
theorem dX6_heightAt_25 : decode cX6_heightAt 25 = .ok (.getfield 22, 3) := by decide +kernel
theorem dX6_heightAt_28 : decode cX6_heightAt 28 = .ok (.getfield 112, 3) := by decide +kernel
theorem dX6_heightAt_31 : decode cX6_heightAt 31 = .ok (.iload_n 1, 1) := by decide +kernel
theorem dX6_heightAt_32 : decode cX6_heightAt 32 = .ok (.iaload, 1) := by decide +kernel
theorem dX6_heightAt_33 : decode cX6_heightAt 33 = .ok (.goto 5, 3) := by decide +kernel
theorem dX6_heightAt_36 : decode cX6_heightAt 36 = .ok (.ldc 115, 2) := by decide +kernel
theorem dX6_heightAt_38 : decode cX6_heightAt 38 = .ok (.ireturn, 1) := by decide +kernel
set_option maxRecDepth 20000 in
theorem ggX6_offerPlace_X0_copyFrom : GoodIn wsX6_offerPlace wsX0_copyFrom := goodIn_r _ [7, 8, 9, 10, 11, 12, 13, 14, 15, 16, 17, 18, 19, 20, 21, 160, 161, 162, 163, 164, 165, 166, 167, 168, 169] (by decide +kernel) (by decide +kernel)
set_option maxRecDepth 20000 in
theorem gX6_offerPlace_X0_copyFrom : GoodIn wsX6_offerPlace (wsV RX6 54 RX0 yX0_copyFrom wsX0_copyFrom) := goodIn_app (goodIn_of _ (by decide +kernel)) ggX6_offerPlace_X0_copyFrom
set_option maxRecDepth 20000 in
theorem ggX6_offerPlace_X0_moveThing : GoodIn wsX6_offerPlace wsX0_moveThing := goodIn_r _ [25, 26, 27, 16, 17, 18, 19, 28, 29, 30, 6, 31, 15, 32, 33, 34, 35, 20, 36, 37, 38, 39, 40, 41, 42, 43, 44, 45, 46, 47, 48, 49, 50, 51, 52, 53, 54, 55, 160, 161, 162, 163, 164, 165, 166, 167, 168, 169] (by decide +kernel) (by decide +kernel)
set_option maxRecDepth 20000 in
theorem gX6_offerPlace_X0_moveThing : GoodIn wsX6_offerPlace (wsV RX6 80 RX0 yX0_moveThing wsX0_moveThing) := goodIn_app (goodIn_of _ (by decide +kernel)) ggX6_offerPlace_X0_moveThing
set_option maxRecDepth 20000 in
theorem ggX6_offerPlace_X6_offerTrial : GoodIn wsX6_offerPlace wsX6_offerTrial := goodIn_r _ [59, 60, 1, 61, 62, 63, 64, 65, 66, 67, 68, 69, 70, 71, 6, 72, 14, 73, 74, 75, 76, 77, 78, 79, 80, 81, 33, 34, 35, 20, 82, 83, 84, 85, 86, 87, 88, 89, 90, 91, 92, 16, 17, 18, 93, 94, 95, 36, 37, 38, 32, 96, 97, 98, 99, 100, 101, 102, 103, 104, 105, 19, 106, 107, 108, 109, 110, 111, 112, 113, 114, 115, 116, 117, 118, 119, 120, 121, 122, 123, 124, 125, 126, 127, 128, 129, 130, 131, 132, 133, 134, 135, 136, 137, 138, 139, 140, 141, 142, 143, 144, 145, 146, 147, 148, 149, 150, 151, 152, 153, 154, 155, 156, 157, 158, 159, 160, 161, 162, 163, 164, 165, 166, 167, 168, 169, 170, 171, 172, 173, 174, 175, 176, 177] (by decide +kernel) (by decide +kernel)
set_option maxRecDepth 20000 in
theorem gX6_offerPlace_X6_offerTrial : GoodIn wsX6_offerPlace (wsV RX6 200 RX6 yX6_offerTrial wsX6_offerTrial) := goodIn_app (goodIn_of _ (by decide +kernel)) ggX6_offerPlace_X6_offerTrial
theorem dX6_offerPlace_0 : decode cX6_offerPlace 0 = .ok (.aload_n 0, 1) := by decide +kernel
theorem dX6_offerPlace_1 : decode cX6_offerPlace 1 = .ok (.getfield 16, 3) := by decide +kernel
theorem dX6_offerPlace_4 : decode cX6_offerPlace 4 = .ok (.aload_n 0, 1) := by decide +kernel
theorem dX6_offerPlace_5 : decode cX6_offerPlace 5 = .ok (.getfield 10, 3) := by decide +kernel
theorem dX6_offerPlace_8 : decode cX6_offerPlace 8 = .ok (.invokevirtual 54, 3) := by decide +kernel
theorem dX6_offerPlace_11 : decode cX6_offerPlace 11 = .ok (.iload_n 2, 1) := by decide +kernel
theorem dX6_offerPlace_12 : decode cX6_offerPlace 12 = .ok (.iload_n 1, 1) := by decide +kernel
theorem dX6_offerPlace_13 : decode cX6_offerPlace 13 = .ok (.if_icmp .eq 15, 3) := by decide +kernel
theorem dX6_offerPlace_16 : decode cX6_offerPlace 16 = .ok (.aload_n 0, 1) := by decide +kernel
theorem dX6_offerPlace_17 : decode cX6_offerPlace 17 = .ok (.getfield 16, 3) := by decide +kernel
theorem dX6_offerPlace_20 : decode cX6_offerPlace 20 = .ok (.iload_n 1, 1) := by decide +kernel
theorem dX6_offerPlace_21 : decode cX6_offerPlace 21 = .ok (.iload_n 2, 1) := by decide +kernel
theorem dX6_offerPlace_22 : decode cX6_offerPlace 22 = .ok (.invokevirtual 80, 3) := by decide +kernel
theorem dX6_offerPlace_25 : decode cX6_offerPlace 25 = .ok (.ifCond .lt 8, 3) := by decide +kernel
theorem dX6_offerPlace_28 : decode cX6_offerPlace 28 = .ok (.aload_n 0, 1) := by decide +kernel
theorem dX6_offerPlace_29 : decode cX6_offerPlace 29 = .ok (.iload_n 2, 1) := by decide +kernel
theorem dX6_offerPlace_30 : decode cX6_offerPlace 30 = .ok (.invokevirtual 200, 3) := by decide +kernel
theorem dX6_offerPlace_33 : decode cX6_offerPlace 33 = .ok (.return_, 1) := by decide +kernel
set_option maxRecDepth 20000 in
theorem ggX6_offerTrial_X4_follow : GoodIn wsX6_offerTrial wsX4_follow := goodIn_r _ [8, 9, 10, 11, 12, 13, 14, 15, 16, 17, 18, 19, 7, 20, 21, 22, 23, 24, 25, 26, 27, 28, 29, 30, 31, 32, 33, 34, 35, 36, 37, 38, 39, 40, 41, 42, 43, 44, 45, 46, 47, 48, 49, 50, 51, 52, 53, 54, 55, 56, 57, 58, 59, 60, 61, 62, 63, 64, 65, 66, 116, 117, 118, 119, 120, 121, 122, 123, 124, 125, 126, 127, 128, 129, 130] (by decide +kernel) (by decide +kernel)
set_option maxRecDepth 20000 in
theorem gX6_offerTrial_X4_follow : GoodIn wsX6_offerTrial (wsV RX6 95 RX4 yX4_follow wsX4_follow) := goodIn_app (goodIn_of _ (by decide +kernel)) ggX6_offerTrial_X4_follow
set_option maxRecDepth 20000 in
theorem ggX6_offerTrial_X4_linesOnScreen : GoodIn wsX6_offerTrial wsX4_linesOnScreen := goodIn_r _ [70, 71, 72, 73, 7, 74, 10, 75, 76, 77, 78, 56, 126, 127, 128, 129, 130] (by decide +kernel) (by decide +kernel)
set_option maxRecDepth 20000 in
theorem gX6_offerTrial_X4_linesOnScreen : GoodIn wsX6_offerTrial (wsV RX6 273 RX4 yX4_linesOnScreen wsX4_linesOnScreen) := goodIn_app (goodIn_of _ (by decide +kernel)) ggX6_offerTrial_X4_linesOnScreen
set_option maxRecDepth 20000 in
theorem ggX6_offerTrial_J6_bitCount_0f7a4 : GoodIn wsX6_offerTrial wsJ6_bitCount_0f7a4 := goodIn_r _ [82, 83, 84, 85] (by decide +kernel) (by decide +kernel)
set_option maxRecDepth 20000 in
theorem gX6_offerTrial_J6_bitCount_0f7a4 : GoodIn wsX6_offerTrial (va_wsS RX6 276 yJ6_bitCount_0f7a4 wsJ6_bitCount_0f7a4) := goodIn_app (goodIn_of _ (by decide +kernel)) ggX6_offerTrial_J6_bitCount_0f7a4
set_option maxRecDepth 20000 in
theorem ggX6_offerTrial_X4_spread : GoodIn wsX6_offerTrial wsX4_spread := goodIn_r _ [89, 23, 90, 91, 92, 93, 94, 95, 96, 71, 72, 73, 7, 74, 10, 75, 76, 77, 78, 56, 126, 127, 128, 129, 130] (by decide +kernel) (by decide +kernel)
set_option maxRecDepth 20000 in
theorem gX6_offerTrial_X4_spread : GoodIn wsX6_offerTrial (wsV RX6 281 RX4 yX4_spread wsX4_spread) := goodIn_app (goodIn_of _ (by decide +kernel)) ggX6_offerTrial_X4_spread
set_option maxRecDepth 20000 in
theorem ggX6_offerTrial_X2_offer : GoodIn wsX6_offerTrial wsX2_offer := goodIn_r _ [101, 102, 103, 104, 131, 132, 133] (by decide +kernel) (by decide +kernel)
set_option maxRecDepth 20000 in
theorem gX6_offerTrial_X2_offer : GoodIn wsX6_offerTrial (wsV RX6 283 RX2 yX2_offer wsX2_offer) := goodIn_app (goodIn_of _ (by decide +kernel)) ggX6_offerTrial_X2_offer
theorem dX6_offerTrial_0 : decode cX6_offerTrial 0 = .ok (.aload_n 0, 1) := by decide +kernel
theorem dX6_offerTrial_1 : decode cX6_offerTrial 1 = .ok (.getfield 22, 3) := by decide +kernel
theorem dX6_offerTrial_4 : decode cX6_offerTrial 4 = .ok (.aload_n 0, 1) := by decide +kernel
theorem dX6_offerTrial_5 : decode cX6_offerTrial 5 = .ok (.getfield 16, 3) := by decide +kernel
theorem dX6_offerTrial_8 : decode cX6_offerTrial 8 = .ok (.invokevirtual 95, 3) := by decide +kernel
theorem dX6_offerTrial_11 : decode cX6_offerTrial 11 = .ok (.aload_n 0, 1) := by decide +kernel
theorem dX6_offerTrial_12 : decode cX6_offerTrial 12 = .ok (.getfield 36, 3) := by decide +kernel
theorem dX6_offerTrial_15 : decode cX6_offerTrial 15 = .ok (.iload_n 1, 1) := by decide +kernel
theorem dX6_offerTrial_16 : decode cX6_offerTrial 16 = .ok (.aload_n 0, 1) := by decide +kernel
theorem dX6_offerTrial_17 : decode cX6_offerTrial 17 = .ok (.getfield 22, 3) := by decide +kernel
theorem dX6_offerTrial_20 : decode cX6_offerTrial 20 = .ok (.invokevirtual 273, 3) := by decide +kernel
theorem dX6_offerTrial_23 : decode cX6_offerTrial 23 = .ok (.invokestatic 276, 3) := by decide +kernel
theorem dX6_offerTrial_26 : decode cX6_offerTrial 26 = .ok (.aload_n 0, 1) := by decide +kernel
theorem dX6_offerTrial_27 : decode cX6_offerTrial 27 = .ok (.getfield 22, 3) := by decide +kernel
theorem dX6_offerTrial_30 : decode cX6_offerTrial 30 = .ok (.invokevirtual 281, 3) := by decide +kernel
theorem dX6_offerTrial_33 : decode cX6_offerTrial 33 = .ok (.invokevirtual 283, 3) := by decide +kernel
theorem dX6_offerTrial_36 : decode cX6_offerTrial 36 = .ok (.return_, 1) := by decide +kernel
set_option maxRecDepth 20000 in
theorem ggX6_countOfRays_X4_follow : GoodIn wsX6_countOfRays wsX4_follow := goodIn_r _ [10, 11, 12, 13, 14, 15, 16, 17, 18, 19, 20, 21, 9, 22, 23, 24, 25, 26, 27, 28, 29, 30, 31, 32, 33, 34, 35, 36, 37, 38, 39, 40, 41, 42, 43, 44, 45, 46, 47, 48, 49, 50, 51, 52, 53, 54, 55, 56, 57, 58, 59, 60, 61, 62, 63, 64, 65, 66, 67, 68, 171, 172, 173, 174, 175, 176, 177, 178, 179, 180, 181, 182, 183, 184, 185] (by decide +kernel) (by decide +kernel)
set_option maxRecDepth 20000 in
theorem gX6_countOfRays_X4_follow : GoodIn wsX6_countOfRays (wsV RX6 95 RX4 yX4_follow wsX4_follow) := goodIn_app (goodIn_of _ (by decide +kernel)) ggX6_countOfRays_X4_follow
set_option maxRecDepth 20000 in
theorem ggX6_countOfRays_X4_linesOnScreen : GoodIn wsX6_countOfRays wsX4_linesOnScreen := goodIn_r _ [72, 73, 74, 75, 9, 76, 12, 77, 78, 79, 80, 58, 181, 182, 183, 184, 185] (by decide +kernel) (by decide +kernel)
set_option maxRecDepth 20000 in
theorem gX6_countOfRays_X4_linesOnScreen : GoodIn wsX6_countOfRays (wsV RX6 273 RX4 yX4_linesOnScreen wsX4_linesOnScreen) := goodIn_app (goodIn_of _ (by decide +kernel)) ggX6_countOfRays_X4_linesOnScreen
set_option maxRecDepth 20000 in
theorem ggX6_countOfRays_X4_spread : GoodIn wsX6_countOfRays wsX4_spread := goodIn_r _ [84, 25, 85, 86, 87, 88, 89, 90, 91, 73, 74, 75, 9, 76, 12, 77, 78, 79, 80, 58, 181, 182, 183, 184, 185] (by decide +kernel) (by decide +kernel)
set_option maxRecDepth 20000 in
theorem gX6_countOfRays_X4_spread : GoodIn wsX6_countOfRays (wsV RX6 281 RX4 yX4_spread wsX4_spread) := goodIn_app (goodIn_of _ (by decide +kernel)) ggX6_countOfRays_X4_spread
set_option maxRecDepth 20000 in
theorem ggX6_countOfRays_X6_lightIsJoined : GoodIn wsX6_countOfRays wsX6_lightIsJoined := goodIn_r _ [95, 3, 2, 1, 4, 96, 97, 98, 99, 100, 101, 102, 103, 104, 105, 14, 15, 16, 17, 18, 106, 78, 79, 9, 80, 58, 107, 108, 109, 110, 111, 67, 36, 37, 38, 112, 113, 114, 115, 116, 117, 118, 119, 120, 121, 122, 123, 124, 125, 126, 69, 70, 71, 72, 73, 74, 75, 76, 12, 77, 127, 128, 129, 130, 131, 132, 133, 156, 157, 158, 159, 160, 161, 162, 163, 164, 165, 166, 167, 168, 169, 170, 171, 172, 173, 174, 175, 176, 177, 178, 179, 180, 181, 182, 183, 184, 185] (by decide +kernel) (by decide +kernel)
set_option maxRecDepth 20000 in
theorem gX6_countOfRays_X6_lightIsJoined : GoodIn wsX6_countOfRays (wsV RX6 287 RX6 yX6_lightIsJoined wsX6_lightIsJoined) := goodIn_app (goodIn_of _ (by decide +kernel)) ggX6_countOfRays_X6_lightIsJoined
set_option maxRecDepth 20000 in
theorem ggX6_countOfRays_X6_oneIf : GoodIn wsX6_countOfRays wsX6_oneIf := goodIn_r _ [136] (by decide +kernel) (by decide +kernel)
set_option maxRecDepth 20000 in
theorem gX6_countOfRays_X6_oneIf : GoodIn wsX6_countOfRays (va_wsS RX6 108 yX6_oneIf wsX6_oneIf) := goodIn_app (goodIn_of _ (by decide +kernel)) ggX6_countOfRays_X6_oneIf
set_option maxRecDepth 20000 in
theorem ggX6_countOfRays_X4_slopesAreSame : GoodIn wsX6_countOfRays wsX4_slopesAreSame := goodIn_r _ [140, 26, 73, 74, 75, 9, 76, 12, 181, 182, 183, 184, 185] (by decide +kernel) (by decide +kernel)
set_option maxRecDepth 20000 in
theorem gX6_countOfRays_X4_slopesAreSame : GoodIn wsX6_countOfRays (wsV RX6 291 RX4 yX4_slopesAreSame wsX4_slopesAreSame) := goodIn_app (goodIn_of _ (by decide +kernel)) ggX6_countOfRays_X4_slopesAreSame
set_option maxRecDepth 20000 in
theorem ggX6_countOfRays_X4_lightOnScreen : GoodIn wsX6_countOfRays wsX4_lightOnScreen := goodIn_r _ [144, 145, 13, 14, 15, 16, 17, 18, 77, 78, 79, 9, 80, 58, 171, 172, 173, 174, 175, 176, 177, 178, 179, 180, 181, 182, 183, 184, 185] (by decide +kernel) (by decide +kernel)
set_option maxRecDepth 20000 in
theorem gX6_countOfRays_X4_lightOnScreen : GoodIn wsX6_countOfRays (wsV RX6 208 RX4 yX4_lightOnScreen wsX4_lightOnScreen) := goodIn_app (goodIn_of _ (by decide +kernel)) ggX6_countOfRays_X4_lightOnScreen
set_option maxRecDepth 20000 in
theorem ggX6_countOfRays_X0_lightOfAll : GoodIn wsX6_countOfRays wsX0_lightOfAll := goodIn_r _ [149, 150, 151, 14, 15, 16, 17, 18, 171, 172, 173, 174, 175, 176, 177, 178, 179, 180] (by decide +kernel) (by decide +kernel)
set_option maxRecDepth 20000 in
theorem gX6_countOfRays_X0_lightOfAll : GoodIn wsX6_countOfRays (wsV RX6 204 RX0 yX0_lightOfAll wsX0_lightOfAll) := goodIn_app (goodIn_of _ (by decide +kernel)) ggX6_countOfRays_X0_lightOfAll
set_option maxRecDepth 20000 in
theorem ggX6_countOfRays_X4_lightLostAt : GoodIn wsX6_countOfRays wsX4_lightLostAt := goodIn_r _ [155, 57, 145, 13, 14, 15, 16, 17, 18, 77, 78, 79, 9, 80, 58, 181, 182, 183, 184, 185, 171, 172, 173, 174, 175, 176, 177, 178, 179, 180] (by decide +kernel) (by decide +kernel)
set_option maxRecDepth 20000 in
theorem gX6_countOfRays_X4_lightLostAt : GoodIn wsX6_countOfRays (wsV RX6 150 RX4 yX4_lightLostAt wsX4_lightLostAt) := goodIn_app (goodIn_of _ (by decide +kernel)) ggX6_countOfRays_X4_lightLostAt
set_option maxRecDepth 20000 in
theorem ggX6_countOfRays_X1_gather : GoodIn wsX6_countOfRays wsX1_gather := goodIn_r _ [101, 102, 103, 104, 105, 14, 15, 16, 17, 18, 106, 78, 79, 9, 80, 58, 107, 108, 109, 110, 111, 67, 36, 37, 38, 112, 113, 114, 100, 115, 116, 117, 118, 119, 120, 121, 122, 123, 124, 125, 126, 167, 168, 169, 170, 181, 182, 183, 184, 185, 171, 172, 173, 174, 175, 176, 177, 178, 179, 180] (by decide +kernel) (by decide +kernel)
set_option maxRecDepth 20000 in
theorem gX6_countOfRays_X1_gather : GoodIn wsX6_countOfRays (wsV RX6 156 RX1 yX1_gather wsX1_gather) := goodIn_app (goodIn_of _ (by decide +kernel)) ggX6_countOfRays_X1_gather
theorem dX6_countOfRays_0 : decode cX6_countOfRays 0 = .ok (.aload_n 0, 1) := by decide +kernel
theorem dX6_countOfRays_1 : decode cX6_countOfRays 1 = .ok (.getfield 22, 3) := by decide +kernel
theorem dX6_countOfRays_4 : decode cX6_countOfRays 4 = .ok (.aload_n 0, 1) := by decide +kernel
theorem dX6_countOfRays_5 : decode cX6_countOfRays 5 = .ok (.getfield 10, 3) := by decide +kernel
theorem dX6_countOfRays_8 : decode cX6_countOfRays 8 = .ok (.invokevirtual 95, 3) := by decide +kernel
theorem dX6_countOfRays_11 : decode cX6_countOfRays 11 = .ok (.iload_n 1, 1) := by decide +kernel
theorem dX6_countOfRays_12 : decode cX6_countOfRays 12 = .ok (.tableswitch 187 2 10 #[52, 60, 68, 76, 187, 102, 114, 149, 164], 52) := by decide +kernel
theorem dX6_countOfRays_64 : decode cX6_countOfRays 64 = .ok (.aload_n 0, 1) := by decide +kernel
theorem dX6_countOfRays_65 : decode cX6_countOfRays 65 = .ok (.getfield 22, 3) := by decide +kernel
theorem dX6_countOfRays_68 : decode cX6_countOfRays 68 = .ok (.invokevirtual 273, 3) := by decide +kernel
theorem dX6_countOfRays_71 : decode cX6_countOfRays 71 = .ok (.ireturn, 1) := by decide +kernel
theorem dX6_countOfRays_72 : decode cX6_countOfRays 72 = .ok (.aload_n 0, 1) := by decide +kernel
theorem dX6_countOfRays_73 : decode cX6_countOfRays 73 = .ok (.getfield 22, 3) := by decide +kernel
theorem dX6_countOfRays_76 : decode cX6_countOfRays 76 = .ok (.invokevirtual 281, 3) := by decide +kernel
theorem dX6_countOfRays_79 : decode cX6_countOfRays 79 = .ok (.ireturn, 1) := by decide +kernel
theorem dX6_countOfRays_80 : decode cX6_countOfRays 80 = .ok (.aload_n 0, 1) := by decide +kernel
theorem dX6_countOfRays_81 : decode cX6_countOfRays 81 = .ok (.invokevirtual 287, 3) := by decide +kernel
theorem dX6_countOfRays_84 : decode cX6_countOfRays 84 = .ok (.invokestatic 108, 3) := by decide +kernel
theorem dX6_countOfRays_87 : decode cX6_countOfRays 87 = .ok (.ireturn, 1) := by decide +kernel
theorem dX6_countOfRays_88 : decode cX6_countOfRays 88 = .ok (.aload_n 0, 1) := by decide +kernel
theorem dX6_countOfRays_89 : decode cX6_countOfRays 89 = .ok (.invokevirtual 287, 3) := by decide +kernel
theorem dX6_countOfRays_92 : decode cX6_countOfRays 92 = .ok (.ifCond .eq 17, 3) := by decide +kernel
theorem dX6_countOfRays_95 : decode cX6_countOfRays 95 = .ok (.aload_n 0, 1) := by decide +kernel
theorem dX6_countOfRays_96 : decode cX6_countOfRays 96 = .ok (.getfield 22, 3) := by decide +kernel
theorem dX6_countOfRays_99 : decode cX6_countOfRays 99 = .ok (.invokevirtual 291, 3) := by decide +kernel
theorem dX6_countOfRays_102 : decode cX6_countOfRays 102 = .ok (.ifCond .eq 7, 3) := by decide +kernel
theorem dX6_countOfRays_105 : decode cX6_countOfRays 105 = .ok (.iconst 1, 1) := by decide +kernel
theorem dX6_countOfRays_106 : decode cX6_countOfRays 106 = .ok (.goto 4, 3) := by decide +kernel
theorem dX6_countOfRays_109 : decode cX6_countOfRays 109 = .ok (.iconst 0, 1) := by decide +kernel
theorem dX6_countOfRays_110 : decode cX6_countOfRays 110 = .ok (.invokestatic 108, 3) := by decide +kernel
theorem dX6_countOfRays_113 : decode cX6_countOfRays 113 = .ok (.ireturn, 1) := by decide +kernel
theorem dX6_countOfRays_114 : decode cX6_countOfRays 114 = .ok (.aload_n 0, 1) := by decide +kernel
theorem dX6_countOfRays_115 : decode cX6_countOfRays 115 = .ok (.getfield 22, 3) := by decide +kernel
theorem dX6_countOfRays_118 : decode cX6_countOfRays 118 = .ok (.aload_n 0, 1) := by decide +kernel
theorem dX6_countOfRays_119 : decode cX6_countOfRays 119 = .ok (.getfield 10, 3) := by decide +kernel
theorem dX6_countOfRays_122 : decode cX6_countOfRays 122 = .ok (.invokevirtual 208, 3) := by decide +kernel
theorem dX6_countOfRays_125 : decode cX6_countOfRays 125 = .ok (.ireturn, 1) := by decide +kernel
theorem dX6_countOfRays_126 : decode cX6_countOfRays 126 = .ok (.aload_n 0, 1) := by decide +kernel
theorem dX6_countOfRays_127 : decode cX6_countOfRays 127 = .ok (.getfield 10, 3) := by decide +kernel
theorem dX6_countOfRays_130 : decode cX6_countOfRays 130 = .ok (.invokevirtual 204, 3) := by decide +kernel
theorem dX6_countOfRays_133 : decode cX6_countOfRays 133 = .ok (.aload_n 0, 1) := by decide +kernel
theorem dX6_countOfRays_134 : decode cX6_countOfRays 134 = .ok (.getfield 22, 3) := by decide +kernel
theorem dX6_countOfRays_137 : decode cX6_countOfRays 137 = .ok (.aload_n 0, 1) := by decide +kernel
theorem dX6_countOfRays_138 : decode cX6_countOfRays 138 = .ok (.getfield 10, 3) := by decide +kernel
theorem dX6_countOfRays_141 : decode cX6_countOfRays 141 = .ok (.invokevirtual 208, 3) := by decide +kernel
theorem dX6_countOfRays_144 : decode cX6_countOfRays 144 = .ok (.isub, 1) := by decide +kernel
theorem dX6_countOfRays_145 : decode cX6_countOfRays 145 = .ok (.aload_n 0, 1) := by decide +kernel
theorem dX6_countOfRays_146 : decode cX6_countOfRays 146 = .ok (.getfield 22, 3) := by decide +kernel
theorem dX6_countOfRays_149 : decode cX6_countOfRays 149 = .ok (.aload_n 0, 1) := by decide +kernel
theorem dX6_countOfRays_150 : decode cX6_countOfRays 150 = .ok (.getfield 10, 3) := by decide +kernel
theorem dX6_countOfRays_153 : decode cX6_countOfRays 153 = .ok (.sipush 1000, 3) := by decide +kernel
theorem dX6_countOfRays_156 : decode cX6_countOfRays 156 = .ok (.invokevirtual 150, 3) := by decide +kernel
theorem dX6_countOfRays_159 : decode cX6_countOfRays 159 = .ok (.isub, 1) := by decide +kernel
theorem dX6_countOfRays_160 : decode cX6_countOfRays 160 = .ok (.ireturn, 1) := by decide +kernel
theorem dX6_countOfRays_161 : decode cX6_countOfRays 161 = .ok (.aload_n 0, 1) := by decide +kernel
theorem dX6_countOfRays_162 : decode cX6_countOfRays 162 = .ok (.getfield 22, 3) := by decide +kernel
theorem dX6_countOfRays_165 : decode cX6_countOfRays 165 = .ok (.aload_n 0, 1) := by decide +kernel
theorem dX6_countOfRays_166 : decode cX6_countOfRays 166 = .ok (.getfield 10, 3) := by decide +kernel
theorem dX6_countOfRays_169 : decode cX6_countOfRays 169 = .ok (.sipush 1000, 3) := by decide +kernel
theorem dX6_countOfRays_172 : decode cX6_countOfRays 172 = .ok (.invokevirtual 150, 3) := by decide +kernel
theorem dX6_countOfRays_175 : decode cX6_countOfRays 175 = .ok (.ireturn, 1) := by decide +kernel
theorem dX6_countOfRays_176 : decode cX6_countOfRays 176 = .ok (.aload_n 0, 1) := by decide +kernel
theorem dX6_countOfRays_177 : decode cX6_countOfRays 177 = .ok (.getfield 29, 3) := by decide +kernel
theorem dX6_countOfRays_180 : decode cX6_countOfRays 180 = .ok (.aload_n 0, 1) := by decide +kernel
theorem dX6_countOfRays_181 : decode cX6_countOfRays 181 = .ok (.getfield 10, 3) := by decide +kernel
theorem dX6_countOfRays_184 : decode cX6_countOfRays 184 = .ok (.aload_n 0, 1) := by decide +kernel
theorem dX6_countOfRays_185 : decode cX6_countOfRays 185 = .ok (.getfield 22, 3) := by decide +kernel
theorem dX6_countOfRays_188 : decode cX6_countOfRays 188 = .ok (.invokevirtual 156, 3) := by decide +kernel
theorem dX6_countOfRays_191 : decode cX6_countOfRays 191 = .ok (.aload_n 0, 1) := by decide +kernel
theorem dX6_countOfRays_192 : decode cX6_countOfRays 192 = .ok (.getfield 29, 3) := by decide +kernel
theorem dX6_countOfRays_195 : decode cX6_countOfRays 195 = .ok (.getfield 294, 3) := by decide +kernel
theorem dX6_countOfRays_198 : decode cX6_countOfRays 198 = .ok (.ireturn, 1) := by decide +kernel
theorem dX6_countOfRays_199 : decode cX6_countOfRays 199 = .ok (.ldc 94, 2) := by decide +kernel
theorem dX6_countOfRays_201 : decode cX6_countOfRays 201 = .ok (.ireturn, 1) := by decide +kernel
set_option maxRecDepth 20000 in
theorem ggX6_lightIsJoined_X1_gather : GoodIn wsX6_lightIsJoined wsX1_gather := goodIn_r _ [10, 11, 12, 13, 14, 15, 16, 17, 18, 19, 20, 21, 22, 23, 24, 25, 26, 27, 28, 29, 30, 31, 32, 33, 34, 35, 36, 37, 9, 38, 39, 40, 41, 42, 43, 44, 45, 46, 47, 48, 49, 78, 79, 80, 81, 92, 93, 94, 95, 96, 82, 83, 84, 85, 86, 87, 88, 89, 90, 91] (by decide +kernel) (by decide +kernel)
set_option maxRecDepth 20000 in
theorem gX6_lightIsJoined_X1_gather : GoodIn wsX6_lightIsJoined (wsV RX6 156 RX1 yX1_gather wsX1_gather) := goodIn_app (goodIn_of _ (by decide +kernel)) ggX6_lightIsJoined_X1_gather
set_option maxRecDepth 20000 in
theorem ggX6_lightIsJoined_X4_linesOnScreen : GoodIn wsX6_lightIsJoined wsX4_linesOnScreen := goodIn_r _ [53, 54, 55, 56, 23, 57, 58, 59, 21, 22, 24, 25, 92, 93, 94, 95, 96] (by decide +kernel) (by decide +kernel)
set_option maxRecDepth 20000 in
theorem gX6_lightIsJoined_X4_linesOnScreen : GoodIn wsX6_lightIsJoined (wsV RX6 273 RX4 yX4_linesOnScreen wsX4_linesOnScreen) := goodIn_app (goodIn_of _ (by decide +kernel)) ggX6_lightIsJoined_X4_linesOnScreen
set_option maxRecDepth 20000 in
theorem ggX6_lightIsJoined_J6_bitCount_0f7a4 : GoodIn wsX6_lightIsJoined wsJ6_bitCount_0f7a4 := goodIn_r _ [63, 64, 65, 66] (by decide +kernel) (by decide +kernel)
set_option maxRecDepth 20000 in
theorem gX6_lightIsJoined_J6_bitCount_0f7a4 : GoodIn wsX6_lightIsJoined (va_wsS RX6 276 yJ6_bitCount_0f7a4 wsJ6_bitCount_0f7a4) := goodIn_app (goodIn_of _ (by decide +kernel)) ggX6_lightIsJoined_J6_bitCount_0f7a4
theorem dX6_lightIsJoined_0 : decode cX6_lightIsJoined 0 = .ok (.aload_n 0, 1) := by decide +kernel
theorem dX6_lightIsJoined_1 : decode cX6_lightIsJoined 1 = .ok (.getfield 29, 3) := by decide +kernel
theorem dX6_lightIsJoined_4 : decode cX6_lightIsJoined 4 = .ok (.aload_n 0, 1) := by decide +kernel
theorem dX6_lightIsJoined_5 : decode cX6_lightIsJoined 5 = .ok (.getfield 10, 3) := by decide +kernel
theorem dX6_lightIsJoined_8 : decode cX6_lightIsJoined 8 = .ok (.aload_n 0, 1) := by decide +kernel
theorem dX6_lightIsJoined_9 : decode cX6_lightIsJoined 9 = .ok (.getfield 22, 3) := by decide +kernel
theorem dX6_lightIsJoined_12 : decode cX6_lightIsJoined 12 = .ok (.invokevirtual 156, 3) := by decide +kernel
theorem dX6_lightIsJoined_15 : decode cX6_lightIsJoined 15 = .ok (.aload_n 0, 1) := by decide +kernel
theorem dX6_lightIsJoined_16 : decode cX6_lightIsJoined 16 = .ok (.getfield 29, 3) := by decide +kernel
theorem dX6_lightIsJoined_19 : decode cX6_lightIsJoined 19 = .ok (.getfield 294, 3) := by decide +kernel
theorem dX6_lightIsJoined_22 : decode cX6_lightIsJoined 22 = .ok (.iconst 1, 1) := by decide +kernel
theorem dX6_lightIsJoined_23 : decode cX6_lightIsJoined 23 = .ok (.if_icmp .ne 27, 3) := by decide +kernel
theorem dX6_lightIsJoined_26 : decode cX6_lightIsJoined 26 = .ok (.aload_n 0, 1) := by decide +kernel
theorem dX6_lightIsJoined_27 : decode cX6_lightIsJoined 27 = .ok (.getfield 22, 3) := by decide +kernel
theorem dX6_lightIsJoined_30 : decode cX6_lightIsJoined 30 = .ok (.invokevirtual 273, 3) := by decide +kernel
theorem dX6_lightIsJoined_33 : decode cX6_lightIsJoined 33 = .ok (.invokestatic 276, 3) := by decide +kernel
theorem dX6_lightIsJoined_36 : decode cX6_lightIsJoined 36 = .ok (.aload_n 0, 1) := by decide +kernel
theorem dX6_lightIsJoined_37 : decode cX6_lightIsJoined 37 = .ok (.getfield 10, 3) := by decide +kernel
theorem dX6_lightIsJoined_40 : decode cX6_lightIsJoined 40 = .ok (.getfield 216, 3) := by decide +kernel
theorem dX6_lightIsJoined_43 : decode cX6_lightIsJoined 43 = .ok (.if_icmp .ne 7, 3) := by decide +kernel
theorem dX6_lightIsJoined_46 : decode cX6_lightIsJoined 46 = .ok (.iconst 1, 1) := by decide +kernel
theorem dX6_lightIsJoined_47 : decode cX6_lightIsJoined 47 = .ok (.goto 4, 3) := by decide +kernel
theorem dX6_lightIsJoined_50 : decode cX6_lightIsJoined 50 = .ok (.iconst 0, 1) := by decide +kernel
theorem dX6_lightIsJoined_51 : decode cX6_lightIsJoined 51 = .ok (.ireturn, 1) := by decide +kernel
theorem dX6_bitsOf_0 : decode cX6_bitsOf 0 = .ok (.fload_n 0, 1) := by decide +kernel
theorem dX6_bitsOf_1 : decode cX6_bitsOf 1 = .ok (.fconst 0, 1) := by decide +kernel
theorem dX6_bitsOf_2 : decode cX6_bitsOf 2 = .ok (.fcmp .l, 1) := by decide +kernel
theorem dX6_bitsOf_3 : decode cX6_bitsOf 3 = .ok (.ifCond .gt 5, 3) := by decide +kernel
theorem dX6_bitsOf_6 : decode cX6_bitsOf 6 = .ok (.iconst 0, 1) := by decide +kernel
theorem dX6_bitsOf_7 : decode cX6_bitsOf 7 = .ok (.ireturn, 1) := by decide +kernel
theorem dX6_bitsOf_8 : decode cX6_bitsOf 8 = .ok (.fload_n 0, 1) := by decide +kernel
theorem dX6_bitsOf_9 : decode cX6_bitsOf 9 = .ok (.fstore_n 1, 1) := by decide +kernel
theorem dX6_bitsOf_10 : decode cX6_bitsOf 10 = .ok (.bipush 127, 2) := by decide +kernel
theorem dX6_bitsOf_12 : decode cX6_bitsOf 12 = .ok (.istore_n 2, 1) := by decide +kernel
theorem dX6_bitsOf_13 : decode cX6_bitsOf 13 = .ok (.fload_n 1, 1) := by decide +kernel
theorem dX6_bitsOf_14 : decode cX6_bitsOf 14 = .ok (.fconst 1, 1) := by decide +kernel
theorem dX6_bitsOf_15 : decode cX6_bitsOf 15 = .ok (.fcmp .g, 1) := by decide +kernel
theorem dX6_bitsOf_16 : decode cX6_bitsOf 16 = .ok (.ifCond .ge 18, 3) := by decide +kernel
theorem dX6_bitsOf_19 : decode cX6_bitsOf 19 = .ok (.iload_n 2, 1) := by decide +kernel
theorem dX6_bitsOf_20 : decode cX6_bitsOf 20 = .ok (.iconst 1, 1) := by decide +kernel
theorem dX6_bitsOf_21 : decode cX6_bitsOf 21 = .ok (.if_icmp .le 13, 3) := by decide +kernel
theorem dX6_bitsOf_24 : decode cX6_bitsOf 24 = .ok (.fload_n 1, 1) := by decide +kernel
theorem dX6_bitsOf_25 : decode cX6_bitsOf 25 = .ok (.fconst 2, 1) := by decide +kernel
theorem dX6_bitsOf_26 : decode cX6_bitsOf 26 = .ok (.fmul, 1) := by decide +kernel
theorem dX6_bitsOf_27 : decode cX6_bitsOf 27 = .ok (.fstore_n 1, 1) := by decide +kernel
theorem dX6_bitsOf_28 : decode cX6_bitsOf 28 = .ok (.iinc 2 (-1), 3) := by decide +kernel
theorem dX6_bitsOf_31 : decode cX6_bitsOf 31 = .ok (.goto (-18), 3) := by decide +kernel
theorem dX6_bitsOf_34 : decode cX6_bitsOf 34 = .ok (.iload_n 2, 1) := by decide +kernel
theorem dX6_bitsOf_35 : decode cX6_bitsOf 35 = .ok (.bipush 23, 2) := by decide +kernel
theorem dX6_bitsOf_37 : decode cX6_bitsOf 37 = .ok (.ishl, 1) := by decide +kernel
theorem dX6_bitsOf_38 : decode cX6_bitsOf 38 = .ok (.fload_n 1, 1) := by decide +kernel
theorem dX6_bitsOf_39 : decode cX6_bitsOf 39 = .ok (.fconst 1, 1) := by decide +kernel
theorem dX6_bitsOf_40 : decode cX6_bitsOf 40 = .ok (.fsub, 1) := by decide +kernel
theorem dX6_bitsOf_41 : decode cX6_bitsOf 41 = .ok (.ldc_w 297, 3) := by decide +kernel
theorem dX6_bitsOf_44 : decode cX6_bitsOf 44 = .ok (.fmul, 1) := by decide +kernel
theorem dX6_bitsOf_45 : decode cX6_bitsOf 45 = .ok (.f2i, 1) := by decide +kernel
theorem dX6_bitsOf_46 : decode cX6_bitsOf 46 = .ok (.ior, 1) := by decide +kernel
theorem dX6_bitsOf_47 : decode cX6_bitsOf 47 = .ok (.ireturn, 1) := by decide +kernel
set_option maxRecDepth 20000 in
theorem ggX6_tryText_X0_copyFrom : GoodIn wsX6_tryText wsX0_copyFrom := goodIn_r _ [12, 13, 14, 15, 16, 17, 18, 19, 20, 21, 22, 23, 24, 25, 26, 122, 123, 124, 125, 126, 127, 128, 129, 130, 131] (by decide +kernel) (by decide +kernel)
set_option maxRecDepth 20000 in
theorem gX6_tryText_X0_copyFrom : GoodIn wsX6_tryText (wsV RX6 54 RX0 yX0_copyFrom wsX0_copyFrom) := goodIn_app (goodIn_of _ (by decide +kernel)) ggX6_tryText_X0_copyFrom
set_option maxRecDepth 20000 in
theorem ggX6_tryText_X5_readOrder : GoodIn wsX6_tryText wsX5_readOrder := goodIn_r _ [31, 32, 33, 34, 35, 36, 30, 37, 38, 39, 40, 41, 42, 43, 44, 45, 46, 47, 48, 49, 50, 51, 52, 53, 54, 117, 118, 119, 120, 121] (by decide +kernel) (by decide +kernel)
set_option maxRecDepth 20000 in
theorem gX6_tryText_X5_readOrder : GoodIn wsX6_tryText (wsV RX6 298 RX5 yX5_readOrder wsX5_readOrder) := goodIn_app (goodIn_of _ (by decide +kernel)) ggX6_tryText_X5_readOrder
set_option maxRecDepth 20000 in
theorem ggX6_tryText_X6_noteFault : GoodIn wsX6_tryText wsX6_noteFault := goodIn_r _ [58, 59, 3, 60, 106, 107, 108, 109, 110, 111, 112, 113, 114, 115, 116] (by decide +kernel) (by decide +kernel)
set_option maxRecDepth 20000 in
theorem gX6_tryText_X6_noteFault : GoodIn wsX6_tryText (wsV RX6 304 RX6 yX6_noteFault wsX6_noteFault) := goodIn_app (goodIn_of _ (by decide +kernel)) ggX6_tryText_X6_noteFault
set_option maxRecDepth 20000 in
theorem ggX6_tryText_X6_doOrder : GoodIn wsX6_tryText wsX6_doOrder := goodIn_r _ [64, 5, 65, 66, 1, 67, 68, 69, 11, 70, 71, 19, 72, 13, 18, 48, 49, 50, 73, 74, 75, 76, 77, 78, 79, 80, 81, 25, 20, 21, 22, 23, 24, 82, 83, 84, 85, 86, 87, 88, 89, 90, 91, 92, 93, 94, 95, 96, 97, 98, 99, 100, 101, 102, 103, 104, 105, 106, 107, 108, 109, 110, 111, 112, 113, 114, 115, 116, 117, 118, 119, 120, 121, 122, 123, 124, 125, 126, 127, 128, 129, 130, 131] (by decide +kernel) (by decide +kernel)
set_option maxRecDepth 20000 in
theorem gX6_tryText_X6_doOrder : GoodIn wsX6_tryText (wsV RX6 307 RX6 yX6_doOrder wsX6_doOrder) := goodIn_app (goodIn_of _ (by decide +kernel)) ggX6_tryText_X6_doOrder
theorem dX6_tryText_0 : decode cX6_tryText 0 = .ok (.aload_n 0, 1) := by decide +kernel
theorem dX6_tryText_1 : decode cX6_tryText 1 = .ok (.getfield 16, 3) := by decide +kernel
theorem dX6_tryText_4 : decode cX6_tryText 4 = .ok (.aload_n 0, 1) := by decide +kernel
theorem dX6_tryText_5 : decode cX6_tryText 5 = .ok (.getfield 10, 3) := by decide +kernel
theorem dX6_tryText_8 : decode cX6_tryText 8 = .ok (.invokevirtual 54, 3) := by decide +kernel
theorem dX6_tryText_11 : decode cX6_tryText 11 = .ok (.aload_n 0, 1) := by decide +kernel
theorem dX6_tryText_12 : decode cX6_tryText 12 = .ok (.iconst 0, 1) := by decide +kernel
theorem dX6_tryText_13 : decode cX6_tryText 13 = .ok (.putfield 246, 3) := by decide +kernel
theorem dX6_tryText_16 : decode cX6_tryText 16 = .ok (.aload_n 0, 1) := by decide +kernel
theorem dX6_tryText_17 : decode cX6_tryText 17 = .ok (.iconst 0, 1) := by decide +kernel
theorem dX6_tryText_18 : decode cX6_tryText 18 = .ok (.putfield 255, 3) := by decide +kernel
theorem dX6_tryText_21 : decode cX6_tryText 21 = .ok (.iconst 0, 1) := by decide +kernel
theorem dX6_tryText_22 : decode cX6_tryText 22 = .ok (.istore_n 1, 1) := by decide +kernel
theorem dX6_tryText_23 : decode cX6_tryText 23 = .ok (.aload_n 0, 1) := by decide +kernel
theorem dX6_tryText_24 : decode cX6_tryText 24 = .ok (.getfield 255, 3) := by decide +kernel
theorem dX6_tryText_27 : decode cX6_tryText 27 = .ok (.bipush 60, 2) := by decide +kernel
theorem dX6_tryText_29 : decode cX6_tryText 29 = .ok (.if_icmp .ge 79, 3) := by decide +kernel
theorem dX6_tryText_32 : decode cX6_tryText 32 = .ok (.iload_n 1, 1) := by decide +kernel
theorem dX6_tryText_33 : decode cX6_tryText 33 = .ok (.aload_n 0, 1) := by decide +kernel
theorem dX6_tryText_34 : decode cX6_tryText 34 = .ok (.getfield 50, 3) := by decide +kernel
theorem dX6_tryText_37 : decode cX6_tryText 37 = .ok (.getfield 225, 3) := by decide +kernel
theorem dX6_tryText_40 : decode cX6_tryText 40 = .ok (.if_icmp .ge 68, 3) := by decide +kernel
theorem dX6_tryText_43 : decode cX6_tryText 43 = .ok (.aload_n 0, 1) := by decide +kernel
theorem dX6_tryText_44 : decode cX6_tryText 44 = .ok (.getfield 50, 3) := by decide +kernel
theorem dX6_tryText_47 : decode cX6_tryText 47 = .ok (.iload_n 1, 1) := by decide +kernel
theorem dX6_tryText_48 : decode cX6_tryText 48 = .ok (.invokevirtual 298, 3) := by decide +kernel
theorem dX6_tryText_51 : decode cX6_tryText 51 = .ok (.ifCond .ne 19, 3) := by decide +kernel
theorem dX6_tryText_54 : decode cX6_tryText 54 = .ok (.aload_n 0, 1) := by decide +kernel
theorem dX6_tryText_55 : decode cX6_tryText 55 = .ok (.iload_n 1, 1) := by decide +kernel
theorem dX6_tryText_56 : decode cX6_tryText 56 = .ok (.iconst 1, 1) := by decide +kernel
theorem dX6_tryText_57 : decode cX6_tryText 57 = .ok (.aload_n 0, 1) := by decide +kernel
theorem dX6_tryText_58 : decode cX6_tryText 58 = .ok (.getfield 50, 3) := by decide +kernel
theorem dX6_tryText_61 : decode cX6_tryText 61 = .ok (.getfield 301, 3) := by decide +kernel
theorem dX6_tryText_64 : decode cX6_tryText 64 = .ok (.iload_n 1, 1) := by decide +kernel
theorem dX6_tryText_65 : decode cX6_tryText 65 = .ok (.isub, 1) := by decide +kernel
theorem dX6_tryText_66 : decode cX6_tryText 66 = .ok (.invokevirtual 304, 3) := by decide +kernel
theorem dX6_tryText_69 : decode cX6_tryText 69 = .ok (.return_, 1) := by decide +kernel
theorem dX6_tryText_70 : decode cX6_tryText 70 = .ok (.aload_n 0, 1) := by decide +kernel
theorem dX6_tryText_71 : decode cX6_tryText 71 = .ok (.invokevirtual 307, 3) := by decide +kernel
theorem dX6_tryText_74 : decode cX6_tryText 74 = .ok (.istore_n 2, 1) := by decide +kernel
theorem dX6_tryText_75 : decode cX6_tryText 75 = .ok (.iload_n 2, 1) := by decide +kernel
theorem dX6_tryText_76 : decode cX6_tryText 76 = .ok (.ifCond .ge 11, 3) := by decide +kernel
theorem dX6_tryText_79 : decode cX6_tryText 79 = .ok (.aload_n 0, 1) := by decide +kernel
theorem dX6_tryText_80 : decode cX6_tryText 80 = .ok (.iload_n 1, 1) := by decide +kernel
theorem dX6_tryText_81 : decode cX6_tryText 81 = .ok (.iconst 2, 1) := by decide +kernel
theorem dX6_tryText_82 : decode cX6_tryText 82 = .ok (.iload_n 2, 1) := by decide +kernel
theorem dX6_tryText_83 : decode cX6_tryText 83 = .ok (.invokevirtual 304, 3) := by decide +kernel
theorem dX6_tryText_86 : decode cX6_tryText 86 = .ok (.return_, 1) := by decide +kernel
theorem dX6_tryText_87 : decode cX6_tryText 87 = .ok (.aload_n 0, 1) := by decide +kernel
theorem dX6_tryText_88 : decode cX6_tryText 88 = .ok (.dup, 1) := by decide +kernel
theorem dX6_tryText_89 : decode cX6_tryText 89 = .ok (.getfield 255, 3) := by decide +kernel
theorem dX6_tryText_92 : decode cX6_tryText 92 = .ok (.iconst 1, 1) := by decide +kernel
theorem dX6_tryText_93 : decode cX6_tryText 93 = .ok (.iadd, 1) := by decide +kernel
theorem dX6_tryText_94 : decode cX6_tryText 94 = .ok (.putfield 255, 3) := by decide +kernel
theorem dX6_tryText_97 : decode cX6_tryText 97 = .ok (.aload_n 0, 1) := by decide +kernel
theorem dX6_tryText_98 : decode cX6_tryText 98 = .ok (.getfield 50, 3) := by decide +kernel
theorem dX6_tryText_101 : decode cX6_tryText 101 = .ok (.getfield 301, 3) := by decide +kernel
theorem dX6_tryText_104 : decode cX6_tryText 104 = .ok (.istore_n 1, 1) := by decide +kernel
theorem dX6_tryText_105 : decode cX6_tryText 105 = .ok (.goto (-82), 3) := by decide +kernel
theorem dX6_tryText_108 : decode cX6_tryText 108 = .ok (.return_, 1) := by decide +kernel
theorem dX6_noteFault_0 : decode cX6_noteFault 0 = .ok (.aload_n 0, 1) := by decide +kernel
theorem dX6_noteFault_1 : decode cX6_noteFault 1 = .ok (.iload_n 1, 1) := by decide +kernel
theorem dX6_noteFault_2 : decode cX6_noteFault 2 = .ok (.putfield 249, 3) := by decide +kernel
theorem dX6_noteFault_5 : decode cX6_noteFault 5 = .ok (.aload_n 0, 1) := by decide +kernel
theorem dX6_noteFault_6 : decode cX6_noteFault 6 = .ok (.iload_n 2, 1) := by decide +kernel
theorem dX6_noteFault_7 : decode cX6_noteFault 7 = .ok (.putfield 246, 3) := by decide +kernel
theorem dX6_noteFault_10 : decode cX6_noteFault 10 = .ok (.aload_n 0, 1) := by decide +kernel
theorem dX6_noteFault_11 : decode cX6_noteFault 11 = .ok (.iload_n 3, 1) := by decide +kernel
theorem dX6_noteFault_12 : decode cX6_noteFault 12 = .ok (.putfield 252, 3) := by decide +kernel
theorem dX6_noteFault_15 : decode cX6_noteFault 15 = .ok (.return_, 1) := by decide +kernel
set_option maxRecDepth 20000 in
theorem ggX6_doOrder_X0_addLine : GoodIn wsX6_doOrder wsX0_addLine := goodIn_r _ [9, 10, 11, 12, 13, 14, 15, 16, 17, 73, 74, 75, 76, 77, 78, 79, 80, 81, 82] (by decide +kernel) (by decide +kernel)
set_option maxRecDepth 20000 in
theorem gX6_doOrder_X0_addLine : GoodIn wsX6_doOrder (wsV RX6 58 RX0 yX0_addLine wsX0_addLine) := goodIn_app (goodIn_of _ (by decide +kernel)) ggX6_doOrder_X0_addLine
set_option maxRecDepth 20000 in
theorem ggX6_doOrder_X0_addPrism : GoodIn wsX6_doOrder wsX0_addPrism := goodIn_r _ [21, 10, 15, 16, 17, 22, 23, 24, 8, 25, 26, 27, 12, 28, 29, 30, 31, 32, 33, 34, 35, 36, 37, 38, 39, 40, 41, 42, 43, 44, 45, 46, 47, 48, 73, 74, 75, 76, 77, 78, 79, 80, 81, 82] (by decide +kernel) (by decide +kernel)
set_option maxRecDepth 20000 in
theorem gX6_doOrder_X0_addPrism : GoodIn wsX6_doOrder (wsV RX6 69 RX0 yX0_addPrism wsX0_addPrism) := goodIn_app (goodIn_of _ (by decide +kernel)) ggX6_doOrder_X0_addPrism
set_option maxRecDepth 20000 in
theorem ggX6_doOrder_X0_addSlit : GoodIn wsX6_doOrder wsX0_addSlit := goodIn_r _ [52, 10, 15, 16, 17, 22, 23, 24, 8, 25, 26, 27, 12, 28, 29, 30, 31, 32, 33, 34, 35, 36, 37, 38, 39, 40, 41, 42, 43, 44, 45, 46, 47, 48, 73, 74, 75, 76, 77, 78, 79, 80, 81, 82] (by decide +kernel) (by decide +kernel)
set_option maxRecDepth 20000 in
theorem gX6_doOrder_X0_addSlit : GoodIn wsX6_doOrder (wsV RX6 73 RX0 yX0_addSlit wsX0_addSlit) := goodIn_app (goodIn_of _ (by decide +kernel)) ggX6_doOrder_X0_addSlit
set_option maxRecDepth 20000 in
theorem ggX6_doOrder_X0_removeThing : GoodIn wsX6_doOrder wsX0_removeThing := goodIn_r _ [56, 10, 27, 33, 34, 35, 8, 36, 28, 37, 38, 39, 40, 45, 46, 47, 48, 29, 30, 31, 32, 15, 16, 17, 73, 74, 75, 76, 77, 78, 79, 80, 81, 82] (by decide +kernel) (by decide +kernel)
set_option maxRecDepth 20000 in
theorem gX6_doOrder_X0_removeThing : GoodIn wsX6_doOrder (wsV RX6 77 RX0 yX0_removeThing wsX0_removeThing) := goodIn_app (goodIn_of _ (by decide +kernel)) ggX6_doOrder_X0_removeThing
theorem dX6_doOrder_0 : decode cX6_doOrder 0 = .ok (.aload_n 0, 1) := by decide +kernel
theorem dX6_doOrder_1 : decode cX6_doOrder 1 = .ok (.getfield 50, 3) := by decide +kernel
theorem dX6_doOrder_4 : decode cX6_doOrder 4 = .ok (.getfield 310, 3) := by decide +kernel
theorem dX6_doOrder_7 : decode cX6_doOrder 7 = .ok (.iconst 0, 1) := by decide +kernel
theorem dX6_doOrder_8 : decode cX6_doOrder 8 = .ok (.iaload, 1) := by decide +kernel
theorem dX6_doOrder_9 : decode cX6_doOrder 9 = .ok (.istore_n 1, 1) := by decide +kernel
theorem dX6_doOrder_10 : decode cX6_doOrder 10 = .ok (.aload_n 0, 1) := by decide +kernel
theorem dX6_doOrder_11 : decode cX6_doOrder 11 = .ok (.getfield 50, 3) := by decide +kernel
theorem dX6_doOrder_14 : decode cX6_doOrder 14 = .ok (.getfield 310, 3) := by decide +kernel
theorem dX6_doOrder_17 : decode cX6_doOrder 17 = .ok (.iconst 1, 1) := by decide +kernel
theorem dX6_doOrder_18 : decode cX6_doOrder 18 = .ok (.iaload, 1) := by decide +kernel
theorem dX6_doOrder_19 : decode cX6_doOrder 19 = .ok (.istore_n 2, 1) := by decide +kernel
theorem dX6_doOrder_20 : decode cX6_doOrder 20 = .ok (.aload_n 0, 1) := by decide +kernel
theorem dX6_doOrder_21 : decode cX6_doOrder 21 = .ok (.getfield 50, 3) := by decide +kernel
theorem dX6_doOrder_24 : decode cX6_doOrder 24 = .ok (.getfield 310, 3) := by decide +kernel
theorem dX6_doOrder_27 : decode cX6_doOrder 27 = .ok (.iconst 2, 1) := by decide +kernel
theorem dX6_doOrder_28 : decode cX6_doOrder 28 = .ok (.iaload, 1) := by decide +kernel
theorem dX6_doOrder_29 : decode cX6_doOrder 29 = .ok (.istore_n 3, 1) := by decide +kernel
theorem dX6_doOrder_30 : decode cX6_doOrder 30 = .ok (.aload_n 0, 1) := by decide +kernel
theorem dX6_doOrder_31 : decode cX6_doOrder 31 = .ok (.getfield 50, 3) := by decide +kernel
theorem dX6_doOrder_34 : decode cX6_doOrder 34 = .ok (.getfield 311, 3) := by decide +kernel
theorem dX6_doOrder_37 : decode cX6_doOrder 37 = .ok (.lookupswitch 89 #[(100, 65), (108, 43), (115, 77), (117, 53)], 43) := by decide +kernel
theorem dX6_doOrder_80 : decode cX6_doOrder 80 = .ok (.aload_n 0, 1) := by decide +kernel
theorem dX6_doOrder_81 : decode cX6_doOrder 81 = .ok (.getfield 16, 3) := by decide +kernel
theorem dX6_doOrder_84 : decode cX6_doOrder 84 = .ok (.iload_n 1, 1) := by decide +kernel
theorem dX6_doOrder_85 : decode cX6_doOrder 85 = .ok (.iload_n 2, 1) := by decide +kernel
theorem dX6_doOrder_86 : decode cX6_doOrder 86 = .ok (.invokevirtual 58, 3) := by decide +kernel
theorem dX6_doOrder_89 : decode cX6_doOrder 89 = .ok (.ireturn, 1) := by decide +kernel
theorem dX6_doOrder_90 : decode cX6_doOrder 90 = .ok (.aload_n 0, 1) := by decide +kernel
theorem dX6_doOrder_91 : decode cX6_doOrder 91 = .ok (.getfield 16, 3) := by decide +kernel
theorem dX6_doOrder_94 : decode cX6_doOrder 94 = .ok (.iload_n 1, 1) := by decide +kernel
theorem dX6_doOrder_95 : decode cX6_doOrder 95 = .ok (.iload_n 2, 1) := by decide +kernel
theorem dX6_doOrder_96 : decode cX6_doOrder 96 = .ok (.iload_n 3, 1) := by decide +kernel
theorem dX6_doOrder_97 : decode cX6_doOrder 97 = .ok (.iconst 1, 1) := by decide +kernel
theorem dX6_doOrder_98 : decode cX6_doOrder 98 = .ok (.invokevirtual 69, 3) := by decide +kernel
theorem dX6_doOrder_101 : decode cX6_doOrder 101 = .ok (.ireturn, 1) := by decide +kernel
theorem dX6_doOrder_102 : decode cX6_doOrder 102 = .ok (.aload_n 0, 1) := by decide +kernel
theorem dX6_doOrder_103 : decode cX6_doOrder 103 = .ok (.getfield 16, 3) := by decide +kernel
theorem dX6_doOrder_106 : decode cX6_doOrder 106 = .ok (.iload_n 1, 1) := by decide +kernel
theorem dX6_doOrder_107 : decode cX6_doOrder 107 = .ok (.iload_n 2, 1) := by decide +kernel
theorem dX6_doOrder_108 : decode cX6_doOrder 108 = .ok (.iload_n 3, 1) := by decide +kernel
theorem dX6_doOrder_109 : decode cX6_doOrder 109 = .ok (.iconst (-1), 1) := by decide +kernel
theorem dX6_doOrder_110 : decode cX6_doOrder 110 = .ok (.invokevirtual 69, 3) := by decide +kernel
theorem dX6_doOrder_113 : decode cX6_doOrder 113 = .ok (.ireturn, 1) := by decide +kernel
theorem dX6_doOrder_114 : decode cX6_doOrder 114 = .ok (.aload_n 0, 1) := by decide +kernel
theorem dX6_doOrder_115 : decode cX6_doOrder 115 = .ok (.getfield 16, 3) := by decide +kernel
theorem dX6_doOrder_118 : decode cX6_doOrder 118 = .ok (.iload_n 1, 1) := by decide +kernel
theorem dX6_doOrder_119 : decode cX6_doOrder 119 = .ok (.iload_n 2, 1) := by decide +kernel
theorem dX6_doOrder_120 : decode cX6_doOrder 120 = .ok (.ineg, 1) := by decide +kernel
theorem dX6_doOrder_121 : decode cX6_doOrder 121 = .ok (.iload_n 2, 1) := by decide +kernel
theorem dX6_doOrder_122 : decode cX6_doOrder 122 = .ok (.invokevirtual 73, 3) := by decide +kernel
theorem dX6_doOrder_125 : decode cX6_doOrder 125 = .ok (.ireturn, 1) := by decide +kernel
theorem dX6_doOrder_126 : decode cX6_doOrder 126 = .ok (.aload_n 0, 1) := by decide +kernel
theorem dX6_doOrder_127 : decode cX6_doOrder 127 = .ok (.getfield 16, 3) := by decide +kernel
theorem dX6_doOrder_130 : decode cX6_doOrder 130 = .ok (.iload_n 1, 1) := by decide +kernel
theorem dX6_doOrder_131 : decode cX6_doOrder 131 = .ok (.invokevirtual 77, 3) := by decide +kernel
theorem dX6_doOrder_134 : decode cX6_doOrder 134 = .ok (.ireturn, 1) := by decide +kernel
