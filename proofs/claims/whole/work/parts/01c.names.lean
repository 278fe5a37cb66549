set_option maxRecDepth 20000 in
theorem ggX5_init_X0_init : GoodIn wsX5_init wsX0_init := goodIn_r _ [32, 33, 2, 3, 34, 35, 36, 37, 38, 39, 40, 41, 42, 43, 208, 209, 210, 211, 212, 213, 214, 215, 216, 217, 218, 219, 220, 221] (by decide +kernel) (by decide +kernel)
set_option maxRecDepth 20000 in
theorem gX5_init_X0_init : GoodIn wsX5_init (wsX0_init) := ggX5_init_X0_init
set_option maxRecDepth 20000 in
theorem ggX5_init_X4_init : GoodIn wsX5_init wsX4_init := goodIn_r _ [46, 47, 2, 3] (by decide +kernel) (by decide +kernel)
set_option maxRecDepth 20000 in
theorem gX5_init_X4_init : GoodIn wsX5_init (wsX4_init) := ggX5_init_X4_init
set_option maxRecDepth 20000 in
theorem ggX5_init_X1_init : GoodIn wsX5_init wsX1_init := goodIn_r _ [50, 51, 2, 3, 52, 53, 54, 55, 56, 57, 228, 229] (by decide +kernel) (by decide +kernel)
set_option maxRecDepth 20000 in
theorem gX5_init_X1_init : GoodIn wsX5_init (wsX1_init) := ggX5_init_X1_init
set_option maxRecDepth 20000 in
theorem ggX5_init_X3_init : GoodIn wsX5_init wsX3_init := goodIn_r _ [60, 61, 2, 3, 34, 62, 63, 64, 65, 23, 66, 67, 68, 69, 70, 71, 230, 231, 232] (by decide +kernel) (by decide +kernel)
set_option maxRecDepth 20000 in
theorem gX5_init_X3_init : GoodIn wsX5_init (wsX3_init) := ggX5_init_X3_init
set_option maxRecDepth 20000 in
theorem ggX5_init_X2_init : GoodIn wsX5_init wsX2_init := goodIn_r _ [74, 75, 2, 3, 56, 76, 77, 12, 13, 78, 79, 80, 81, 82, 45, 46, 47, 233, 234, 235, 236, 237, 238, 239, 240, 222, 223, 224, 225, 226, 227] (by decide +kernel) (by decide +kernel)
set_option maxRecDepth 20000 in
theorem gX5_init_X2_init : GoodIn wsX5_init (wsX2_init) := ggX5_init_X2_init
set_option maxRecDepth 20000 in
theorem ggX5_init_J0_toCharArray_70df3 : GoodIn wsX5_init wsJ0_toCharArray_70df3 := goodIn_r _ [87, 88, 89, 90, 91, 86, 92, 93, 94, 95, 96, 97, 98, 4, 99, 100, 101, 102, 103, 104, 105, 106, 107, 108, 109, 110, 111, 112, 113, 114, 115, 116, 117, 118, 119, 120, 121, 122, 123, 124, 125, 126, 127, 128] (by decide +kernel) (by decide +kernel)
set_option maxRecDepth 20000 in
theorem gX5_init_J0_toCharArray_70df3 : GoodIn wsX5_init (wsV RX5 66 RJ0 yJ0_toCharArray_70df3 wsJ0_toCharArray_70df3) := goodIn_app (goodIn_of _ (by decide +kernel)) ggX5_init_J0_toCharArray_70df3
set_option maxRecDepth 20000 in
theorem ggX5_init_X0_readFrom : GoodIn wsX5_init wsX0_readFrom := goodIn_r _ [132, 133, 134, 135, 8, 136, 137, 138, 139, 140, 141, 42, 69, 70, 71, 142, 143, 144, 145, 43, 146, 147, 148, 149, 150, 151, 152, 153, 154, 155, 156, 157, 158, 159, 160, 161, 162, 163, 164, 165, 166, 167, 168, 169, 170, 35, 36, 37, 38, 39, 171, 172, 173, 174, 40, 41, 175, 176, 177, 178, 179, 180, 181, 182, 183, 184, 208, 209, 210, 211, 212, 213, 214, 215, 216, 217, 218, 219, 220, 221] (by decide +kernel) (by decide +kernel)
set_option maxRecDepth 20000 in
theorem gX5_init_X0_readFrom : GoodIn wsX5_init (wsV RX5 72 RX0 yX0_readFrom wsX0_readFrom) := goodIn_app (goodIn_of _ (by decide +kernel)) ggX5_init_X0_readFrom
set_option maxRecDepth 20000 in
theorem ggX5_init_X4_begin : GoodIn wsX5_init wsX4_begin := goodIn_r _ [188, 189, 190, 191, 192, 193, 194, 195, 196, 208, 209, 210, 211, 212, 213, 214, 215, 216, 217, 218, 219, 220, 221, 222, 223, 224, 225, 226, 227] (by decide +kernel) (by decide +kernel)
set_option maxRecDepth 20000 in
theorem gX5_init_X4_begin : GoodIn wsX5_init (wsV RX5 76 RX4 yX4_begin wsX4_begin) := goodIn_app (goodIn_of _ (by decide +kernel)) ggX5_init_X4_begin
theorem dX5_init_0 : decode cX5_init 0 = .ok (.aload_n 0, 1) := by decide +kernel
theorem dX5_init_1 : decode cX5_init 1 = .ok (.invokespecial 1, 3) := by decide +kernel
theorem dX5_init_4 : decode cX5_init 4 = .ok (.aload_n 0, 1) := by decide +kernel
theorem dX5_init_5 : decode cX5_init 5 = .ok (.sipush 200, 3) := by decide +kernel
theorem dX5_init_8 : decode cX5_init 8 = .ok (.newarray .char, 2) := by decide +kernel
theorem dX5_init_10 : decode cX5_init 10 = .ok (.putfield 9, 3) := by decide +kernel
theorem dX5_init_13 : decode cX5_init 13 = .ok (.aload_n 0, 1) := by decide +kernel
theorem dX5_init_14 : decode cX5_init 14 = .ok (.new 13, 3) := by decide +kernel
theorem dX5_init_17 : decode cX5_init 17 = .ok (.dup, 1) := by decide +kernel
theorem dX5_init_18 : decode cX5_init 18 = .ok (.invokespecial 15, 3) := by decide +kernel
theorem dX5_init_21 : decode cX5_init 21 = .ok (.putfield 16, 3) := by decide +kernel
theorem dX5_init_24 : decode cX5_init 24 = .ok (.aload_n 0, 1) := by decide +kernel
theorem dX5_init_25 : decode cX5_init 25 = .ok (.new 13, 3) := by decide +kernel
theorem dX5_init_28 : decode cX5_init 28 = .ok (.dup, 1) := by decide +kernel
theorem dX5_init_29 : decode cX5_init 29 = .ok (.invokespecial 15, 3) := by decide +kernel
theorem dX5_init_32 : decode cX5_init 32 = .ok (.putfield 20, 3) := by decide +kernel
theorem dX5_init_35 : decode cX5_init 35 = .ok (.aload_n 0, 1) := by decide +kernel
theorem dX5_init_36 : decode cX5_init 36 = .ok (.new 23, 3) := by decide +kernel
theorem dX5_init_39 : decode cX5_init 39 = .ok (.dup, 1) := by decide +kernel
theorem dX5_init_40 : decode cX5_init 40 = .ok (.invokespecial 25, 3) := by decide +kernel
theorem dX5_init_43 : decode cX5_init 43 = .ok (.putfield 26, 3) := by decide +kernel
theorem dX5_init_46 : decode cX5_init 46 = .ok (.aload_n 0, 1) := by decide +kernel
theorem dX5_init_47 : decode cX5_init 47 = .ok (.new 23, 3) := by decide +kernel
theorem dX5_init_50 : decode cX5_init 50 = .ok (.dup, 1) := by decide +kernel
theorem dX5_init_51 : decode cX5_init 51 = .ok (.invokespecial 25, 3) := by decide +kernel
theorem dX5_init_54 : decode cX5_init 54 = .ok (.putfield 30, 3) := by decide +kernel
theorem dX5_init_57 : decode cX5_init 57 = .ok (.aload_n 0, 1) := by decide +kernel
theorem dX5_init_58 : decode cX5_init 58 = .ok (.new 33, 3) := by decide +kernel
theorem dX5_init_61 : decode cX5_init 61 = .ok (.dup, 1) := by decide +kernel
theorem dX5_init_62 : decode cX5_init 62 = .ok (.bipush 8, 2) := by decide +kernel
theorem dX5_init_64 : decode cX5_init 64 = .ok (.invokespecial 35, 3) := by decide +kernel
theorem dX5_init_67 : decode cX5_init 67 = .ok (.putfield 38, 3) := by decide +kernel
theorem dX5_init_70 : decode cX5_init 70 = .ok (.aload_n 0, 1) := by decide +kernel
theorem dX5_init_71 : decode cX5_init 71 = .ok (.new 33, 3) := by decide +kernel
theorem dX5_init_74 : decode cX5_init 74 = .ok (.dup, 1) := by decide +kernel
theorem dX5_init_75 : decode cX5_init 75 = .ok (.iconst 2, 1) := by decide +kernel
theorem dX5_init_76 : decode cX5_init 76 = .ok (.invokespecial 35, 3) := by decide +kernel
theorem dX5_init_79 : decode cX5_init 79 = .ok (.putfield 42, 3) := by decide +kernel
theorem dX5_init_82 : decode cX5_init 82 = .ok (.aload_n 0, 1) := by decide +kernel
theorem dX5_init_83 : decode cX5_init 83 = .ok (.new 45, 3) := by decide +kernel
theorem dX5_init_86 : decode cX5_init 86 = .ok (.dup, 1) := by decide +kernel
theorem dX5_init_87 : decode cX5_init 87 = .ok (.invokespecial 47, 3) := by decide +kernel
theorem dX5_init_90 : decode cX5_init 90 = .ok (.putfield 48, 3) := by decide +kernel
theorem dX5_init_93 : decode cX5_init 93 = .ok (.aload_n 0, 1) := by decide +kernel
theorem dX5_init_94 : decode cX5_init 94 = .ok (.new 45, 3) := by decide +kernel
theorem dX5_init_97 : decode cX5_init 97 = .ok (.dup, 1) := by decide +kernel
theorem dX5_init_98 : decode cX5_init 98 = .ok (.invokespecial 47, 3) := by decide +kernel
theorem dX5_init_101 : decode cX5_init 101 = .ok (.putfield 52, 3) := by decide +kernel
theorem dX5_init_104 : decode cX5_init 104 = .ok (.aload_n 0, 1) := by decide +kernel
theorem dX5_init_105 : decode cX5_init 105 = .ok (.new 55, 3) := by decide +kernel
theorem dX5_init_108 : decode cX5_init 108 = .ok (.dup, 1) := by decide +kernel
theorem dX5_init_109 : decode cX5_init 109 = .ok (.aload_n 0, 1) := by decide +kernel
theorem dX5_init_110 : decode cX5_init 110 = .ok (.getfield 16, 3) := by decide +kernel
theorem dX5_init_113 : decode cX5_init 113 = .ok (.aload_n 0, 1) := by decide +kernel
theorem dX5_init_114 : decode cX5_init 114 = .ok (.getfield 52, 3) := by decide +kernel
theorem dX5_init_117 : decode cX5_init 117 = .ok (.invokespecial 57, 3) := by decide +kernel
theorem dX5_init_120 : decode cX5_init 120 = .ok (.putfield 60, 3) := by decide +kernel
theorem dX5_init_123 : decode cX5_init 123 = .ok (.ldc 64, 2) := by decide +kernel
theorem dX5_init_125 : decode cX5_init 125 = .ok (.invokevirtual 66, 3) := by decide +kernel
theorem dX5_init_128 : decode cX5_init 128 = .ok (.astore_n 1, 1) := by decide +kernel
theorem dX5_init_129 : decode cX5_init 129 = .ok (.aload_n 0, 1) := by decide +kernel
theorem dX5_init_130 : decode cX5_init 130 = .ok (.getfield 16, 3) := by decide +kernel
theorem dX5_init_133 : decode cX5_init 133 = .ok (.aload_n 1, 1) := by decide +kernel
theorem dX5_init_134 : decode cX5_init 134 = .ok (.aload_n 1, 1) := by decide +kernel
theorem dX5_init_135 : decode cX5_init 135 = .ok (.arraylength, 1) := by decide +kernel
theorem dX5_init_136 : decode cX5_init 136 = .ok (.invokevirtual 72, 3) := by decide +kernel
theorem dX5_init_139 : decode cX5_init 139 = .ok (.pop, 1) := by decide +kernel
theorem dX5_init_140 : decode cX5_init 140 = .ok (.aload_n 0, 1) := by decide +kernel
theorem dX5_init_141 : decode cX5_init 141 = .ok (.getfield 26, 3) := by decide +kernel
theorem dX5_init_144 : decode cX5_init 144 = .ok (.aload_n 0, 1) := by decide +kernel
theorem dX5_init_145 : decode cX5_init 145 = .ok (.getfield 16, 3) := by decide +kernel
theorem dX5_init_148 : decode cX5_init 148 = .ok (.invokevirtual 76, 3) := by decide +kernel
theorem dX5_init_151 : decode cX5_init 151 = .ok (.return_, 1) := by decide +kernel
theorem dX5_write_0 : decode cX5_write 0 = .ok (.iload_n 1, 1) := by decide +kernel
theorem dX5_write_1 : decode cX5_write 1 = .ok (.bipush 32, 2) := by decide +kernel
theorem dX5_write_3 : decode cX5_write 3 = .ok (.if_icmp .lt 9, 3) := by decide +kernel
theorem dX5_write_6 : decode cX5_write 6 = .ok (.iload_n 1, 1) := by decide +kernel
theorem dX5_write_7 : decode cX5_write 7 = .ok (.bipush 126, 2) := by decide +kernel
theorem dX5_write_9 : decode cX5_write 9 = .ok (.if_icmp .le 5, 3) := by decide +kernel
theorem dX5_write_12 : decode cX5_write 12 = .ok (.iconst (-1), 1) := by decide +kernel
theorem dX5_write_13 : decode cX5_write 13 = .ok (.ireturn, 1) := by decide +kernel
theorem dX5_write_14 : decode cX5_write 14 = .ok (.aload_n 0, 1) := by decide +kernel
theorem dX5_write_15 : decode cX5_write 15 = .ok (.getfield 80, 3) := by decide +kernel
theorem dX5_write_18 : decode cX5_write 18 = .ok (.ifCond .lt 15, 3) := by decide +kernel
theorem dX5_write_21 : decode cX5_write 21 = .ok (.aload_n 0, 1) := by decide +kernel
theorem dX5_write_22 : decode cX5_write 22 = .ok (.getfield 80, 3) := by decide +kernel
theorem dX5_write_25 : decode cX5_write 25 = .ok (.aload_n 0, 1) := by decide +kernel
theorem dX5_write_26 : decode cX5_write 26 = .ok (.getfield 9, 3) := by decide +kernel
theorem dX5_write_29 : decode cX5_write 29 = .ok (.arraylength, 1) := by decide +kernel
theorem dX5_write_30 : decode cX5_write 30 = .ok (.if_icmp .lt 6, 3) := by decide +kernel
theorem dX5_write_33 : decode cX5_write 33 = .ok (.bipush (-3), 2) := by decide +kernel
theorem dX5_write_35 : decode cX5_write 35 = .ok (.ireturn, 1) := by decide +kernel
theorem dX5_write_36 : decode cX5_write 36 = .ok (.aload_n 0, 1) := by decide +kernel
theorem dX5_write_37 : decode cX5_write 37 = .ok (.getfield 9, 3) := by decide +kernel
theorem dX5_write_40 : decode cX5_write 40 = .ok (.aload_n 0, 1) := by decide +kernel
theorem dX5_write_41 : decode cX5_write 41 = .ok (.getfield 80, 3) := by decide +kernel
theorem dX5_write_44 : decode cX5_write 44 = .ok (.iload_n 1, 1) := by decide +kernel
theorem dX5_write_45 : decode cX5_write 45 = .ok (.i2c, 1) := by decide +kernel
theorem dX5_write_46 : decode cX5_write 46 = .ok (.castore, 1) := by decide +kernel
theorem dX5_write_47 : decode cX5_write 47 = .ok (.aload_n 0, 1) := by decide +kernel
theorem dX5_write_48 : decode cX5_write 48 = .ok (.dup, 1) := by decide +kernel
theorem dX5_write_49 : decode cX5_write 49 = .ok (.getfield 80, 3) := by decide +kernel
theorem dX5_write_52 : decode cX5_write 52 = .ok (.iconst 1, 1) := by decide +kernel
theorem dX5_write_53 : decode cX5_write 53 = .ok (.iadd, 1) := by decide +kernel
theorem dX5_write_54 : decode cX5_write 54 = .ok (.putfield 80, 3) := by decide +kernel
theorem dX5_write_57 : decode cX5_write 57 = .ok (.aload_n 0, 1) := by decide +kernel
theorem dX5_write_58 : decode cX5_write 58 = .ok (.getfield 80, 3) := by decide +kernel
theorem dX5_write_61 : decode cX5_write 61 = .ok (.ireturn, 1) := by decide +kernel
theorem dX5_wipe_0 : decode cX5_wipe 0 = .ok (.aload_n 0, 1) := by decide +kernel
theorem dX5_wipe_1 : decode cX5_wipe 1 = .ok (.getfield 80, 3) := by decide +kernel
theorem dX5_wipe_4 : decode cX5_wipe 4 = .ok (.istore_n 1, 1) := by decide +kernel
theorem dX5_wipe_5 : decode cX5_wipe 5 = .ok (.aload_n 0, 1) := by decide +kernel
theorem dX5_wipe_6 : decode cX5_wipe 6 = .ok (.iconst 0, 1) := by decide +kernel
theorem dX5_wipe_7 : decode cX5_wipe 7 = .ok (.putfield 80, 3) := by decide +kernel
theorem dX5_wipe_10 : decode cX5_wipe 10 = .ok (.iload_n 1, 1) := by decide +kernel
theorem dX5_wipe_11 : decode cX5_wipe 11 = .ok (.ireturn, 1) := by decide +kernel
set_option maxRecDepth 20000 in
theorem ggX5_fault_X0_readFrom : GoodIn wsX5_fault wsX0_readFrom := goodIn_r _ [8, 9, 10, 11, 7, 12, 13, 14, 15, 16, 17, 18, 19, 20, 21, 22, 23, 24, 25, 26, 27, 28, 29, 30, 31, 32, 33, 34, 35, 36, 37, 38, 39, 40, 41, 42, 43, 44, 45, 46, 47, 48, 49, 50, 51, 52, 53, 54, 55, 56, 57, 58, 59, 60, 61, 62, 63, 64, 65, 66, 67, 68, 69, 70, 71, 72, 84, 85, 86, 87, 88, 89, 90, 91, 92, 93, 94, 95, 96, 97] (by decide +kernel) (by decide +kernel)
set_option maxRecDepth 20000 in
theorem gX5_fault_X0_readFrom : GoodIn wsX5_fault (wsV RX5 72 RX0 yX0_readFrom wsX0_readFrom) := goodIn_app (goodIn_of _ (by decide +kernel)) ggX5_fault_X0_readFrom
theorem dX5_fault_0 : decode cX5_fault 0 = .ok (.aload_n 0, 1) := by decide +kernel
theorem dX5_fault_1 : decode cX5_fault 1 = .ok (.getfield 20, 3) := by decide +kernel
theorem dX5_fault_4 : decode cX5_fault 4 = .ok (.aload_n 0, 1) := by decide +kernel
theorem dX5_fault_5 : decode cX5_fault 5 = .ok (.getfield 9, 3) := by decide +kernel
theorem dX5_fault_8 : decode cX5_fault 8 = .ok (.aload_n 0, 1) := by decide +kernel
theorem dX5_fault_9 : decode cX5_fault 9 = .ok (.getfield 80, 3) := by decide +kernel
theorem dX5_fault_12 : decode cX5_fault 12 = .ok (.invokevirtual 72, 3) := by decide +kernel
theorem dX5_fault_15 : decode cX5_fault 15 = .ok (.ireturn, 1) := by decide +kernel
set_option maxRecDepth 20000 in
theorem ggX5_lay_X0_readFrom : GoodIn wsX5_lay wsX0_readFrom := goodIn_r _ [14, 15, 16, 17, 13, 18, 19, 20, 21, 22, 23, 24, 25, 26, 27, 28, 29, 30, 31, 32, 33, 34, 35, 36, 37, 38, 39, 40, 41, 42, 43, 44, 45, 46, 47, 48, 49, 50, 51, 52, 53, 54, 55, 56, 57, 58, 59, 60, 61, 62, 63, 64, 65, 66, 67, 68, 69, 70, 71, 72, 73, 74, 75, 76, 77, 78, 125, 126, 127, 128, 129, 130, 131, 132, 133, 134, 135, 136, 137, 138] (by decide +kernel) (by decide +kernel)
set_option maxRecDepth 20000 in
theorem gX5_lay_X0_readFrom : GoodIn wsX5_lay (wsV RX5 72 RX0 yX0_readFrom wsX0_readFrom) := goodIn_app (goodIn_of _ (by decide +kernel)) ggX5_lay_X0_readFrom
set_option maxRecDepth 20000 in
theorem ggX5_lay_X0_canBeLaid : GoodIn wsX5_lay wsX0_canBeLaid := goodIn_r _ [82, 19, 83, 84, 85, 13, 86, 62, 75, 76, 77, 78, 125, 126, 127, 128, 129, 130, 131, 132, 133, 134, 135, 136, 137, 138] (by decide +kernel) (by decide +kernel)
set_option maxRecDepth 20000 in
theorem gX5_lay_X0_canBeLaid : GoodIn wsX5_lay (wsV RX5 84 RX0 yX0_canBeLaid wsX0_canBeLaid) := goodIn_app (goodIn_of _ (by decide +kernel)) ggX5_lay_X0_canBeLaid
set_option maxRecDepth 20000 in
theorem ggX5_lay_X4_begin : GoodIn wsX5_lay wsX4_begin := goodIn_r _ [91, 92, 93, 94, 95, 96, 97, 98, 99, 125, 126, 127, 128, 129, 130, 131, 132, 133, 134, 135, 136, 137, 138, 139, 140, 141, 142, 143, 144] (by decide +kernel) (by decide +kernel)
set_option maxRecDepth 20000 in
theorem gX5_lay_X4_begin : GoodIn wsX5_lay (wsV RX5 76 RX4 yX4_begin wsX4_begin) := goodIn_app (goodIn_of _ (by decide +kernel)) ggX5_lay_X4_begin
set_option maxRecDepth 20000 in
theorem ggX5_lay_X1_clear : GoodIn wsX5_lay wsX1_clear := goodIn_r _ [104, 105, 145, 146] (by decide +kernel) (by decide +kernel)
set_option maxRecDepth 20000 in
theorem gX5_lay_X1_clear : GoodIn wsX5_lay (wsV RX5 88 RX1 yX1_clear wsX1_clear) := goodIn_app (goodIn_of _ (by decide +kernel)) ggX5_lay_X1_clear
set_option maxRecDepth 20000 in
theorem ggX5_lay_X3_clear : GoodIn wsX5_lay wsX3_clear := goodIn_r _ [110, 111, 112, 113, 25, 26, 27, 147, 148, 149] (by decide +kernel) (by decide +kernel)
set_option maxRecDepth 20000 in
theorem gX5_lay_X3_clear : GoodIn wsX5_lay (wsV RX5 91 RX3 yX3_clear wsX3_clear) := goodIn_app (goodIn_of _ (by decide +kernel)) ggX5_lay_X3_clear
theorem dX5_lay_0 : decode cX5_lay 0 = .ok (.aload_n 0, 1) := by decide +kernel
theorem dX5_lay_1 : decode cX5_lay 1 = .ok (.getfield 20, 3) := by decide +kernel
theorem dX5_lay_4 : decode cX5_lay 4 = .ok (.aload_n 0, 1) := by decide +kernel
theorem dX5_lay_5 : decode cX5_lay 5 = .ok (.getfield 9, 3) := by decide +kernel
theorem dX5_lay_8 : decode cX5_lay 8 = .ok (.aload_n 0, 1) := by decide +kernel
theorem dX5_lay_9 : decode cX5_lay 9 = .ok (.getfield 80, 3) := by decide +kernel
theorem dX5_lay_12 : decode cX5_lay 12 = .ok (.invokevirtual 72, 3) := by decide +kernel
theorem dX5_lay_15 : decode cX5_lay 15 = .ok (.bipush (-4), 2) := by decide +kernel
theorem dX5_lay_17 : decode cX5_lay 17 = .ok (.if_icmp .ne 13, 3) := by decide +kernel
theorem dX5_lay_20 : decode cX5_lay 20 = .ok (.aload_n 0, 1) := by decide +kernel
theorem dX5_lay_21 : decode cX5_lay 21 = .ok (.getfield 20, 3) := by decide +kernel
theorem dX5_lay_24 : decode cX5_lay 24 = .ok (.invokevirtual 84, 3) := by decide +kernel
theorem dX5_lay_27 : decode cX5_lay 27 = .ok (.ifCond .ne 6, 3) := by decide +kernel
theorem dX5_lay_30 : decode cX5_lay 30 = .ok (.bipush (-2), 2) := by decide +kernel
theorem dX5_lay_32 : decode cX5_lay 32 = .ok (.ireturn, 1) := by decide +kernel
theorem dX5_lay_33 : decode cX5_lay 33 = .ok (.aload_n 0, 1) := by decide +kernel
theorem dX5_lay_34 : decode cX5_lay 34 = .ok (.getfield 20, 3) := by decide +kernel
theorem dX5_lay_37 : decode cX5_lay 37 = .ok (.astore_n 1, 1) := by decide +kernel
theorem dX5_lay_38 : decode cX5_lay 38 = .ok (.aload_n 0, 1) := by decide +kernel
theorem dX5_lay_39 : decode cX5_lay 39 = .ok (.aload_n 0, 1) := by decide +kernel
theorem dX5_lay_40 : decode cX5_lay 40 = .ok (.getfield 16, 3) := by decide +kernel
theorem dX5_lay_43 : decode cX5_lay 43 = .ok (.putfield 20, 3) := by decide +kernel
theorem dX5_lay_46 : decode cX5_lay 46 = .ok (.aload_n 0, 1) := by decide +kernel
theorem dX5_lay_47 : decode cX5_lay 47 = .ok (.aload_n 1, 1) := by decide +kernel
theorem dX5_lay_48 : decode cX5_lay 48 = .ok (.putfield 16, 3) := by decide +kernel
theorem dX5_lay_51 : decode cX5_lay 51 = .ok (.aload_n 0, 1) := by decide +kernel
theorem dX5_lay_52 : decode cX5_lay 52 = .ok (.getfield 26, 3) := by decide +kernel
theorem dX5_lay_55 : decode cX5_lay 55 = .ok (.aload_n 0, 1) := by decide +kernel
theorem dX5_lay_56 : decode cX5_lay 56 = .ok (.getfield 16, 3) := by decide +kernel
theorem dX5_lay_59 : decode cX5_lay 59 = .ok (.invokevirtual 76, 3) := by decide +kernel
theorem dX5_lay_62 : decode cX5_lay 62 = .ok (.aload_n 0, 1) := by decide +kernel
theorem dX5_lay_63 : decode cX5_lay 63 = .ok (.getfield 38, 3) := by decide +kernel
theorem dX5_lay_66 : decode cX5_lay 66 = .ok (.invokevirtual 88, 3) := by decide +kernel
theorem dX5_lay_69 : decode cX5_lay 69 = .ok (.aload_n 0, 1) := by decide +kernel
theorem dX5_lay_70 : decode cX5_lay 70 = .ok (.getfield 42, 3) := by decide +kernel
theorem dX5_lay_73 : decode cX5_lay 73 = .ok (.invokevirtual 88, 3) := by decide +kernel
theorem dX5_lay_76 : decode cX5_lay 76 = .ok (.aload_n 0, 1) := by decide +kernel
theorem dX5_lay_77 : decode cX5_lay 77 = .ok (.getfield 48, 3) := by decide +kernel
theorem dX5_lay_80 : decode cX5_lay 80 = .ok (.invokevirtual 91, 3) := by decide +kernel
theorem dX5_lay_83 : decode cX5_lay 83 = .ok (.aload_n 0, 1) := by decide +kernel
theorem dX5_lay_84 : decode cX5_lay 84 = .ok (.getfield 16, 3) := by decide +kernel
theorem dX5_lay_87 : decode cX5_lay 87 = .ok (.getfield 92, 3) := by decide +kernel
theorem dX5_lay_90 : decode cX5_lay 90 = .ok (.ireturn, 1) := by decide +kernel
set_option maxRecDepth 20000 in
theorem ggX5_task_X0_hasTask : GoodIn wsX5_task wsX0_hasTask := goodIn_r _ [9, 10, 91, 92, 93, 94, 95, 96, 97, 98, 99, 100, 101, 102, 103, 104] (by decide +kernel) (by decide +kernel)
set_option maxRecDepth 20000 in
theorem gX5_task_X0_hasTask : GoodIn wsX5_task (wsV RX5 95 RX0 yX0_hasTask wsX0_hasTask) := goodIn_app (goodIn_of _ (by decide +kernel)) ggX5_task_X0_hasTask
set_option maxRecDepth 20000 in
theorem ggX5_task_X0_kindOf : GoodIn wsX5_task wsX0_kindOf := goodIn_r _ [14, 15, 91, 92, 93, 94, 95, 96, 97, 98, 99, 100, 101, 102, 103, 104] (by decide +kernel) (by decide +kernel)
set_option maxRecDepth 20000 in
theorem gX5_task_X0_kindOf : GoodIn wsX5_task (wsV RX5 99 RX0 yX0_kindOf wsX0_kindOf) := goodIn_app (goodIn_of _ (by decide +kernel)) ggX5_task_X0_kindOf
set_option maxRecDepth 20000 in
theorem ggX5_task_X0_daysOf : GoodIn wsX5_task wsX0_daysOf := goodIn_r _ [19, 20, 91, 92, 93, 94, 95, 96, 97, 98, 99, 100, 101, 102, 103, 104] (by decide +kernel) (by decide +kernel)
set_option maxRecDepth 20000 in
theorem gX5_task_X0_daysOf : GoodIn wsX5_task (wsV RX5 103 RX0 yX0_daysOf wsX0_daysOf) := goodIn_app (goodIn_of _ (by decide +kernel)) ggX5_task_X0_daysOf
set_option maxRecDepth 20000 in
theorem ggX5_task_X0_helpKindOf : GoodIn wsX5_task wsX0_helpKindOf := goodIn_r _ [24, 25, 91, 92, 93, 94, 95, 96, 97, 98, 99, 100, 101, 102, 103, 104] (by decide +kernel) (by decide +kernel)
set_option maxRecDepth 20000 in
theorem gX5_task_X0_helpKindOf : GoodIn wsX5_task (wsV RX5 106 RX0 yX0_helpKindOf wsX0_helpKindOf) := goodIn_app (goodIn_of _ (by decide +kernel)) ggX5_task_X0_helpKindOf
set_option maxRecDepth 20000 in
theorem ggX5_task_X0_nextOf : GoodIn wsX5_task wsX0_nextOf := goodIn_r _ [29, 30, 91, 92, 93, 94, 95, 96, 97, 98, 99, 100, 101, 102, 103, 104] (by decide +kernel) (by decide +kernel)
set_option maxRecDepth 20000 in
theorem gX5_task_X0_nextOf : GoodIn wsX5_task (wsV RX5 109 RX0 yX0_nextOf wsX0_nextOf) := goodIn_app (goodIn_of _ (by decide +kernel)) ggX5_task_X0_nextOf
set_option maxRecDepth 20000 in
theorem ggX5_task_X5_bit : GoodIn wsX5_task wsX5_bit := goodIn_r _ [34] (by decide +kernel) (by decide +kernel)
set_option maxRecDepth 20000 in
theorem gX5_task_X5_bit : GoodIn wsX5_task (va_wsS RX5 115 yX5_bit wsX5_bit) := goodIn_app (goodIn_of _ (by decide +kernel)) ggX5_task_X5_bit
set_option maxRecDepth 20000 in
theorem ggX5_task_X5_oneIf : GoodIn wsX5_task wsX5_oneIf := goodIn_r _ [37] (by decide +kernel) (by decide +kernel)
set_option maxRecDepth 20000 in
theorem gX5_task_X5_oneIf : GoodIn wsX5_task (va_wsS RX5 118 yX5_oneIf wsX5_oneIf) := goodIn_app (goodIn_of _ (by decide +kernel)) ggX5_task_X5_oneIf
set_option maxRecDepth 20000 in
theorem ggX5_task_X4_helpersFor : GoodIn wsX5_task wsX4_helpersFor := goodIn_r _ [42, 43, 44, 45, 46, 41, 47, 48, 49, 50, 51, 52, 53, 54, 32, 33, 34, 55, 22, 23, 8, 24, 25, 56, 57, 58, 59, 60, 61, 62, 63, 64, 65, 66, 67, 68, 69, 70, 12, 13, 14, 15, 71, 72, 73, 85, 86, 87, 88, 89, 90, 91, 92, 93, 94, 95, 96, 97, 98, 99, 100, 101, 102, 103, 104] (by decide +kernel) (by decide +kernel)
set_option maxRecDepth 20000 in
theorem gX5_task_X4_helpersFor : GoodIn wsX5_task (wsV RX5 125 RX4 yX4_helpersFor wsX4_helpersFor) := goodIn_app (goodIn_of _ (by decide +kernel)) ggX5_task_X4_helpersFor
theorem dX5_task_0 : decode cX5_task 0 = .ok (.aload_n 0, 1) := by decide +kernel
theorem dX5_task_1 : decode cX5_task 1 = .ok (.getfield 16, 3) := by decide +kernel
theorem dX5_task_4 : decode cX5_task 4 = .ok (.iload_n 1, 1) := by decide +kernel
theorem dX5_task_5 : decode cX5_task 5 = .ok (.invokevirtual 95, 3) := by decide +kernel
theorem dX5_task_8 : decode cX5_task 8 = .ok (.ifCond .ne 5, 3) := by decide +kernel
theorem dX5_task_11 : decode cX5_task 11 = .ok (.iconst (-1), 1) := by decide +kernel
theorem dX5_task_12 : decode cX5_task 12 = .ok (.ireturn, 1) := by decide +kernel
theorem dX5_task_13 : decode cX5_task 13 = .ok (.iload_n 2, 1) := by decide +kernel
theorem dX5_task_14 : decode cX5_task 14 = .ok (.tableswitch 150 0 6 #[42, 51, 60, 69, 78, 102, 126], 42) := by decide +kernel
theorem dX5_task_56 : decode cX5_task 56 = .ok (.aload_n 0, 1) := by decide +kernel
theorem dX5_task_57 : decode cX5_task 57 = .ok (.getfield 16, 3) := by decide +kernel
theorem dX5_task_60 : decode cX5_task 60 = .ok (.iload_n 1, 1) := by decide +kernel
theorem dX5_task_61 : decode cX5_task 61 = .ok (.invokevirtual 99, 3) := by decide +kernel
theorem dX5_task_64 : decode cX5_task 64 = .ok (.ireturn, 1) := by decide +kernel
theorem dX5_task_65 : decode cX5_task 65 = .ok (.aload_n 0, 1) := by decide +kernel
theorem dX5_task_66 : decode cX5_task 66 = .ok (.getfield 16, 3) := by decide +kernel
theorem dX5_task_69 : decode cX5_task 69 = .ok (.iload_n 1, 1) := by decide +kernel
theorem dX5_task_70 : decode cX5_task 70 = .ok (.invokevirtual 103, 3) := by decide +kernel
theorem dX5_task_73 : decode cX5_task 73 = .ok (.ireturn, 1) := by decide +kernel
theorem dX5_task_74 : decode cX5_task 74 = .ok (.aload_n 0, 1) := by decide +kernel
theorem dX5_task_75 : decode cX5_task 75 = .ok (.getfield 16, 3) := by decide +kernel
theorem dX5_task_78 : decode cX5_task 78 = .ok (.iload_n 1, 1) := by decide +kernel
theorem dX5_task_79 : decode cX5_task 79 = .ok (.invokevirtual 106, 3) := by decide +kernel
theorem dX5_task_82 : decode cX5_task 82 = .ok (.ireturn, 1) := by decide +kernel
theorem dX5_task_83 : decode cX5_task 83 = .ok (.aload_n 0, 1) := by decide +kernel
theorem dX5_task_84 : decode cX5_task 84 = .ok (.getfield 16, 3) := by decide +kernel
theorem dX5_task_87 : decode cX5_task 87 = .ok (.iload_n 1, 1) := by decide +kernel
theorem dX5_task_88 : decode cX5_task 88 = .ok (.invokevirtual 109, 3) := by decide +kernel
theorem dX5_task_91 : decode cX5_task 91 = .ok (.ireturn, 1) := by decide +kernel
theorem dX5_task_92 : decode cX5_task 92 = .ok (.aload_n 0, 1) := by decide +kernel
theorem dX5_task_93 : decode cX5_task 93 = .ok (.getfield 26, 3) := by decide +kernel
theorem dX5_task_96 : decode cX5_task 96 = .ok (.getfield 112, 3) := by decide +kernel
theorem dX5_task_99 : decode cX5_task 99 = .ok (.iload_n 1, 1) := by decide +kernel
theorem dX5_task_100 : decode cX5_task 100 = .ok (.invokestatic 115, 3) := by decide +kernel
theorem dX5_task_103 : decode cX5_task 103 = .ok (.iand, 1) := by decide +kernel
theorem dX5_task_104 : decode cX5_task 104 = .ok (.ifCond .eq 7, 3) := by decide +kernel
theorem dX5_task_107 : decode cX5_task 107 = .ok (.iconst 1, 1) := by decide +kernel
theorem dX5_task_108 : decode cX5_task 108 = .ok (.goto 4, 3) := by decide +kernel
theorem dX5_task_111 : decode cX5_task 111 = .ok (.iconst 0, 1) := by decide +kernel
theorem dX5_task_112 : decode cX5_task 112 = .ok (.invokestatic 118, 3) := by decide +kernel
theorem dX5_task_115 : decode cX5_task 115 = .ok (.ireturn, 1) := by decide +kernel
theorem dX5_task_116 : decode cX5_task 116 = .ok (.aload_n 0, 1) := by decide +kernel
theorem dX5_task_117 : decode cX5_task 117 = .ok (.getfield 26, 3) := by decide +kernel
theorem dX5_task_120 : decode cX5_task 120 = .ok (.getfield 122, 3) := by decide +kernel
theorem dX5_task_123 : decode cX5_task 123 = .ok (.iload_n 1, 1) := by decide +kernel
theorem dX5_task_124 : decode cX5_task 124 = .ok (.invokestatic 115, 3) := by decide +kernel
theorem dX5_task_127 : decode cX5_task 127 = .ok (.iand, 1) := by decide +kernel
theorem dX5_task_128 : decode cX5_task 128 = .ok (.ifCond .eq 7, 3) := by decide +kernel
theorem dX5_task_131 : decode cX5_task 131 = .ok (.iconst 1, 1) := by decide +kernel
theorem dX5_task_132 : decode cX5_task 132 = .ok (.goto 4, 3) := by decide +kernel
theorem dX5_task_135 : decode cX5_task 135 = .ok (.iconst 0, 1) := by decide +kernel
theorem dX5_task_136 : decode cX5_task 136 = .ok (.invokestatic 118, 3) := by decide +kernel
theorem dX5_task_139 : decode cX5_task 139 = .ok (.ireturn, 1) := by decide +kernel
theorem dX5_task_140 : decode cX5_task 140 = .ok (.aload_n 0, 1) := by decide +kernel
theorem dX5_task_141 : decode cX5_task 141 = .ok (.getfield 26, 3) := by decide +kernel
theorem dX5_task_144 : decode cX5_task 144 = .ok (.aload_n 0, 1) := by decide +kernel
theorem dX5_task_145 : decode cX5_task 145 = .ok (.getfield 16, 3) := by decide +kernel
theorem dX5_task_148 : decode cX5_task 148 = .ok (.iload_n 1, 1) := by decide +kernel
theorem dX5_task_149 : decode cX5_task 149 = .ok (.invokevirtual 125, 3) := by decide +kernel
theorem dX5_task_152 : decode cX5_task 152 = .ok (.ifCond .lt 7, 3) := by decide +kernel
theorem dX5_task_155 : decode cX5_task 155 = .ok (.iconst 1, 1) := by decide +kernel
theorem dX5_task_156 : decode cX5_task 156 = .ok (.goto 4, 3) := by decide +kernel
theorem dX5_task_159 : decode cX5_task 159 = .ok (.iconst 0, 1) := by decide +kernel
theorem dX5_task_160 : decode cX5_task 160 = .ok (.invokestatic 118, 3) := by decide +kernel
theorem dX5_task_163 : decode cX5_task 163 = .ok (.ireturn, 1) := by decide +kernel
theorem dX5_task_164 : decode cX5_task 164 = .ok (.iconst (-1), 1) := by decide +kernel
theorem dX5_task_165 : decode cX5_task 165 = .ok (.ireturn, 1) := by decide +kernel
set_option maxRecDepth 20000 in
theorem ggX5_helper_X0_hasHelper : GoodIn wsX5_helper wsX0_hasHelper := goodIn_r _ [9, 10, 45, 46, 47, 48, 49, 50, 51, 52, 53, 54, 55, 56, 57, 58] (by decide +kernel) (by decide +kernel)
set_option maxRecDepth 20000 in
theorem gX5_helper_X0_hasHelper : GoodIn wsX5_helper (wsV RX5 129 RX0 yX0_hasHelper wsX0_hasHelper) := goodIn_app (goodIn_of _ (by decide +kernel)) ggX5_helper_X0_hasHelper
set_option maxRecDepth 20000 in
theorem ggX5_helper_X0_helperKindOf : GoodIn wsX5_helper wsX0_helperKindOf := goodIn_r _ [14, 15, 45, 46, 47, 48, 49, 50, 51, 52, 53, 54, 55, 56, 57, 58] (by decide +kernel) (by decide +kernel)
set_option maxRecDepth 20000 in
theorem gX5_helper_X0_helperKindOf : GoodIn wsX5_helper (wsV RX5 132 RX0 yX0_helperKindOf wsX0_helperKindOf) := goodIn_app (goodIn_of _ (by decide +kernel)) ggX5_helper_X0_helperKindOf
set_option maxRecDepth 20000 in
theorem ggX5_helper_X0_priceOf : GoodIn wsX5_helper wsX0_priceOf := goodIn_r _ [19, 20, 45, 46, 47, 48, 49, 50, 51, 52, 53, 54, 55, 56, 57, 58] (by decide +kernel) (by decide +kernel)
set_option maxRecDepth 20000 in
theorem gX5_helper_X0_priceOf : GoodIn wsX5_helper (wsV RX5 135 RX0 yX0_priceOf wsX0_priceOf) := goodIn_app (goodIn_of _ (by decide +kernel)) ggX5_helper_X0_priceOf
set_option maxRecDepth 20000 in
theorem ggX5_helper_X5_bit : GoodIn wsX5_helper wsX5_bit := goodIn_r _ [24] (by decide +kernel) (by decide +kernel)
set_option maxRecDepth 20000 in
theorem gX5_helper_X5_bit : GoodIn wsX5_helper (va_wsS RX5 115 yX5_bit wsX5_bit) := goodIn_app (goodIn_of _ (by decide +kernel)) ggX5_helper_X5_bit
set_option maxRecDepth 20000 in
theorem ggX5_helper_X5_oneIf : GoodIn wsX5_helper wsX5_oneIf := goodIn_r _ [27] (by decide +kernel) (by decide +kernel)
set_option maxRecDepth 20000 in
theorem gX5_helper_X5_oneIf : GoodIn wsX5_helper (va_wsS RX5 118 yX5_oneIf wsX5_oneIf) := goodIn_app (goodIn_of _ (by decide +kernel)) ggX5_helper_X5_oneIf
theorem dX5_helper_0 : decode cX5_helper 0 = .ok (.aload_n 0, 1) := by decide +kernel
theorem dX5_helper_1 : decode cX5_helper 1 = .ok (.getfield 16, 3) := by decide +kernel
theorem dX5_helper_4 : decode cX5_helper 4 = .ok (.iload_n 1, 1) := by decide +kernel
theorem dX5_helper_5 : decode cX5_helper 5 = .ok (.invokevirtual 129, 3) := by decide +kernel
theorem dX5_helper_8 : decode cX5_helper 8 = .ok (.ifCond .ne 5, 3) := by decide +kernel
theorem dX5_helper_11 : decode cX5_helper 11 = .ok (.iconst (-1), 1) := by decide +kernel
theorem dX5_helper_12 : decode cX5_helper 12 = .ok (.ireturn, 1) := by decide +kernel
theorem dX5_helper_13 : decode cX5_helper 13 = .ok (.iload_n 2, 1) := by decide +kernel
theorem dX5_helper_14 : decode cX5_helper 14 = .ok (.tableswitch 96 0 3 #[30, 39, 48, 72], 30) := by decide +kernel
theorem dX5_helper_44 : decode cX5_helper 44 = .ok (.aload_n 0, 1) := by decide +kernel
theorem dX5_helper_45 : decode cX5_helper 45 = .ok (.getfield 16, 3) := by decide +kernel
theorem dX5_helper_48 : decode cX5_helper 48 = .ok (.iload_n 1, 1) := by decide +kernel
theorem dX5_helper_49 : decode cX5_helper 49 = .ok (.invokevirtual 132, 3) := by decide +kernel
theorem dX5_helper_52 : decode cX5_helper 52 = .ok (.ireturn, 1) := by decide +kernel
theorem dX5_helper_53 : decode cX5_helper 53 = .ok (.aload_n 0, 1) := by decide +kernel
theorem dX5_helper_54 : decode cX5_helper 54 = .ok (.getfield 16, 3) := by decide +kernel
theorem dX5_helper_57 : decode cX5_helper 57 = .ok (.iload_n 1, 1) := by decide +kernel
theorem dX5_helper_58 : decode cX5_helper 58 = .ok (.invokevirtual 135, 3) := by decide +kernel
theorem dX5_helper_61 : decode cX5_helper 61 = .ok (.ireturn, 1) := by decide +kernel
theorem dX5_helper_62 : decode cX5_helper 62 = .ok (.aload_n 0, 1) := by decide +kernel
theorem dX5_helper_63 : decode cX5_helper 63 = .ok (.getfield 26, 3) := by decide +kernel
theorem dX5_helper_66 : decode cX5_helper 66 = .ok (.getfield 138, 3) := by decide +kernel
theorem dX5_helper_69 : decode cX5_helper 69 = .ok (.iload_n 1, 1) := by decide +kernel
theorem dX5_helper_70 : decode cX5_helper 70 = .ok (.invokestatic 115, 3) := by decide +kernel
theorem dX5_helper_73 : decode cX5_helper 73 = .ok (.iand, 1) := by decide +kernel
theorem dX5_helper_74 : decode cX5_helper 74 = .ok (.ifCond .eq 7, 3) := by decide +kernel
theorem dX5_helper_77 : decode cX5_helper 77 = .ok (.iconst 1, 1) := by decide +kernel
theorem dX5_helper_78 : decode cX5_helper 78 = .ok (.goto 4, 3) := by decide +kernel
theorem dX5_helper_81 : decode cX5_helper 81 = .ok (.iconst 0, 1) := by decide +kernel
theorem dX5_helper_82 : decode cX5_helper 82 = .ok (.invokestatic 118, 3) := by decide +kernel
theorem dX5_helper_85 : decode cX5_helper 85 = .ok (.ireturn, 1) := by decide +kernel
theorem dX5_helper_86 : decode cX5_helper 86 = .ok (.aload_n 0, 1) := by decide +kernel
theorem dX5_helper_87 : decode cX5_helper 87 = .ok (.getfield 26, 3) := by decide +kernel
theorem dX5_helper_90 : decode cX5_helper 90 = .ok (.getfield 141, 3) := by decide +kernel
theorem dX5_helper_93 : decode cX5_helper 93 = .ok (.iload_n 1, 1) := by decide +kernel
theorem dX5_helper_94 : decode cX5_helper 94 = .ok (.invokestatic 115, 3) := by decide +kernel
theorem dX5_helper_97 : decode cX5_helper 97 = .ok (.iand, 1) := by decide +kernel
theorem dX5_helper_98 : decode cX5_helper 98 = .ok (.ifCond .eq 7, 3) := by decide +kernel
theorem dX5_helper_101 : decode cX5_helper 101 = .ok (.iconst 1, 1) := by decide +kernel
theorem dX5_helper_102 : decode cX5_helper 102 = .ok (.goto 4, 3) := by decide +kernel
theorem dX5_helper_105 : decode cX5_helper 105 = .ok (.iconst 0, 1) := by decide +kernel
theorem dX5_helper_106 : decode cX5_helper 106 = .ok (.invokestatic 118, 3) := by decide +kernel
theorem dX5_helper_109 : decode cX5_helper 109 = .ok (.ireturn, 1) := by decide +kernel
theorem dX5_helper_110 : decode cX5_helper 110 = .ok (.iconst (-1), 1) := by decide +kernel
theorem dX5_helper_111 : decode cX5_helper 111 = .ok (.ireturn, 1) := by decide +kernel
set_option maxRecDepth 20000 in
theorem ggX5_help_X0_hasTask : GoodIn wsX5_help wsX0_hasTask := goodIn_r _ [7, 8, 67, 68, 69, 70, 71, 72, 73, 74, 75, 76, 77, 78, 79, 80] (by decide +kernel) (by decide +kernel)
set_option maxRecDepth 20000 in
theorem gX5_help_X0_hasTask : GoodIn wsX5_help (wsV RX5 95 RX0 yX0_hasTask wsX0_hasTask) := goodIn_app (goodIn_of _ (by decide +kernel)) ggX5_help_X0_hasTask
set_option maxRecDepth 20000 in
theorem ggX5_help_X4_helpersFor : GoodIn wsX5_help wsX4_helpersFor := goodIn_r _ [13, 14, 15, 16, 17, 12, 18, 19, 20, 21, 22, 23, 24, 25, 26, 27, 28, 29, 30, 31, 6, 32, 33, 34, 35, 36, 37, 38, 39, 40, 41, 42, 43, 44, 45, 46, 47, 48, 49, 50, 51, 52, 53, 54, 55, 81, 82, 83, 84, 85, 86, 67, 68, 69, 70, 71, 72, 73, 74, 75, 76, 77, 78, 79, 80] (by decide +kernel) (by decide +kernel)
set_option maxRecDepth 20000 in
theorem gX5_help_X4_helpersFor : GoodIn wsX5_help (wsV RX5 125 RX4 yX4_helpersFor wsX4_helpersFor) := goodIn_app (goodIn_of _ (by decide +kernel)) ggX5_help_X4_helpersFor
theorem dX5_help_0 : decode cX5_help 0 = .ok (.aload_n 0, 1) := by decide +kernel
theorem dX5_help_1 : decode cX5_help 1 = .ok (.getfield 16, 3) := by decide +kernel
theorem dX5_help_4 : decode cX5_help 4 = .ok (.iload_n 1, 1) := by decide +kernel
theorem dX5_help_5 : decode cX5_help 5 = .ok (.invokevirtual 95, 3) := by decide +kernel
theorem dX5_help_8 : decode cX5_help 8 = .ok (.ifCond .ne 5, 3) := by decide +kernel
theorem dX5_help_11 : decode cX5_help 11 = .ok (.iconst (-1), 1) := by decide +kernel
theorem dX5_help_12 : decode cX5_help 12 = .ok (.ireturn, 1) := by decide +kernel
theorem dX5_help_13 : decode cX5_help 13 = .ok (.aload_n 0, 1) := by decide +kernel
theorem dX5_help_14 : decode cX5_help 14 = .ok (.getfield 26, 3) := by decide +kernel
theorem dX5_help_17 : decode cX5_help 17 = .ok (.aload_n 0, 1) := by decide +kernel
theorem dX5_help_18 : decode cX5_help 18 = .ok (.getfield 16, 3) := by decide +kernel
theorem dX5_help_21 : decode cX5_help 21 = .ok (.iload_n 1, 1) := by decide +kernel
theorem dX5_help_22 : decode cX5_help 22 = .ok (.invokevirtual 125, 3) := by decide +kernel
theorem dX5_help_25 : decode cX5_help 25 = .ok (.ireturn, 1) := by decide +kernel
set_option maxRecDepth 20000 in
theorem ggX5_befriend_X0_hasHelper : GoodIn wsX5_befriend wsX0_hasHelper := goodIn_r _ [9, 10, 62, 63, 64, 65, 66, 67, 68, 69, 70, 71, 72, 73, 74, 75] (by decide +kernel) (by decide +kernel)
set_option maxRecDepth 20000 in
theorem gX5_befriend_X0_hasHelper : GoodIn wsX5_befriend (wsV RX5 129 RX0 yX0_hasHelper wsX0_hasHelper) := goodIn_app (goodIn_of _ (by decide +kernel)) ggX5_befriend_X0_hasHelper
set_option maxRecDepth 20000 in
theorem ggX5_befriend_X4_packed : GoodIn wsX5_befriend wsX4_packed := goodIn_r _ [15, 16, 17, 18, 19, 20, 21, 56, 57, 58, 59, 60, 61] (by decide +kernel) (by decide +kernel)
set_option maxRecDepth 20000 in
theorem gX5_befriend_X4_packed : GoodIn wsX5_befriend (wsV RX5 144 RX4 yX4_packed wsX4_packed) := goodIn_app (goodIn_of _ (by decide +kernel)) ggX5_befriend_X4_packed
set_option maxRecDepth 20000 in
theorem ggX5_befriend_X4_tryBefriend : GoodIn wsX5_befriend wsX4_tryBefriend := goodIn_r _ [25, 18, 20, 26, 27, 28, 8, 29, 30, 31, 32, 33, 56, 57, 58, 59, 60, 61, 62, 63, 64, 65, 66, 67, 68, 69, 70, 71, 72, 73, 74, 75] (by decide +kernel) (by decide +kernel)
set_option maxRecDepth 20000 in
theorem gX5_befriend_X4_tryBefriend : GoodIn wsX5_befriend (wsV RX5 148 RX4 yX4_tryBefriend wsX4_tryBefriend) := goodIn_app (goodIn_of _ (by decide +kernel)) ggX5_befriend_X4_tryBefriend
set_option maxRecDepth 20000 in
theorem ggX5_befriend_X1_put : GoodIn wsX5_befriend wsX1_put := goodIn_r _ [38, 39, 40, 41, 42, 43, 37, 44, 76, 77] (by decide +kernel) (by decide +kernel)
set_option maxRecDepth 20000 in
theorem gX5_befriend_X1_put : GoodIn wsX5_befriend (wsV RX5 152 RX1 yX1_put wsX1_put) := goodIn_app (goodIn_of _ (by decide +kernel)) ggX5_befriend_X1_put
theorem dX5_befriend_0 : decode cX5_befriend 0 = .ok (.aload_n 0, 1) := by decide +kernel
theorem dX5_befriend_1 : decode cX5_befriend 1 = .ok (.getfield 16, 3) := by decide +kernel
theorem dX5_befriend_4 : decode cX5_befriend 4 = .ok (.iload_n 1, 1) := by decide +kernel
theorem dX5_befriend_5 : decode cX5_befriend 5 = .ok (.invokevirtual 129, 3) := by decide +kernel
theorem dX5_befriend_8 : decode cX5_befriend 8 = .ok (.ifCond .ne 5, 3) := by decide +kernel
theorem dX5_befriend_11 : decode cX5_befriend 11 = .ok (.iconst (-1), 1) := by decide +kernel
theorem dX5_befriend_12 : decode cX5_befriend 12 = .ok (.ireturn, 1) := by decide +kernel
theorem dX5_befriend_13 : decode cX5_befriend 13 = .ok (.aload_n 0, 1) := by decide +kernel
theorem dX5_befriend_14 : decode cX5_befriend 14 = .ok (.getfield 26, 3) := by decide +kernel
theorem dX5_befriend_17 : decode cX5_befriend 17 = .ok (.invokevirtual 144, 3) := by decide +kernel
theorem dX5_befriend_20 : decode cX5_befriend 20 = .ok (.lstore_n 2, 1) := by decide +kernel
theorem dX5_befriend_21 : decode cX5_befriend 21 = .ok (.aload_n 0, 1) := by decide +kernel
theorem dX5_befriend_22 : decode cX5_befriend 22 = .ok (.getfield 26, 3) := by decide +kernel
theorem dX5_befriend_25 : decode cX5_befriend 25 = .ok (.aload_n 0, 1) := by decide +kernel
theorem dX5_befriend_26 : decode cX5_befriend 26 = .ok (.getfield 16, 3) := by decide +kernel
theorem dX5_befriend_29 : decode cX5_befriend 29 = .ok (.iload_n 1, 1) := by decide +kernel
theorem dX5_befriend_30 : decode cX5_befriend 30 = .ok (.invokevirtual 148, 3) := by decide +kernel
theorem dX5_befriend_33 : decode cX5_befriend 33 = .ok (.ifCond .ne 6, 3) := by decide +kernel
theorem dX5_befriend_36 : decode cX5_befriend 36 = .ok (.bipush (-2), 2) := by decide +kernel
theorem dX5_befriend_38 : decode cX5_befriend 38 = .ok (.ireturn, 1) := by decide +kernel
theorem dX5_befriend_39 : decode cX5_befriend 39 = .ok (.aload_n 0, 1) := by decide +kernel
theorem dX5_befriend_40 : decode cX5_befriend 40 = .ok (.getfield 38, 3) := by decide +kernel
theorem dX5_befriend_43 : decode cX5_befriend 43 = .ok (.lload_n 2, 1) := by decide +kernel
theorem dX5_befriend_44 : decode cX5_befriend 44 = .ok (.invokevirtual 152, 3) := by decide +kernel
theorem dX5_befriend_47 : decode cX5_befriend 47 = .ok (.aload_n 0, 1) := by decide +kernel
theorem dX5_befriend_48 : decode cX5_befriend 48 = .ok (.getfield 26, 3) := by decide +kernel
theorem dX5_befriend_51 : decode cX5_befriend 51 = .ok (.getfield 156, 3) := by decide +kernel
theorem dX5_befriend_54 : decode cX5_befriend 54 = .ok (.ireturn, 1) := by decide +kernel
set_option maxRecDepth 20000 in
theorem ggX5_ride_X0_hasTask : GoodIn wsX5_ride wsX0_hasTask := goodIn_r _ [9, 10, 105, 106, 107, 108, 109, 110, 111, 112, 113, 114, 115, 116, 117, 118] (by decide +kernel) (by decide +kernel)
set_option maxRecDepth 20000 in
theorem gX5_ride_X0_hasTask : GoodIn wsX5_ride (wsV RX5 95 RX0 yX0_hasTask wsX0_hasTask) := goodIn_app (goodIn_of _ (by decide +kernel)) ggX5_ride_X0_hasTask
set_option maxRecDepth 20000 in
theorem ggX5_ride_X4_packed : GoodIn wsX5_ride wsX4_packed := goodIn_r _ [15, 16, 17, 18, 19, 20, 21, 99, 100, 101, 102, 103, 104] (by decide +kernel) (by decide +kernel)
set_option maxRecDepth 20000 in
theorem gX5_ride_X4_packed : GoodIn wsX5_ride (wsV RX5 144 RX4 yX4_packed wsX4_packed) := goodIn_app (goodIn_of _ (by decide +kernel)) ggX5_ride_X4_packed
set_option maxRecDepth 20000 in
theorem ggX5_ride_X4_tryRide : GoodIn wsX5_ride wsX4_tryRide := goodIn_r _ [25, 19, 21, 17, 16, 26, 27, 28, 14, 29, 30, 31, 32, 33, 34, 35, 36, 37, 38, 39, 40, 41, 42, 43, 44, 8, 45, 46, 47, 48, 49, 50, 18, 51, 52, 53, 54, 55, 56, 57, 58, 59, 60, 61, 62, 63, 64, 65, 66, 67, 68, 69, 70, 71, 72, 73, 74, 75, 76, 99, 100, 101, 102, 103, 104, 105, 106, 107, 108, 109, 110, 111, 112, 113, 114, 115, 116, 117, 118] (by decide +kernel) (by decide +kernel)
set_option maxRecDepth 20000 in
theorem gX5_ride_X4_tryRide : GoodIn wsX5_ride (wsV RX5 159 RX4 yX4_tryRide wsX4_tryRide) := goodIn_app (goodIn_of _ (by decide +kernel)) ggX5_ride_X4_tryRide
set_option maxRecDepth 20000 in
theorem ggX5_ride_X1_put : GoodIn wsX5_ride wsX1_put := goodIn_r _ [81, 82, 83, 84, 85, 86, 80, 87, 119, 120] (by decide +kernel) (by decide +kernel)
set_option maxRecDepth 20000 in
theorem gX5_ride_X1_put : GoodIn wsX5_ride (wsV RX5 152 RX1 yX1_put wsX1_put) := goodIn_app (goodIn_of _ (by decide +kernel)) ggX5_ride_X1_put
theorem dX5_ride_0 : decode cX5_ride 0 = .ok (.aload_n 0, 1) := by decide +kernel
theorem dX5_ride_1 : decode cX5_ride 1 = .ok (.getfield 16, 3) := by decide +kernel
theorem dX5_ride_4 : decode cX5_ride 4 = .ok (.iload_n 1, 1) := by decide +kernel
theorem dX5_ride_5 : decode cX5_ride 5 = .ok (.invokevirtual 95, 3) := by decide +kernel
theorem dX5_ride_8 : decode cX5_ride 8 = .ok (.ifCond .ne 5, 3) := by decide +kernel
theorem dX5_ride_11 : decode cX5_ride 11 = .ok (.iconst (-1), 1) := by decide +kernel
theorem dX5_ride_12 : decode cX5_ride 12 = .ok (.ireturn, 1) := by decide +kernel
theorem dX5_ride_13 : decode cX5_ride 13 = .ok (.aload_n 0, 1) := by decide +kernel
theorem dX5_ride_14 : decode cX5_ride 14 = .ok (.getfield 26, 3) := by decide +kernel
theorem dX5_ride_17 : decode cX5_ride 17 = .ok (.invokevirtual 144, 3) := by decide +kernel
theorem dX5_ride_20 : decode cX5_ride 20 = .ok (.lstore_n 2, 1) := by decide +kernel
theorem dX5_ride_21 : decode cX5_ride 21 = .ok (.aload_n 0, 1) := by decide +kernel
theorem dX5_ride_22 : decode cX5_ride 22 = .ok (.getfield 26, 3) := by decide +kernel
theorem dX5_ride_25 : decode cX5_ride 25 = .ok (.aload_n 0, 1) := by decide +kernel
theorem dX5_ride_26 : decode cX5_ride 26 = .ok (.getfield 16, 3) := by decide +kernel
theorem dX5_ride_29 : decode cX5_ride 29 = .ok (.iload_n 1, 1) := by decide +kernel
theorem dX5_ride_30 : decode cX5_ride 30 = .ok (.invokevirtual 159, 3) := by decide +kernel
theorem dX5_ride_33 : decode cX5_ride 33 = .ok (.ifCond .ne 6, 3) := by decide +kernel
theorem dX5_ride_36 : decode cX5_ride 36 = .ok (.bipush (-2), 2) := by decide +kernel
theorem dX5_ride_38 : decode cX5_ride 38 = .ok (.ireturn, 1) := by decide +kernel
theorem dX5_ride_39 : decode cX5_ride 39 = .ok (.aload_n 0, 1) := by decide +kernel
theorem dX5_ride_40 : decode cX5_ride 40 = .ok (.getfield 38, 3) := by decide +kernel
theorem dX5_ride_43 : decode cX5_ride 43 = .ok (.lload_n 2, 1) := by decide +kernel
theorem dX5_ride_44 : decode cX5_ride 44 = .ok (.invokevirtual 152, 3) := by decide +kernel
theorem dX5_ride_47 : decode cX5_ride 47 = .ok (.aload_n 0, 1) := by decide +kernel
theorem dX5_ride_48 : decode cX5_ride 48 = .ok (.getfield 26, 3) := by decide +kernel
theorem dX5_ride_51 : decode cX5_ride 51 = .ok (.getfield 162, 3) := by decide +kernel
theorem dX5_ride_54 : decode cX5_ride 54 = .ok (.ireturn, 1) := by decide +kernel
set_option maxRecDepth 20000 in
theorem ggX5_suggest_X0_hasTask : GoodIn wsX5_suggest wsX0_hasTask := goodIn_r _ [8, 9, 71, 72, 73, 74, 75, 76, 77, 78, 79, 80, 81, 82, 83, 84] (by decide +kernel) (by decide +kernel)
set_option maxRecDepth 20000 in
theorem gX5_suggest_X0_hasTask : GoodIn wsX5_suggest (wsV RX5 95 RX0 yX0_hasTask wsX0_hasTask) := goodIn_app (goodIn_of _ (by decide +kernel)) ggX5_suggest_X0_hasTask
set_option maxRecDepth 20000 in
theorem ggX5_suggest_X4_packed : GoodIn wsX5_suggest wsX4_packed := goodIn_r _ [14, 15, 16, 17, 18, 19, 20, 85, 86, 87, 88, 89, 90] (by decide +kernel) (by decide +kernel)
set_option maxRecDepth 20000 in
theorem gX5_suggest_X4_packed : GoodIn wsX5_suggest (wsV RX5 144 RX4 yX4_packed wsX4_packed) := goodIn_app (goodIn_of _ (by decide +kernel)) ggX5_suggest_X4_packed
set_option maxRecDepth 20000 in
theorem ggX5_suggest_X4_trySuggest : GoodIn wsX5_suggest wsX4_trySuggest := goodIn_r _ [24, 15, 25, 26, 27, 13, 28, 29, 30, 31, 32, 33, 20, 34, 35, 36, 37, 85, 86, 87, 88, 89, 90, 71, 72, 73, 74, 75, 76, 77, 78, 79, 80, 81, 82, 83, 84] (by decide +kernel) (by decide +kernel)
set_option maxRecDepth 20000 in
theorem gX5_suggest_X4_trySuggest : GoodIn wsX5_suggest (wsV RX5 165 RX4 yX4_trySuggest wsX4_trySuggest) := goodIn_app (goodIn_of _ (by decide +kernel)) ggX5_suggest_X4_trySuggest
set_option maxRecDepth 20000 in
theorem ggX5_suggest_X1_put : GoodIn wsX5_suggest wsX1_put := goodIn_r _ [42, 43, 44, 45, 46, 47, 41, 48, 91, 92] (by decide +kernel) (by decide +kernel)
set_option maxRecDepth 20000 in
theorem gX5_suggest_X1_put : GoodIn wsX5_suggest (wsV RX5 152 RX1 yX1_put wsX1_put) := goodIn_app (goodIn_of _ (by decide +kernel)) ggX5_suggest_X1_put
set_option maxRecDepth 20000 in
theorem ggX5_suggest_X4_openTasks : GoodIn wsX5_suggest wsX4_openTasks := goodIn_r _ [52, 15, 16, 85, 86, 87, 88, 89, 90] (by decide +kernel) (by decide +kernel)
set_option maxRecDepth 20000 in
theorem gX5_suggest_X4_openTasks : GoodIn wsX5_suggest (wsV RX5 168 RX4 yX4_openTasks wsX4_openTasks) := goodIn_app (goodIn_of _ (by decide +kernel)) ggX5_suggest_X4_openTasks
set_option maxRecDepth 20000 in
theorem ggX5_suggest_J6_bitCount_0f7a4 : GoodIn wsX5_suggest wsJ6_bitCount_0f7a4 := goodIn_r _ [56, 57, 58, 59] (by decide +kernel) (by decide +kernel)
set_option maxRecDepth 20000 in
theorem gX5_suggest_J6_bitCount_0f7a4 : GoodIn wsX5_suggest (va_wsS RX5 172 yJ6_bitCount_0f7a4 wsJ6_bitCount_0f7a4) := goodIn_app (goodIn_of _ (by decide +kernel)) ggX5_suggest_J6_bitCount_0f7a4
theorem dX5_suggest_0 : decode cX5_suggest 0 = .ok (.aload_n 0, 1) := by decide +kernel
theorem dX5_suggest_1 : decode cX5_suggest 1 = .ok (.getfield 16, 3) := by decide +kernel
theorem dX5_suggest_4 : decode cX5_suggest 4 = .ok (.iload_n 1, 1) := by decide +kernel
theorem dX5_suggest_5 : decode cX5_suggest 5 = .ok (.invokevirtual 95, 3) := by decide +kernel
theorem dX5_suggest_8 : decode cX5_suggest 8 = .ok (.ifCond .ne 5, 3) := by decide +kernel
theorem dX5_suggest_11 : decode cX5_suggest 11 = .ok (.iconst (-1), 1) := by decide +kernel
theorem dX5_suggest_12 : decode cX5_suggest 12 = .ok (.ireturn, 1) := by decide +kernel
theorem dX5_suggest_13 : decode cX5_suggest 13 = .ok (.aload_n 0, 1) := by decide +kernel
theorem dX5_suggest_14 : decode cX5_suggest 14 = .ok (.getfield 26, 3) := by decide +kernel
theorem dX5_suggest_17 : decode cX5_suggest 17 = .ok (.invokevirtual 144, 3) := by decide +kernel
theorem dX5_suggest_20 : decode cX5_suggest 20 = .ok (.lstore_n 2, 1) := by decide +kernel
theorem dX5_suggest_21 : decode cX5_suggest 21 = .ok (.aload_n 0, 1) := by decide +kernel
theorem dX5_suggest_22 : decode cX5_suggest 22 = .ok (.getfield 26, 3) := by decide +kernel
theorem dX5_suggest_25 : decode cX5_suggest 25 = .ok (.aload_n 0, 1) := by decide +kernel
theorem dX5_suggest_26 : decode cX5_suggest 26 = .ok (.getfield 16, 3) := by decide +kernel
theorem dX5_suggest_29 : decode cX5_suggest 29 = .ok (.iload_n 1, 1) := by decide +kernel
theorem dX5_suggest_30 : decode cX5_suggest 30 = .ok (.invokevirtual 165, 3) := by decide +kernel
theorem dX5_suggest_33 : decode cX5_suggest 33 = .ok (.ifCond .ne 6, 3) := by decide +kernel
theorem dX5_suggest_36 : decode cX5_suggest 36 = .ok (.bipush (-2), 2) := by decide +kernel
theorem dX5_suggest_38 : decode cX5_suggest 38 = .ok (.ireturn, 1) := by decide +kernel
theorem dX5_suggest_39 : decode cX5_suggest 39 = .ok (.aload_n 0, 1) := by decide +kernel
theorem dX5_suggest_40 : decode cX5_suggest 40 = .ok (.getfield 38, 3) := by decide +kernel
theorem dX5_suggest_43 : decode cX5_suggest 43 = .ok (.lload_n 2, 1) := by decide +kernel
theorem dX5_suggest_44 : decode cX5_suggest 44 = .ok (.invokevirtual 152, 3) := by decide +kernel
theorem dX5_suggest_47 : decode cX5_suggest 47 = .ok (.aload_n 0, 1) := by decide +kernel
theorem dX5_suggest_48 : decode cX5_suggest 48 = .ok (.getfield 26, 3) := by decide +kernel
theorem dX5_suggest_51 : decode cX5_suggest 51 = .ok (.invokevirtual 168, 3) := by decide +kernel
theorem dX5_suggest_54 : decode cX5_suggest 54 = .ok (.invokestatic 172, 3) := by decide +kernel
theorem dX5_suggest_57 : decode cX5_suggest 57 = .ok (.ireturn, 1) := by decide +kernel
set_option maxRecDepth 20000 in
theorem ggX5_handUp_X0_hasTask : GoodIn wsX5_handUp wsX0_hasTask := goodIn_r _ [9, 10, 71, 72, 73, 74, 75, 76, 77, 78, 79, 80, 81, 82, 83, 84] (by decide +kernel) (by decide +kernel)
set_option maxRecDepth 20000 in
theorem gX5_handUp_X0_hasTask : GoodIn wsX5_handUp (wsV RX5 95 RX0 yX0_hasTask wsX0_hasTask) := goodIn_app (goodIn_of _ (by decide +kernel)) ggX5_handUp_X0_hasTask
set_option maxRecDepth 20000 in
theorem ggX5_handUp_X4_packed : GoodIn wsX5_handUp wsX4_packed := goodIn_r _ [15, 16, 17, 18, 19, 20, 21, 65, 66, 67, 68, 69, 70] (by decide +kernel) (by decide +kernel)
set_option maxRecDepth 20000 in
theorem gX5_handUp_X4_packed : GoodIn wsX5_handUp (wsV RX5 144 RX4 yX4_packed wsX4_packed) := goodIn_app (goodIn_of _ (by decide +kernel)) ggX5_handUp_X4_packed
set_option maxRecDepth 20000 in
theorem ggX5_handUp_X4_tryHandUp : GoodIn wsX5_handUp wsX4_tryHandUp := goodIn_r _ [25, 21, 17, 26, 27, 28, 14, 29, 30, 31, 32, 33, 34, 16, 35, 36, 37, 38, 39, 40, 8, 41, 42, 65, 66, 67, 68, 69, 70, 71, 72, 73, 74, 75, 76, 77, 78, 79, 80, 81, 82, 83, 84] (by decide +kernel) (by decide +kernel)
set_option maxRecDepth 20000 in
theorem gX5_handUp_X4_tryHandUp : GoodIn wsX5_handUp (wsV RX5 177 RX4 yX4_tryHandUp wsX4_tryHandUp) := goodIn_app (goodIn_of _ (by decide +kernel)) ggX5_handUp_X4_tryHandUp
set_option maxRecDepth 20000 in
theorem ggX5_handUp_X1_put : GoodIn wsX5_handUp wsX1_put := goodIn_r _ [47, 48, 49, 50, 51, 52, 46, 53, 85, 86] (by decide +kernel) (by decide +kernel)
set_option maxRecDepth 20000 in
theorem gX5_handUp_X1_put : GoodIn wsX5_handUp (wsV RX5 152 RX1 yX1_put wsX1_put) := goodIn_app (goodIn_of _ (by decide +kernel)) ggX5_handUp_X1_put
theorem dX5_handUp_0 : decode cX5_handUp 0 = .ok (.aload_n 0, 1) := by decide +kernel
theorem dX5_handUp_1 : decode cX5_handUp 1 = .ok (.getfield 16, 3) := by decide +kernel
theorem dX5_handUp_4 : decode cX5_handUp 4 = .ok (.iload_n 1, 1) := by decide +kernel
theorem dX5_handUp_5 : decode cX5_handUp 5 = .ok (.invokevirtual 95, 3) := by decide +kernel
theorem dX5_handUp_8 : decode cX5_handUp 8 = .ok (.ifCond .ne 5, 3) := by decide +kernel
theorem dX5_handUp_11 : decode cX5_handUp 11 = .ok (.iconst (-1), 1) := by decide +kernel
theorem dX5_handUp_12 : decode cX5_handUp 12 = .ok (.ireturn, 1) := by decide +kernel
theorem dX5_handUp_13 : decode cX5_handUp 13 = .ok (.aload_n 0, 1) := by decide +kernel
theorem dX5_handUp_14 : decode cX5_handUp 14 = .ok (.getfield 26, 3) := by decide +kernel
theorem dX5_handUp_17 : decode cX5_handUp 17 = .ok (.invokevirtual 144, 3) := by decide +kernel
theorem dX5_handUp_20 : decode cX5_handUp 20 = .ok (.lstore_n 2, 1) := by decide +kernel
theorem dX5_handUp_21 : decode cX5_handUp 21 = .ok (.aload_n 0, 1) := by decide +kernel
theorem dX5_handUp_22 : decode cX5_handUp 22 = .ok (.getfield 26, 3) := by decide +kernel
theorem dX5_handUp_25 : decode cX5_handUp 25 = .ok (.aload_n 0, 1) := by decide +kernel
theorem dX5_handUp_26 : decode cX5_handUp 26 = .ok (.getfield 16, 3) := by decide +kernel
theorem dX5_handUp_29 : decode cX5_handUp 29 = .ok (.iload_n 1, 1) := by decide +kernel
theorem dX5_handUp_30 : decode cX5_handUp 30 = .ok (.invokevirtual 177, 3) := by decide +kernel
theorem dX5_handUp_33 : decode cX5_handUp 33 = .ok (.ifCond .ne 6, 3) := by decide +kernel
theorem dX5_handUp_36 : decode cX5_handUp 36 = .ok (.bipush (-2), 2) := by decide +kernel
theorem dX5_handUp_38 : decode cX5_handUp 38 = .ok (.ireturn, 1) := by decide +kernel
theorem dX5_handUp_39 : decode cX5_handUp 39 = .ok (.aload_n 0, 1) := by decide +kernel
theorem dX5_handUp_40 : decode cX5_handUp 40 = .ok (.getfield 38, 3) := by decide +kernel
theorem dX5_handUp_43 : decode cX5_handUp 43 = .ok (.lload_n 2, 1) := by decide +kernel
theorem dX5_handUp_44 : decode cX5_handUp 44 = .ok (.invokevirtual 152, 3) := by decide +kernel
theorem dX5_handUp_47 : decode cX5_handUp 47 = .ok (.aload_n 0, 1) := by decide +kernel
theorem dX5_handUp_48 : decode cX5_handUp 48 = .ok (.getfield 26, 3) := by decide +kernel
theorem dX5_handUp_51 : decode cX5_handUp 51 = .ok (.getfield 162, 3) := by decide +kernel
theorem dX5_handUp_54 : decode cX5_handUp 54 = .ok (.ireturn, 1) := by decide +kernel
set_option maxRecDepth 20000 in
theorem ggX5_undo_X1_takeLatest : GoodIn wsX5_undo wsX1_takeLatest := goodIn_r _ [8, 9, 10, 33, 34] (by decide +kernel) (by decide +kernel)
set_option maxRecDepth 20000 in
theorem gX5_undo_X1_takeLatest : GoodIn wsX5_undo (wsV RX5 183 RX1 yX1_takeLatest wsX1_takeLatest) := goodIn_app (goodIn_of _ (by decide +kernel)) ggX5_undo_X1_takeLatest
set_option maxRecDepth 20000 in
theorem ggX5_undo_X4_unpack : GoodIn wsX5_undo wsX4_unpack := goodIn_r _ [15, 16, 17, 18, 19, 20, 21, 35, 36, 37, 38, 39, 40] (by decide +kernel) (by decide +kernel)
set_option maxRecDepth 20000 in
theorem gX5_undo_X4_unpack : GoodIn wsX5_undo (wsV RX5 186 RX4 yX4_unpack wsX4_unpack) := goodIn_app (goodIn_of _ (by decide +kernel)) ggX5_undo_X4_unpack
theorem dX5_undo_0 : decode cX5_undo 0 = .ok (.aload_n 0, 1) := by decide +kernel
theorem dX5_undo_1 : decode cX5_undo 1 = .ok (.getfield 38, 3) := by decide +kernel
theorem dX5_undo_4 : decode cX5_undo 4 = .ok (.getfield 180, 3) := by decide +kernel
theorem dX5_undo_7 : decode cX5_undo 7 = .ok (.iconst 1, 1) := by decide +kernel
theorem dX5_undo_8 : decode cX5_undo 8 = .ok (.if_icmp .ge 6, 3) := by decide +kernel
theorem dX5_undo_11 : decode cX5_undo 11 = .ok (.bipush (-2), 2) := by decide +kernel
theorem dX5_undo_13 : decode cX5_undo 13 = .ok (.ireturn, 1) := by decide +kernel
theorem dX5_undo_14 : decode cX5_undo 14 = .ok (.aload_n 0, 1) := by decide +kernel
theorem dX5_undo_15 : decode cX5_undo 15 = .ok (.getfield 26, 3) := by decide +kernel
theorem dX5_undo_18 : decode cX5_undo 18 = .ok (.aload_n 0, 1) := by decide +kernel
theorem dX5_undo_19 : decode cX5_undo 19 = .ok (.getfield 38, 3) := by decide +kernel
theorem dX5_undo_22 : decode cX5_undo 22 = .ok (.invokevirtual 183, 3) := by decide +kernel
theorem dX5_undo_25 : decode cX5_undo 25 = .ok (.invokevirtual 186, 3) := by decide +kernel
theorem dX5_undo_28 : decode cX5_undo 28 = .ok (.aload_n 0, 1) := by decide +kernel
theorem dX5_undo_29 : decode cX5_undo 29 = .ok (.getfield 38, 3) := by decide +kernel
theorem dX5_undo_32 : decode cX5_undo 32 = .ok (.getfield 180, 3) := by decide +kernel
theorem dX5_undo_35 : decode cX5_undo 35 = .ok (.ireturn, 1) := by decide +kernel
set_option maxRecDepth 20000 in
theorem ggX5_mayCome_X4_tasksToCome : GoodIn wsX5_mayCome wsX4_tasksToCome := goodIn_r _ [7, 8, 9, 10, 11, 12, 6, 13, 14, 15, 16, 17, 18, 19, 20, 21, 22, 23, 35, 36, 37, 38, 39, 40, 41, 42, 43, 44, 45, 46, 47, 48, 49, 50, 51, 52, 53, 54] (by decide +kernel) (by decide +kernel)
set_option maxRecDepth 20000 in
theorem gX5_mayCome_X4_tasksToCome : GoodIn wsX5_mayCome (wsV RX5 189 RX4 yX4_tasksToCome wsX4_tasksToCome) := goodIn_app (goodIn_of _ (by decide +kernel)) ggX5_mayCome_X4_tasksToCome
theorem dX5_mayCome_0 : decode cX5_mayCome 0 = .ok (.aload_n 0, 1) := by decide +kernel
theorem dX5_mayCome_1 : decode cX5_mayCome 1 = .ok (.getfield 26, 3) := by decide +kernel
theorem dX5_mayCome_4 : decode cX5_mayCome 4 = .ok (.aload_n 0, 1) := by decide +kernel
theorem dX5_mayCome_5 : decode cX5_mayCome 5 = .ok (.getfield 16, 3) := by decide +kernel
theorem dX5_mayCome_8 : decode cX5_mayCome 8 = .ok (.invokevirtual 189, 3) := by decide +kernel
theorem dX5_mayCome_11 : decode cX5_mayCome 11 = .ok (.ireturn, 1) := by decide +kernel
set_option maxRecDepth 20000 in
theorem ggX5_well_X2_waysOf : GoodIn wsX5_well wsX2_waysOf := goodIn_r _ [9, 10, 11, 12, 13, 8, 14, 15, 16, 17, 18, 19, 20, 21, 22, 23, 24, 25, 26, 27, 28, 29, 30, 31, 32, 33, 34, 35, 36, 37, 38, 39, 40, 41, 42, 43, 44, 45, 46, 47, 48, 49, 50, 51, 52, 53, 54, 55, 56, 57, 58, 59, 60, 61, 62, 63, 64, 65, 66, 67, 68, 69, 70, 71, 72, 73, 74, 75, 76, 77, 78, 79, 80, 81, 82, 83, 84, 85, 86, 87, 88, 89, 90, 91, 92, 93, 94, 95, 96, 97, 98, 99, 100, 101, 102, 103, 104, 105, 106, 107, 108, 109, 110, 111, 112, 113, 114, 115, 116, 117, 118, 119, 120, 121, 122, 123, 124, 125, 126, 127, 128, 129, 130, 131, 132, 133, 134, 135, 136, 137, 138, 139, 140, 141, 142, 143, 144, 145, 146, 147, 148, 149, 150, 151, 152, 153, 154, 155, 156, 157, 158, 159, 160, 161, 162, 182, 183, 184, 185, 186, 187, 188, 189, 190, 191, 192, 193, 194, 195, 196, 197, 198, 199, 200, 201, 202, 203, 204, 205, 206, 207, 208, 209, 210, 211, 212] (by decide +kernel) (by decide +kernel)
set_option maxRecDepth 20000 in
theorem gX5_well_X2_waysOf : GoodIn wsX5_well (wsV RX5 193 RX2 yX2_waysOf wsX2_waysOf) := goodIn_app (goodIn_of _ (by decide +kernel)) ggX5_well_X2_waysOf
set_option maxRecDepth 20000 in
theorem ggX5_well_X2_placeInFirst : GoodIn wsX5_well wsX2_placeInFirst := goodIn_r _ [166, 11, 12, 13, 8, 14, 15, 16, 17, 18, 19, 20, 21, 22, 23, 24, 25, 26, 27, 28, 29, 30, 31, 32, 33, 34, 35, 36, 37, 38, 39, 40, 41, 42, 43, 44, 45, 46, 47, 48, 49, 50, 51, 52, 53, 54, 55, 56, 57, 58, 59, 60, 61, 62, 63, 64, 65, 66, 67, 68, 69, 70, 71, 72, 73, 74, 75, 76, 77, 78, 79, 80, 81, 82, 83, 84, 85, 86, 87, 88, 89, 90, 91, 92, 93, 94, 95, 96, 97, 98, 99, 100, 101, 102, 103, 104, 167, 168, 169, 170, 128, 129, 130, 114, 131, 132, 133, 134, 135, 136, 137, 138, 139, 140, 141, 142, 143, 144, 145, 146, 147, 148, 149, 150, 151, 152, 153, 154, 155, 156, 157, 158, 105, 106, 107, 108, 109, 110, 111, 112, 113, 115, 116, 117, 118, 119, 120, 121, 122, 123, 124, 125, 126, 127, 159, 160, 161, 162, 182, 183, 184, 185, 186, 187, 188, 189, 190, 191, 192, 193, 194, 195, 196, 197, 198, 199, 200, 201, 202, 203, 204, 205, 206, 207, 208, 209, 210, 211, 212] (by decide +kernel) (by decide +kernel)
set_option maxRecDepth 20000 in
theorem gX5_well_X2_placeInFirst : GoodIn wsX5_well (wsV RX5 197 RX2 yX2_placeInFirst wsX2_placeInFirst) := goodIn_app (goodIn_of _ (by decide +kernel)) ggX5_well_X2_placeInFirst
theorem dX5_well_0 : decode cX5_well 0 = .ok (.iload_n 1, 1) := by decide +kernel
theorem dX5_well_1 : decode cX5_well 1 = .ok (.ifCond .lt 9, 3) := by decide +kernel
theorem dX5_well_4 : decode cX5_well 4 = .ok (.iload_n 1, 1) := by decide +kernel
theorem dX5_well_5 : decode cX5_well 5 = .ok (.bipush 8, 2) := by decide +kernel
theorem dX5_well_7 : decode cX5_well 7 = .ok (.if_icmp .le 5, 3) := by decide +kernel
theorem dX5_well_10 : decode cX5_well 10 = .ok (.iconst (-1), 1) := by decide +kernel
theorem dX5_well_11 : decode cX5_well 11 = .ok (.ireturn, 1) := by decide +kernel
theorem dX5_well_12 : decode cX5_well 12 = .ok (.iload_n 1, 1) := by decide +kernel
theorem dX5_well_13 : decode cX5_well 13 = .ok (.ifCond .ne 25, 3) := by decide +kernel
theorem dX5_well_16 : decode cX5_well 16 = .ok (.aload_n 0, 1) := by decide +kernel
theorem dX5_well_17 : decode cX5_well 17 = .ok (.getfield 60, 3) := by decide +kernel
theorem dX5_well_20 : decode cX5_well 20 = .ok (.aload_n 0, 1) := by decide +kernel
theorem dX5_well_21 : decode cX5_well 21 = .ok (.getfield 16, 3) := by decide +kernel
theorem dX5_well_24 : decode cX5_well 24 = .ok (.aload_n 0, 1) := by decide +kernel
theorem dX5_well_25 : decode cX5_well 25 = .ok (.getfield 26, 3) := by decide +kernel
theorem dX5_well_28 : decode cX5_well 28 = .ok (.aload_n 0, 1) := by decide +kernel
theorem dX5_well_29 : decode cX5_well 29 = .ok (.getfield 52, 3) := by decide +kernel
theorem dX5_well_32 : decode cX5_well 32 = .ok (.invokevirtual 193, 3) := by decide +kernel
theorem dX5_well_35 : decode cX5_well 35 = .ok (.goto 23, 3) := by decide +kernel
theorem dX5_well_38 : decode cX5_well 38 = .ok (.aload_n 0, 1) := by decide +kernel
theorem dX5_well_39 : decode cX5_well 39 = .ok (.getfield 60, 3) := by decide +kernel
theorem dX5_well_42 : decode cX5_well 42 = .ok (.aload_n 0, 1) := by decide +kernel
theorem dX5_well_43 : decode cX5_well 43 = .ok (.getfield 16, 3) := by decide +kernel
theorem dX5_well_46 : decode cX5_well 46 = .ok (.aload_n 0, 1) := by decide +kernel
theorem dX5_well_47 : decode cX5_well 47 = .ok (.getfield 26, 3) := by decide +kernel
theorem dX5_well_50 : decode cX5_well 50 = .ok (.aload_n 0, 1) := by decide +kernel
theorem dX5_well_51 : decode cX5_well 51 = .ok (.getfield 52, 3) := by decide +kernel
theorem dX5_well_54 : decode cX5_well 54 = .ok (.iload_n 1, 1) := by decide +kernel
theorem dX5_well_55 : decode cX5_well 55 = .ok (.invokevirtual 197, 3) := by decide +kernel
theorem dX5_well_58 : decode cX5_well 58 = .ok (.ireturn, 1) := by decide +kernel
set_option maxRecDepth 20000 in
theorem ggX5_fewest_X2_fewestSet : GoodIn wsX5_fewest wsX2_fewestSet := goodIn_r _ [8, 9, 10, 11, 12, 13, 14, 15, 16, 17, 7, 18, 19, 20, 21, 22, 23, 24, 25, 26, 27, 28, 29, 30, 31, 32, 33, 34, 35, 36, 37, 38, 39, 40, 41, 42, 43, 44, 45, 46, 47, 48, 49, 50, 51, 52, 53, 54, 55, 56, 57, 58, 59, 60, 61, 62, 63, 64, 65, 66, 67, 68, 69, 70, 71, 72, 73, 74, 75, 76, 77, 78, 79, 80, 81, 82, 83, 84, 85, 86, 87, 88, 89, 90, 91, 92, 93, 94, 95, 96, 97, 98, 99, 100, 101, 102, 103, 104, 105, 106, 107, 108, 109, 110, 111, 112, 113, 114, 115, 116, 117, 118, 119, 120, 121, 122, 123, 124, 125, 126, 127, 128, 129, 130, 131, 132, 133, 134, 135, 136, 137, 138, 139, 140, 141, 142, 143, 144, 145, 146, 147, 148, 149, 150, 151, 152, 153, 154, 155, 156, 157, 158, 159, 160, 161, 162, 163, 164, 165, 166, 167, 168, 169, 170, 171, 172, 173, 174, 175, 176, 177, 190, 191, 192, 193, 194, 195, 196, 197, 198, 199, 200, 201, 202, 203, 204, 205, 206, 207, 208, 209, 210, 211, 212, 213, 214, 215, 216, 217, 218, 219, 220] (by decide +kernel) (by decide +kernel)
set_option maxRecDepth 20000 in
theorem gX5_fewest_X2_fewestSet : GoodIn wsX5_fewest (wsV RX5 201 RX2 yX2_fewestSet wsX2_fewestSet) := goodIn_app (goodIn_of _ (by decide +kernel)) ggX5_fewest_X2_fewestSet
set_option maxRecDepth 20000 in
theorem ggX5_fewest_X0_priceOfSet : GoodIn wsX5_fewest wsX0_priceOfSet := goodIn_r _ [171, 172, 12, 13, 14, 173, 174, 175, 59, 176, 177, 196, 197, 198, 199, 200, 201, 202, 203, 204, 205, 206, 207, 208, 209] (by decide +kernel) (by decide +kernel)
set_option maxRecDepth 20000 in
theorem gX5_fewest_X0_priceOfSet : GoodIn wsX5_fewest (wsV RX5 205 RX0 yX0_priceOfSet wsX0_priceOfSet) := goodIn_app (goodIn_of _ (by decide +kernel)) ggX5_fewest_X0_priceOfSet
theorem dX5_fewest_0 : decode cX5_fewest 0 = .ok (.iload_n 1, 1) := by decide +kernel
theorem dX5_fewest_1 : decode cX5_fewest 1 = .ok (.ifCond .lt 8, 3) := by decide +kernel
theorem dX5_fewest_4 : decode cX5_fewest 4 = .ok (.iload_n 1, 1) := by decide +kernel
theorem dX5_fewest_5 : decode cX5_fewest 5 = .ok (.iconst 1, 1) := by decide +kernel
theorem dX5_fewest_6 : decode cX5_fewest 6 = .ok (.if_icmp .le 5, 3) := by decide +kernel
theorem dX5_fewest_9 : decode cX5_fewest 9 = .ok (.iconst (-1), 1) := by decide +kernel
theorem dX5_fewest_10 : decode cX5_fewest 10 = .ok (.ireturn, 1) := by decide +kernel
theorem dX5_fewest_11 : decode cX5_fewest 11 = .ok (.aload_n 0, 1) := by decide +kernel
theorem dX5_fewest_12 : decode cX5_fewest 12 = .ok (.getfield 60, 3) := by decide +kernel
theorem dX5_fewest_15 : decode cX5_fewest 15 = .ok (.aload_n 0, 1) := by decide +kernel
theorem dX5_fewest_16 : decode cX5_fewest 16 = .ok (.getfield 16, 3) := by decide +kernel
theorem dX5_fewest_19 : decode cX5_fewest 19 = .ok (.aload_n 0, 1) := by decide +kernel
theorem dX5_fewest_20 : decode cX5_fewest 20 = .ok (.getfield 26, 3) := by decide +kernel
theorem dX5_fewest_23 : decode cX5_fewest 23 = .ok (.invokevirtual 201, 3) := by decide +kernel
theorem dX5_fewest_26 : decode cX5_fewest 26 = .ok (.istore_n 2, 1) := by decide +kernel
theorem dX5_fewest_27 : decode cX5_fewest 27 = .ok (.iload_n 2, 1) := by decide +kernel
theorem dX5_fewest_28 : decode cX5_fewest 28 = .ok (.ifCond .ge 6, 3) := by decide +kernel
theorem dX5_fewest_31 : decode cX5_fewest 31 = .ok (.bipush (-4), 2) := by decide +kernel
theorem dX5_fewest_33 : decode cX5_fewest 33 = .ok (.ireturn, 1) := by decide +kernel
theorem dX5_fewest_34 : decode cX5_fewest 34 = .ok (.iload_n 1, 1) := by decide +kernel
theorem dX5_fewest_35 : decode cX5_fewest 35 = .ok (.ifCond .ne 14, 3) := by decide +kernel
theorem dX5_fewest_38 : decode cX5_fewest 38 = .ok (.aload_n 0, 1) := by decide +kernel
theorem dX5_fewest_39 : decode cX5_fewest 39 = .ok (.getfield 16, 3) := by decide +kernel
theorem dX5_fewest_42 : decode cX5_fewest 42 = .ok (.iload_n 2, 1) := by decide +kernel
theorem dX5_fewest_43 : decode cX5_fewest 43 = .ok (.invokevirtual 205, 3) := by decide +kernel
theorem dX5_fewest_46 : decode cX5_fewest 46 = .ok (.goto 4, 3) := by decide +kernel
theorem dX5_fewest_49 : decode cX5_fewest 49 = .ok (.iload_n 2, 1) := by decide +kernel
theorem dX5_fewest_50 : decode cX5_fewest 50 = .ok (.ireturn, 1) := by decide +kernel
set_option maxRecDepth 20000 in
theorem ggX5_step_X0_hasTask : GoodIn wsX5_step wsX0_hasTask := goodIn_r _ [10, 11, 182, 183, 184, 185, 186, 187, 188, 189, 190, 191, 192, 193, 194, 195] (by decide +kernel) (by decide +kernel)
set_option maxRecDepth 20000 in
theorem gX5_step_X0_hasTask : GoodIn wsX5_step (wsV RX5 95 RX0 yX0_hasTask wsX0_hasTask) := goodIn_app (goodIn_of _ (by decide +kernel)) ggX5_step_X0_hasTask
set_option maxRecDepth 20000 in
theorem ggX5_step_X4_packed : GoodIn wsX5_step wsX4_packed := goodIn_r _ [16, 17, 18, 19, 20, 21, 22, 196, 197, 198, 199, 200, 201] (by decide +kernel) (by decide +kernel)
set_option maxRecDepth 20000 in
theorem gX5_step_X4_packed : GoodIn wsX5_step (wsV RX5 144 RX4 yX4_packed wsX4_packed) := goodIn_app (goodIn_of _ (by decide +kernel)) ggX5_step_X4_packed
set_option maxRecDepth 20000 in
theorem ggX5_step_X4_unpack : GoodIn wsX5_step wsX4_unpack := goodIn_r _ [26, 17, 18, 19, 20, 21, 22, 196, 197, 198, 199, 200, 201] (by decide +kernel) (by decide +kernel)
set_option maxRecDepth 20000 in
theorem gX5_step_X4_unpack : GoodIn wsX5_step (wsV RX5 186 RX4 yX4_unpack wsX4_unpack) := goodIn_app (goodIn_of _ (by decide +kernel)) ggX5_step_X4_unpack
set_option maxRecDepth 20000 in
theorem ggX5_step_X4_tryRide : GoodIn wsX5_step wsX4_tryRide := goodIn_r _ [30, 20, 22, 18, 17, 31, 32, 33, 15, 34, 35, 36, 37, 38, 39, 40, 41, 42, 43, 44, 45, 46, 47, 48, 49, 9, 50, 51, 52, 53, 54, 55, 19, 56, 57, 58, 59, 60, 61, 62, 63, 64, 65, 66, 67, 68, 69, 70, 71, 72, 73, 74, 75, 76, 77, 78, 79, 80, 81, 196, 197, 198, 199, 200, 201, 182, 183, 184, 185, 186, 187, 188, 189, 190, 191, 192, 193, 194, 195] (by decide +kernel) (by decide +kernel)
set_option maxRecDepth 20000 in
theorem gX5_step_X4_tryRide : GoodIn wsX5_step (wsV RX5 159 RX4 yX4_tryRide wsX4_tryRide) := goodIn_app (goodIn_of _ (by decide +kernel)) ggX5_step_X4_tryRide
set_option maxRecDepth 20000 in
theorem ggX5_step_X2_waysOf : GoodIn wsX5_step wsX2_waysOf := goodIn_r _ [86, 87, 88, 89, 90, 85, 91, 92, 93, 94, 95, 96, 97, 98, 99, 100, 101, 13, 14, 15, 16, 17, 18, 19, 20, 21, 22, 102, 24, 25, 26, 103, 104, 105, 106, 107, 40, 41, 42, 43, 44, 45, 46, 77, 78, 79, 9, 80, 81, 108, 109, 110, 111, 11, 112, 73, 74, 75, 76, 113, 53, 54, 55, 114, 115, 116, 117, 118, 119, 120, 121, 122, 123, 124, 125, 126, 127, 128, 129, 65, 66, 67, 68, 130, 131, 132, 133, 134, 48, 49, 50, 51, 135, 57, 58, 59, 60, 136, 137, 138, 139, 140, 141, 142, 143, 144, 145, 146, 147, 148, 149, 150, 151, 152, 153, 154, 155, 156, 157, 158, 159, 160, 161, 162, 163, 164, 165, 166, 28, 29, 30, 31, 32, 33, 34, 35, 36, 37, 38, 39, 47, 52, 56, 61, 62, 63, 64, 69, 70, 71, 72, 167, 168, 169, 170, 202, 203, 204, 205, 206, 207, 208, 209, 196, 197, 198, 199, 200, 201, 182, 183, 184, 185, 186, 187, 188, 189, 190, 191, 192, 193, 194, 195, 210, 211, 212] (by decide +kernel) (by decide +kernel)
set_option maxRecDepth 20000 in
theorem gX5_step_X2_waysOf : GoodIn wsX5_step (wsV RX5 193 RX2 yX2_waysOf wsX2_waysOf) := goodIn_app (goodIn_of _ (by decide +kernel)) ggX5_step_X2_waysOf
theorem dX5_step_0 : decode cX5_step 0 = .ok (.aload_n 0, 1) := by decide +kernel
theorem dX5_step_1 : decode cX5_step 1 = .ok (.getfield 16, 3) := by decide +kernel
theorem dX5_step_4 : decode cX5_step 4 = .ok (.iload_n 1, 1) := by decide +kernel
theorem dX5_step_5 : decode cX5_step 5 = .ok (.invokevirtual 95, 3) := by decide +kernel
theorem dX5_step_8 : decode cX5_step 8 = .ok (.ifCond .ne 5, 3) := by decide +kernel
theorem dX5_step_11 : decode cX5_step 11 = .ok (.iconst (-1), 1) := by decide +kernel
theorem dX5_step_12 : decode cX5_step 12 = .ok (.ireturn, 1) := by decide +kernel
theorem dX5_step_13 : decode cX5_step 13 = .ok (.aload_n 0, 1) := by decide +kernel
theorem dX5_step_14 : decode cX5_step 14 = .ok (.getfield 30, 3) := by decide +kernel
theorem dX5_step_17 : decode cX5_step 17 = .ok (.aload_n 0, 1) := by decide +kernel
theorem dX5_step_18 : decode cX5_step 18 = .ok (.getfield 26, 3) := by decide +kernel
theorem dX5_step_21 : decode cX5_step 21 = .ok (.invokevirtual 144, 3) := by decide +kernel
theorem dX5_step_24 : decode cX5_step 24 = .ok (.invokevirtual 186, 3) := by decide +kernel
theorem dX5_step_27 : decode cX5_step 27 = .ok (.aload_n 0, 1) := by decide +kernel
theorem dX5_step_28 : decode cX5_step 28 = .ok (.getfield 30, 3) := by decide +kernel
theorem dX5_step_31 : decode cX5_step 31 = .ok (.aload_n 0, 1) := by decide +kernel
theorem dX5_step_32 : decode cX5_step 32 = .ok (.getfield 16, 3) := by decide +kernel
theorem dX5_step_35 : decode cX5_step 35 = .ok (.iload_n 1, 1) := by decide +kernel
theorem dX5_step_36 : decode cX5_step 36 = .ok (.invokevirtual 159, 3) := by decide +kernel
theorem dX5_step_39 : decode cX5_step 39 = .ok (.ifCond .ne 5, 3) := by decide +kernel
theorem dX5_step_42 : decode cX5_step 42 = .ok (.iconst 0, 1) := by decide +kernel
theorem dX5_step_43 : decode cX5_step 43 = .ok (.ireturn, 1) := by decide +kernel
theorem dX5_step_44 : decode cX5_step 44 = .ok (.aload_n 0, 1) := by decide +kernel
theorem dX5_step_45 : decode cX5_step 45 = .ok (.getfield 60, 3) := by decide +kernel
theorem dX5_step_48 : decode cX5_step 48 = .ok (.aload_n 0, 1) := by decide +kernel
theorem dX5_step_49 : decode cX5_step 49 = .ok (.getfield 16, 3) := by decide +kernel
theorem dX5_step_52 : decode cX5_step 52 = .ok (.aload_n 0, 1) := by decide +kernel
theorem dX5_step_53 : decode cX5_step 53 = .ok (.getfield 30, 3) := by decide +kernel
theorem dX5_step_56 : decode cX5_step 56 = .ok (.aload_n 0, 1) := by decide +kernel
theorem dX5_step_57 : decode cX5_step 57 = .ok (.getfield 52, 3) := by decide +kernel
theorem dX5_step_60 : decode cX5_step 60 = .ok (.invokevirtual 193, 3) := by decide +kernel
theorem dX5_step_63 : decode cX5_step 63 = .ok (.ireturn, 1) := by decide +kernel
set_option maxRecDepth 20000 in
theorem ggX5_worth_X0_hasHelper : GoodIn wsX5_worth wsX0_hasHelper := goodIn_r _ [15, 16, 215, 216, 217, 218, 219, 220, 221, 222, 223, 224, 225, 226, 227, 228] (by decide +kernel) (by decide +kernel)
set_option maxRecDepth 20000 in
theorem gX5_worth_X0_hasHelper : GoodIn wsX5_worth (wsV RX5 129 RX0 yX0_hasHelper wsX0_hasHelper) := goodIn_app (goodIn_of _ (by decide +kernel)) ggX5_worth_X0_hasHelper
set_option maxRecDepth 20000 in
theorem ggX5_worth_X5_bit : GoodIn wsX5_worth wsX5_bit := goodIn_r _ [20] (by decide +kernel) (by decide +kernel)
set_option maxRecDepth 20000 in
theorem gX5_worth_X5_bit : GoodIn wsX5_worth (va_wsS RX5 115 yX5_bit wsX5_bit) := goodIn_app (goodIn_of _ (by decide +kernel)) ggX5_worth_X5_bit
set_option maxRecDepth 20000 in
theorem ggX5_worth_X4_packed : GoodIn wsX5_worth wsX4_packed := goodIn_r _ [25, 26, 27, 28, 29, 30, 31, 209, 210, 211, 212, 213, 214] (by decide +kernel) (by decide +kernel)
set_option maxRecDepth 20000 in
theorem gX5_worth_X4_packed : GoodIn wsX5_worth (wsV RX5 144 RX4 yX4_packed wsX4_packed) := goodIn_app (goodIn_of _ (by decide +kernel)) ggX5_worth_X4_packed
set_option maxRecDepth 20000 in
theorem ggX5_worth_X4_unpack : GoodIn wsX5_worth wsX4_unpack := goodIn_r _ [35, 26, 27, 28, 29, 30, 31, 209, 210, 211, 212, 213, 214] (by decide +kernel) (by decide +kernel)
set_option maxRecDepth 20000 in
theorem gX5_worth_X4_unpack : GoodIn wsX5_worth (wsV RX5 186 RX4 yX4_unpack wsX4_unpack) := goodIn_app (goodIn_of _ (by decide +kernel)) ggX5_worth_X4_unpack
set_option maxRecDepth 20000 in
theorem ggX5_worth_X2_waysOf : GoodIn wsX5_worth wsX2_waysOf := goodIn_r _ [40, 41, 42, 43, 44, 39, 45, 46, 47, 48, 49, 50, 51, 52, 53, 54, 55, 22, 23, 24, 25, 26, 27, 28, 29, 30, 31, 56, 33, 34, 35, 57, 58, 59, 60, 61, 62, 63, 64, 65, 18, 19, 20, 66, 67, 68, 14, 69, 70, 71, 72, 73, 74, 75, 76, 77, 78, 79, 80, 81, 82, 83, 84, 85, 86, 87, 88, 89, 90, 91, 92, 93, 94, 95, 96, 97, 98, 99, 100, 101, 102, 103, 104, 105, 106, 107, 108, 109, 110, 111, 112, 113, 114, 115, 116, 117, 118, 119, 120, 121, 122, 123, 124, 125, 126, 127, 128, 129, 130, 131, 132, 133, 134, 135, 136, 137, 138, 139, 140, 141, 142, 143, 144, 145, 146, 147, 148, 149, 150, 151, 152, 153, 154, 155, 156, 157, 158, 159, 160, 161, 162, 163, 164, 165, 166, 167, 168, 169, 170, 171, 172, 173, 174, 175, 176, 229, 230, 231, 232, 233, 234, 235, 236, 209, 210, 211, 212, 213, 214, 215, 216, 217, 218, 219, 220, 221, 222, 223, 224, 225, 226, 227, 228, 237, 238, 239] (by decide +kernel) (by decide +kernel)
set_option maxRecDepth 20000 in
theorem gX5_worth_X2_waysOf : GoodIn wsX5_worth (wsV RX5 193 RX2 yX2_waysOf wsX2_waysOf) := goodIn_app (goodIn_of _ (by decide +kernel)) ggX5_worth_X2_waysOf
set_option maxRecDepth 20000 in
theorem ggX5_worth_X2_fewestSet : GoodIn wsX5_worth wsX2_fewestSet := goodIn_r _ [180, 181, 182, 51, 18, 19, 20, 183, 184, 185, 39, 186, 187, 42, 43, 44, 45, 46, 47, 48, 49, 50, 52, 53, 54, 55, 22, 23, 24, 25, 26, 27, 28, 29, 30, 31, 56, 33, 34, 35, 57, 58, 59, 60, 61, 62, 63, 64, 65, 66, 67, 68, 14, 69, 70, 71, 72, 73, 74, 75, 76, 77, 78, 79, 80, 81, 82, 83, 84, 85, 86, 87, 88, 89, 90, 91, 92, 93, 94, 95, 96, 97, 98, 99, 100, 101, 102, 103, 104, 105, 106, 107, 108, 109, 110, 111, 112, 113, 114, 115, 116, 117, 118, 119, 120, 121, 122, 123, 124, 125, 126, 127, 128, 129, 130, 131, 132, 133, 134, 135, 136, 137, 138, 139, 140, 141, 142, 143, 144, 145, 146, 147, 148, 149, 150, 151, 152, 153, 154, 155, 156, 157, 158, 159, 160, 161, 162, 163, 164, 165, 166, 167, 168, 169, 170, 171, 172, 173, 174, 175, 176, 188, 189, 190, 191, 16, 192, 193, 194, 195, 196, 209, 210, 211, 212, 213, 214, 215, 216, 217, 218, 219, 220, 221, 222, 223, 224, 225, 226, 227, 228, 229, 230, 231, 232, 233, 234, 235, 236, 237, 238, 239] (by decide +kernel) (by decide +kernel)
set_option maxRecDepth 20000 in
theorem gX5_worth_X2_fewestSet : GoodIn wsX5_worth (wsV RX5 201 RX2 yX2_fewestSet wsX2_fewestSet) := goodIn_app (goodIn_of _ (by decide +kernel)) ggX5_worth_X2_fewestSet
set_option maxRecDepth 20000 in
theorem ggX5_worth_X0_priceOfSet : GoodIn wsX5_worth wsX0_priceOfSet := goodIn_r _ [191, 16, 18, 19, 20, 192, 193, 194, 14, 195, 196, 215, 216, 217, 218, 219, 220, 221, 222, 223, 224, 225, 226, 227, 228] (by decide +kernel) (by decide +kernel)
set_option maxRecDepth 20000 in
theorem gX5_worth_X0_priceOfSet : GoodIn wsX5_worth (wsV RX5 205 RX0 yX0_priceOfSet wsX0_priceOfSet) := goodIn_app (goodIn_of _ (by decide +kernel)) ggX5_worth_X0_priceOfSet
theorem dX5_worth_0 : decode cX5_worth 0 = .ok (.aload_n 0, 1) := by decide +kernel
theorem dX5_worth_1 : decode cX5_worth 1 = .ok (.getfield 16, 3) := by decide +kernel
theorem dX5_worth_4 : decode cX5_worth 4 = .ok (.iload_n 1, 1) := by decide +kernel
theorem dX5_worth_5 : decode cX5_worth 5 = .ok (.invokevirtual 129, 3) := by decide +kernel
theorem dX5_worth_8 : decode cX5_worth 8 = .ok (.ifCond .eq 12, 3) := by decide +kernel
theorem dX5_worth_11 : decode cX5_worth 11 = .ok (.iload_n 2, 1) := by decide +kernel
theorem dX5_worth_12 : decode cX5_worth 12 = .ok (.ifCond .lt 8, 3) := by decide +kernel
theorem dX5_worth_15 : decode cX5_worth 15 = .ok (.iload_n 2, 1) := by decide +kernel
theorem dX5_worth_16 : decode cX5_worth 16 = .ok (.iconst 1, 1) := by decide +kernel
theorem dX5_worth_17 : decode cX5_worth 17 = .ok (.if_icmp .le 5, 3) := by decide +kernel
theorem dX5_worth_20 : decode cX5_worth 20 = .ok (.iconst (-1), 1) := by decide +kernel
theorem dX5_worth_21 : decode cX5_worth 21 = .ok (.ireturn, 1) := by decide +kernel
theorem dX5_worth_22 : decode cX5_worth 22 = .ok (.aload_n 0, 1) := by decide +kernel
theorem dX5_worth_23 : decode cX5_worth 23 = .ok (.getfield 26, 3) := by decide +kernel
theorem dX5_worth_26 : decode cX5_worth 26 = .ok (.getfield 138, 3) := by decide +kernel
theorem dX5_worth_29 : decode cX5_worth 29 = .ok (.iload_n 1, 1) := by decide +kernel
theorem dX5_worth_30 : decode cX5_worth 30 = .ok (.invokestatic 115, 3) := by decide +kernel
theorem dX5_worth_33 : decode cX5_worth 33 = .ok (.iand, 1) := by decide +kernel
theorem dX5_worth_34 : decode cX5_worth 34 = .ok (.ifCond .eq 6, 3) := by decide +kernel
theorem dX5_worth_37 : decode cX5_worth 37 = .ok (.bipush (-2), 2) := by decide +kernel
theorem dX5_worth_39 : decode cX5_worth 39 = .ok (.ireturn, 1) := by decide +kernel
theorem dX5_worth_40 : decode cX5_worth 40 = .ok (.aload_n 0, 1) := by decide +kernel
theorem dX5_worth_41 : decode cX5_worth 41 = .ok (.getfield 30, 3) := by decide +kernel
theorem dX5_worth_44 : decode cX5_worth 44 = .ok (.aload_n 0, 1) := by decide +kernel
theorem dX5_worth_45 : decode cX5_worth 45 = .ok (.getfield 26, 3) := by decide +kernel
theorem dX5_worth_48 : decode cX5_worth 48 = .ok (.invokevirtual 144, 3) := by decide +kernel
theorem dX5_worth_51 : decode cX5_worth 51 = .ok (.invokevirtual 186, 3) := by decide +kernel
theorem dX5_worth_54 : decode cX5_worth 54 = .ok (.aload_n 0, 1) := by decide +kernel
theorem dX5_worth_55 : decode cX5_worth 55 = .ok (.getfield 30, 3) := by decide +kernel
theorem dX5_worth_58 : decode cX5_worth 58 = .ok (.dup, 1) := by decide +kernel
theorem dX5_worth_59 : decode cX5_worth 59 = .ok (.getfield 138, 3) := by decide +kernel
theorem dX5_worth_62 : decode cX5_worth 62 = .ok (.iload_n 1, 1) := by decide +kernel
theorem dX5_worth_63 : decode cX5_worth 63 = .ok (.invokestatic 115, 3) := by decide +kernel
theorem dX5_worth_66 : decode cX5_worth 66 = .ok (.ior, 1) := by decide +kernel
theorem dX5_worth_67 : decode cX5_worth 67 = .ok (.putfield 138, 3) := by decide +kernel
theorem dX5_worth_70 : decode cX5_worth 70 = .ok (.iload_n 2, 1) := by decide +kernel
theorem dX5_worth_71 : decode cX5_worth 71 = .ok (.ifCond .ne 49, 3) := by decide +kernel
theorem dX5_worth_74 : decode cX5_worth 74 = .ok (.aload_n 0, 1) := by decide +kernel
theorem dX5_worth_75 : decode cX5_worth 75 = .ok (.getfield 60, 3) := by decide +kernel
theorem dX5_worth_78 : decode cX5_worth 78 = .ok (.aload_n 0, 1) := by decide +kernel
theorem dX5_worth_79 : decode cX5_worth 79 = .ok (.getfield 16, 3) := by decide +kernel
theorem dX5_worth_82 : decode cX5_worth 82 = .ok (.aload_n 0, 1) := by decide +kernel
theorem dX5_worth_83 : decode cX5_worth 83 = .ok (.getfield 26, 3) := by decide +kernel
theorem dX5_worth_86 : decode cX5_worth 86 = .ok (.aload_n 0, 1) := by decide +kernel
theorem dX5_worth_87 : decode cX5_worth 87 = .ok (.getfield 52, 3) := by decide +kernel
theorem dX5_worth_90 : decode cX5_worth 90 = .ok (.invokevirtual 193, 3) := by decide +kernel
theorem dX5_worth_93 : decode cX5_worth 93 = .ok (.istore_n 3, 1) := by decide +kernel
theorem dX5_worth_94 : decode cX5_worth 94 = .ok (.iconst 0, 1) := by decide +kernel
theorem dX5_worth_95 : decode cX5_worth 95 = .ok (.aload_n 0, 1) := by decide +kernel
theorem dX5_worth_96 : decode cX5_worth 96 = .ok (.getfield 60, 3) := by decide +kernel
theorem dX5_worth_99 : decode cX5_worth 99 = .ok (.aload_n 0, 1) := by decide +kernel
theorem dX5_worth_100 : decode cX5_worth 100 = .ok (.getfield 16, 3) := by decide +kernel
theorem dX5_worth_103 : decode cX5_worth 103 = .ok (.aload_n 0, 1) := by decide +kernel
theorem dX5_worth_104 : decode cX5_worth 104 = .ok (.getfield 30, 3) := by decide +kernel
theorem dX5_worth_107 : decode cX5_worth 107 = .ok (.aload_n 0, 1) := by decide +kernel
theorem dX5_worth_108 : decode cX5_worth 108 = .ok (.getfield 52, 3) := by decide +kernel
theorem dX5_worth_111 : decode cX5_worth 111 = .ok (.invokevirtual 193, 3) := by decide +kernel
theorem dX5_worth_114 : decode cX5_worth 114 = .ok (.iload_n 3, 1) := by decide +kernel
theorem dX5_worth_115 : decode cX5_worth 115 = .ok (.isub, 1) := by decide +kernel
theorem dX5_worth_116 : decode cX5_worth 116 = .ok (.invokestatic 208, 3) := by decide +kernel
theorem dX5_worth_119 : decode cX5_worth 119 = .ok (.ireturn, 1) := by decide +kernel
theorem dX5_worth_120 : decode cX5_worth 120 = .ok (.aload_n 0, 1) := by decide +kernel
theorem dX5_worth_121 : decode cX5_worth 121 = .ok (.getfield 60, 3) := by decide +kernel
theorem dX5_worth_124 : decode cX5_worth 124 = .ok (.aload_n 0, 1) := by decide +kernel
theorem dX5_worth_125 : decode cX5_worth 125 = .ok (.getfield 16, 3) := by decide +kernel
theorem dX5_worth_128 : decode cX5_worth 128 = .ok (.aload_n 0, 1) := by decide +kernel
theorem dX5_worth_129 : decode cX5_worth 129 = .ok (.getfield 26, 3) := by decide +kernel
theorem dX5_worth_132 : decode cX5_worth 132 = .ok (.invokevirtual 201, 3) := by decide +kernel
theorem dX5_worth_135 : decode cX5_worth 135 = .ok (.istore_n 3, 1) := by decide +kernel
theorem dX5_worth_136 : decode cX5_worth 136 = .ok (.aload_n 0, 1) := by decide +kernel
theorem dX5_worth_137 : decode cX5_worth 137 = .ok (.getfield 60, 3) := by decide +kernel
theorem dX5_worth_140 : decode cX5_worth 140 = .ok (.aload_n 0, 1) := by decide +kernel
theorem dX5_worth_141 : decode cX5_worth 141 = .ok (.getfield 16, 3) := by decide +kernel
theorem dX5_worth_144 : decode cX5_worth 144 = .ok (.aload_n 0, 1) := by decide +kernel
theorem dX5_worth_145 : decode cX5_worth 145 = .ok (.getfield 30, 3) := by decide +kernel
theorem dX5_worth_148 : decode cX5_worth 148 = .ok (.invokevirtual 201, 3) := by decide +kernel
theorem dX5_worth_151 : decode cX5_worth 151 = .ok (.istore 4, 2) := by decide +kernel
theorem dX5_worth_153 : decode cX5_worth 153 = .ok (.iload_n 3, 1) := by decide +kernel
theorem dX5_worth_154 : decode cX5_worth 154 = .ok (.ifCond .lt 8, 3) := by decide +kernel
theorem dX5_worth_157 : decode cX5_worth 157 = .ok (.iload 4, 2) := by decide +kernel
theorem dX5_worth_159 : decode cX5_worth 159 = .ok (.ifCond .ge 6, 3) := by decide +kernel
theorem dX5_worth_162 : decode cX5_worth 162 = .ok (.bipush (-4), 2) := by decide +kernel
theorem dX5_worth_164 : decode cX5_worth 164 = .ok (.ireturn, 1) := by decide +kernel
theorem dX5_worth_165 : decode cX5_worth 165 = .ok (.aload_n 0, 1) := by decide +kernel
theorem dX5_worth_166 : decode cX5_worth 166 = .ok (.getfield 16, 3) := by decide +kernel
theorem dX5_worth_169 : decode cX5_worth 169 = .ok (.iload_n 3, 1) := by decide +kernel
theorem dX5_worth_170 : decode cX5_worth 170 = .ok (.invokevirtual 205, 3) := by decide +kernel
theorem dX5_worth_173 : decode cX5_worth 173 = .ok (.aload_n 0, 1) := by decide +kernel
theorem dX5_worth_174 : decode cX5_worth 174 = .ok (.getfield 16, 3) := by decide +kernel
theorem dX5_worth_177 : decode cX5_worth 177 = .ok (.iload 4, 2) := by decide +kernel
theorem dX5_worth_179 : decode cX5_worth 179 = .ok (.invokevirtual 205, 3) := by decide +kernel
theorem dX5_worth_182 : decode cX5_worth 182 = .ok (.isub, 1) := by decide +kernel
theorem dX5_worth_183 : decode cX5_worth 183 = .ok (.ireturn, 1) := by decide +kernel
set_option maxRecDepth 20000 in
theorem ggX5_see_X0_hasTask : GoodIn wsX5_see wsX0_hasTask := goodIn_r _ [8, 9, 43, 44, 45, 46, 47, 48, 49, 50, 51, 52, 53, 54, 55, 56] (by decide +kernel) (by decide +kernel)
set_option maxRecDepth 20000 in
theorem gX5_see_X0_hasTask : GoodIn wsX5_see (wsV RX5 95 RX0 yX0_hasTask wsX0_hasTask) := goodIn_app (goodIn_of _ (by decide +kernel)) ggX5_see_X0_hasTask
set_option maxRecDepth 20000 in
theorem ggX5_see_X3_add : GoodIn wsX5_see wsX3_add := goodIn_r _ [14, 15, 16, 17, 18, 19, 20, 21, 22, 23, 24, 25, 26, 27, 28, 40, 41, 42] (by decide +kernel) (by decide +kernel)
set_option maxRecDepth 20000 in
theorem gX5_see_X3_add : GoodIn wsX5_see (wsV RX5 215 RX3 yX3_add wsX3_add) := goodIn_app (goodIn_of _ (by decide +kernel)) ggX5_see_X3_add
theorem dX5_see_0 : decode cX5_see 0 = .ok (.aload_n 0, 1) := by decide +kernel
theorem dX5_see_1 : decode cX5_see 1 = .ok (.getfield 16, 3) := by decide +kernel
theorem dX5_see_4 : decode cX5_see 4 = .ok (.iload_n 1, 1) := by decide +kernel
theorem dX5_see_5 : decode cX5_see 5 = .ok (.invokevirtual 95, 3) := by decide +kernel
theorem dX5_see_8 : decode cX5_see 8 = .ok (.ifCond .eq 14, 3) := by decide +kernel
theorem dX5_see_11 : decode cX5_see 11 = .ok (.iload_n 2, 1) := by decide +kernel
theorem dX5_see_12 : decode cX5_see 12 = .ok (.iconst 1, 1) := by decide +kernel
theorem dX5_see_13 : decode cX5_see 13 = .ok (.if_icmp .lt 9, 3) := by decide +kernel
theorem dX5_see_16 : decode cX5_see 16 = .ok (.iload_n 2, 1) := by decide +kernel
theorem dX5_see_17 : decode cX5_see 17 = .ok (.bipush 8, 2) := by decide +kernel
theorem dX5_see_19 : decode cX5_see 19 = .ok (.if_icmp .le 5, 3) := by decide +kernel
theorem dX5_see_22 : decode cX5_see 22 = .ok (.iconst (-1), 1) := by decide +kernel
theorem dX5_see_23 : decode cX5_see 23 = .ok (.ireturn, 1) := by decide +kernel
theorem dX5_see_24 : decode cX5_see 24 = .ok (.aload_n 0, 1) := by decide +kernel
theorem dX5_see_25 : decode cX5_see 25 = .ok (.getfield 48, 3) := by decide +kernel
theorem dX5_see_28 : decode cX5_see 28 = .ok (.getfield 214, 3) := by decide +kernel
theorem dX5_see_31 : decode cX5_see 31 = .ok (.bipush 6, 2) := by decide +kernel
theorem dX5_see_33 : decode cX5_see 33 = .ok (.if_icmp .lt 6, 3) := by decide +kernel
theorem dX5_see_36 : decode cX5_see 36 = .ok (.bipush (-3), 2) := by decide +kernel
theorem dX5_see_38 : decode cX5_see 38 = .ok (.ireturn, 1) := by decide +kernel
theorem dX5_see_39 : decode cX5_see 39 = .ok (.aload_n 0, 1) := by decide +kernel
theorem dX5_see_40 : decode cX5_see 40 = .ok (.getfield 48, 3) := by decide +kernel
theorem dX5_see_43 : decode cX5_see 43 = .ok (.iload_n 1, 1) := by decide +kernel
theorem dX5_see_44 : decode cX5_see 44 = .ok (.iload_n 2, 1) := by decide +kernel
theorem dX5_see_45 : decode cX5_see 45 = .ok (.invokevirtual 215, 3) := by decide +kernel
theorem dX5_see_48 : decode cX5_see 48 = .ok (.aload_n 0, 1) := by decide +kernel
theorem dX5_see_49 : decode cX5_see 49 = .ok (.getfield 48, 3) := by decide +kernel
theorem dX5_see_52 : decode cX5_see 52 = .ok (.getfield 214, 3) := by decide +kernel
theorem dX5_see_55 : decode cX5_see 55 = .ok (.ireturn, 1) := by decide +kernel
set_option maxRecDepth 20000 in
theorem ggX5_forget_X3_clear : GoodIn wsX5_forget wsX3_clear := goodIn_r _ [7, 8, 9, 10, 11, 12, 13, 25, 26, 27] (by decide +kernel) (by decide +kernel)
set_option maxRecDepth 20000 in
theorem gX5_forget_X3_clear : GoodIn wsX5_forget (wsV RX5 91 RX3 yX3_clear wsX3_clear) := goodIn_app (goodIn_of _ (by decide +kernel)) ggX5_forget_X3_clear
theorem dX5_forget_0 : decode cX5_forget 0 = .ok (.aload_n 0, 1) := by decide +kernel
theorem dX5_forget_1 : decode cX5_forget 1 = .ok (.getfield 48, 3) := by decide +kernel
theorem dX5_forget_4 : decode cX5_forget 4 = .ok (.getfield 214, 3) := by decide +kernel
theorem dX5_forget_7 : decode cX5_forget 7 = .ok (.istore_n 1, 1) := by decide +kernel
theorem dX5_forget_8 : decode cX5_forget 8 = .ok (.aload_n 0, 1) := by decide +kernel
theorem dX5_forget_9 : decode cX5_forget 9 = .ok (.getfield 48, 3) := by decide +kernel
theorem dX5_forget_12 : decode cX5_forget 12 = .ok (.invokevirtual 91, 3) := by decide +kernel
theorem dX5_forget_15 : decode cX5_forget 15 = .ok (.iload_n 1, 1) := by decide +kernel
theorem dX5_forget_16 : decode cX5_forget 16 = .ok (.ireturn, 1) := by decide +kernel
set_option maxRecDepth 20000 in
theorem ggX5_rows_X2_waysOf : GoodIn wsX5_rows wsX2_waysOf := goodIn_r _ [9, 10, 11, 12, 13, 8, 14, 15, 16, 17, 18, 19, 20, 21, 22, 23, 24, 25, 26, 27, 28, 29, 30, 31, 32, 33, 34, 35, 36, 37, 38, 39, 40, 41, 42, 43, 44, 45, 46, 47, 48, 49, 50, 51, 52, 53, 54, 55, 56, 57, 58, 59, 60, 61, 62, 63, 64, 65, 66, 67, 68, 69, 70, 71, 72, 73, 74, 75, 76, 77, 78, 79, 80, 81, 82, 83, 84, 85, 86, 87, 88, 89, 90, 91, 92, 93, 94, 95, 96, 97, 98, 99, 100, 101, 102, 103, 104, 105, 106, 107, 108, 109, 110, 111, 112, 113, 114, 115, 116, 117, 118, 119, 120, 121, 122, 123, 124, 125, 126, 127, 128, 129, 130, 131, 132, 133, 134, 135, 136, 137, 138, 139, 140, 141, 142, 143, 144, 145, 146, 147, 148, 149, 150, 151, 152, 153, 154, 155, 156, 157, 158, 159, 160, 161, 162, 182, 183, 184, 185, 186, 187, 188, 189, 190, 191, 192, 193, 194, 195, 196, 197, 198, 199, 200, 201, 202, 203, 204, 205, 206, 207, 208, 209, 210, 211, 212] (by decide +kernel) (by decide +kernel)
set_option maxRecDepth 20000 in
theorem gX5_rows_X2_waysOf : GoodIn wsX5_rows (wsV RX5 193 RX2 yX2_waysOf wsX2_waysOf) := goodIn_app (goodIn_of _ (by decide +kernel)) ggX5_rows_X2_waysOf
set_option maxRecDepth 20000 in
theorem ggX5_rows_X2_placeInFirst : GoodIn wsX5_rows wsX2_placeInFirst := goodIn_r _ [166, 11, 12, 13, 8, 14, 15, 16, 17, 18, 19, 20, 21, 22, 23, 24, 25, 26, 27, 28, 29, 30, 31, 32, 33, 34, 35, 36, 37, 38, 39, 40, 41, 42, 43, 44, 45, 46, 47, 48, 49, 50, 51, 52, 53, 54, 55, 56, 57, 58, 59, 60, 61, 62, 63, 64, 65, 66, 67, 68, 69, 70, 71, 72, 73, 74, 75, 76, 77, 78, 79, 80, 81, 82, 83, 84, 85, 86, 87, 88, 89, 90, 91, 92, 93, 94, 95, 96, 97, 98, 99, 100, 101, 102, 103, 104, 167, 168, 169, 170, 128, 129, 130, 114, 131, 132, 133, 134, 135, 136, 137, 138, 139, 140, 141, 142, 143, 144, 145, 146, 147, 148, 149, 150, 151, 152, 153, 154, 155, 156, 157, 158, 105, 106, 107, 108, 109, 110, 111, 112, 113, 115, 116, 117, 118, 119, 120, 121, 122, 123, 124, 125, 126, 127, 159, 160, 161, 162, 182, 183, 184, 185, 186, 187, 188, 189, 190, 191, 192, 193, 194, 195, 196, 197, 198, 199, 200, 201, 202, 203, 204, 205, 206, 207, 208, 209, 210, 211, 212] (by decide +kernel) (by decide +kernel)
set_option maxRecDepth 20000 in
theorem gX5_rows_X2_placeInFirst : GoodIn wsX5_rows (wsV RX5 197 RX2 yX2_placeInFirst wsX2_placeInFirst) := goodIn_app (goodIn_of _ (by decide +kernel)) ggX5_rows_X2_placeInFirst
theorem dX5_rows_0 : decode cX5_rows 0 = .ok (.iload_n 1, 1) := by decide +kernel
theorem dX5_rows_1 : decode cX5_rows 1 = .ok (.ifCond .lt 9, 3) := by decide +kernel
theorem dX5_rows_4 : decode cX5_rows 4 = .ok (.iload_n 1, 1) := by decide +kernel
theorem dX5_rows_5 : decode cX5_rows 5 = .ok (.bipush 8, 2) := by decide +kernel
theorem dX5_rows_7 : decode cX5_rows 7 = .ok (.if_icmp .le 5, 3) := by decide +kernel
theorem dX5_rows_10 : decode cX5_rows 10 = .ok (.iconst (-1), 1) := by decide +kernel
theorem dX5_rows_11 : decode cX5_rows 11 = .ok (.ireturn, 1) := by decide +kernel
theorem dX5_rows_12 : decode cX5_rows 12 = .ok (.iload_n 1, 1) := by decide +kernel
theorem dX5_rows_13 : decode cX5_rows 13 = .ok (.ifCond .ne 25, 3) := by decide +kernel
theorem dX5_rows_16 : decode cX5_rows 16 = .ok (.aload_n 0, 1) := by decide +kernel
theorem dX5_rows_17 : decode cX5_rows 17 = .ok (.getfield 60, 3) := by decide +kernel
theorem dX5_rows_20 : decode cX5_rows 20 = .ok (.aload_n 0, 1) := by decide +kernel
theorem dX5_rows_21 : decode cX5_rows 21 = .ok (.getfield 16, 3) := by decide +kernel
theorem dX5_rows_24 : decode cX5_rows 24 = .ok (.aload_n 0, 1) := by decide +kernel
theorem dX5_rows_25 : decode cX5_rows 25 = .ok (.getfield 26, 3) := by decide +kernel
theorem dX5_rows_28 : decode cX5_rows 28 = .ok (.aload_n 0, 1) := by decide +kernel
theorem dX5_rows_29 : decode cX5_rows 29 = .ok (.getfield 48, 3) := by decide +kernel
theorem dX5_rows_32 : decode cX5_rows 32 = .ok (.invokevirtual 193, 3) := by decide +kernel
theorem dX5_rows_35 : decode cX5_rows 35 = .ok (.goto 23, 3) := by decide +kernel
theorem dX5_rows_38 : decode cX5_rows 38 = .ok (.aload_n 0, 1) := by decide +kernel
theorem dX5_rows_39 : decode cX5_rows 39 = .ok (.getfield 60, 3) := by decide +kernel
theorem dX5_rows_42 : decode cX5_rows 42 = .ok (.aload_n 0, 1) := by decide +kernel
theorem dX5_rows_43 : decode cX5_rows 43 = .ok (.getfield 16, 3) := by decide +kernel
theorem dX5_rows_46 : decode cX5_rows 46 = .ok (.aload_n 0, 1) := by decide +kernel
theorem dX5_rows_47 : decode cX5_rows 47 = .ok (.getfield 26, 3) := by decide +kernel
theorem dX5_rows_50 : decode cX5_rows 50 = .ok (.aload_n 0, 1) := by decide +kernel
theorem dX5_rows_51 : decode cX5_rows 51 = .ok (.getfield 48, 3) := by decide +kernel
theorem dX5_rows_54 : decode cX5_rows 54 = .ok (.iload_n 1, 1) := by decide +kernel
theorem dX5_rows_55 : decode cX5_rows 55 = .ok (.invokevirtual 197, 3) := by decide +kernel
theorem dX5_rows_58 : decode cX5_rows 58 = .ok (.ireturn, 1) := by decide +kernel
set_option maxRecDepth 20000 in
theorem ggX5_forWhat_X0_hasTask : GoodIn wsX5_forWhat wsX0_hasTask := goodIn_r _ [9, 10, 54, 55, 56, 57, 58, 59, 60, 61, 62, 63, 64, 65, 66, 67] (by decide +kernel) (by decide +kernel)
set_option maxRecDepth 20000 in
theorem gX5_forWhat_X0_hasTask : GoodIn wsX5_forWhat (wsV RX5 95 RX0 yX0_hasTask wsX0_hasTask) := goodIn_app (goodIn_of _ (by decide +kernel)) ggX5_forWhat_X0_hasTask
set_option maxRecDepth 20000 in
theorem ggX5_forWhat_X5_bit : GoodIn wsX5_forWhat wsX5_bit := goodIn_r _ [14] (by decide +kernel) (by decide +kernel)
set_option maxRecDepth 20000 in
theorem gX5_forWhat_X5_bit : GoodIn wsX5_forWhat (va_wsS RX5 115 yX5_bit wsX5_bit) := goodIn_app (goodIn_of _ (by decide +kernel)) ggX5_forWhat_X5_bit
set_option maxRecDepth 20000 in
theorem ggX5_forWhat_X0_tasksThatAsk : GoodIn wsX5_forWhat wsX0_tasksThatAsk := goodIn_r _ [18, 10, 19, 20, 21, 8, 22, 23, 12, 13, 14, 54, 55, 56, 57, 58, 59, 60, 61, 62, 63, 64, 65, 66, 67] (by decide +kernel) (by decide +kernel)
set_option maxRecDepth 20000 in
theorem gX5_forWhat_X0_tasksThatAsk : GoodIn wsX5_forWhat (wsV RX5 219 RX0 yX0_tasksThatAsk wsX0_tasksThatAsk) := goodIn_app (goodIn_of _ (by decide +kernel)) ggX5_forWhat_X0_tasksThatAsk
set_option maxRecDepth 20000 in
theorem ggX5_forWhat_X4_tasksToCome : GoodIn wsX5_forWhat wsX4_tasksToCome := goodIn_r _ [28, 29, 30, 31, 32, 33, 27, 34, 35, 12, 13, 14, 36, 20, 21, 8, 22, 23, 54, 55, 56, 57, 58, 59, 60, 61, 62, 63, 64, 65, 66, 67, 48, 49, 50, 51, 52, 53] (by decide +kernel) (by decide +kernel)
set_option maxRecDepth 20000 in
theorem gX5_forWhat_X4_tasksToCome : GoodIn wsX5_forWhat (wsV RX5 189 RX4 yX4_tasksToCome wsX4_tasksToCome) := goodIn_app (goodIn_of _ (by decide +kernel)) ggX5_forWhat_X4_tasksToCome
theorem dX5_forWhat_0 : decode cX5_forWhat 0 = .ok (.aload_n 0, 1) := by decide +kernel
theorem dX5_forWhat_1 : decode cX5_forWhat 1 = .ok (.getfield 16, 3) := by decide +kernel
theorem dX5_forWhat_4 : decode cX5_forWhat 4 = .ok (.iload_n 1, 1) := by decide +kernel
theorem dX5_forWhat_5 : decode cX5_forWhat 5 = .ok (.invokevirtual 95, 3) := by decide +kernel
theorem dX5_forWhat_8 : decode cX5_forWhat 8 = .ok (.ifCond .ne 5, 3) := by decide +kernel
theorem dX5_forWhat_11 : decode cX5_forWhat 11 = .ok (.iconst (-1), 1) := by decide +kernel
theorem dX5_forWhat_12 : decode cX5_forWhat 12 = .ok (.ireturn, 1) := by decide +kernel
theorem dX5_forWhat_13 : decode cX5_forWhat 13 = .ok (.aload_n 0, 1) := by decide +kernel
theorem dX5_forWhat_14 : decode cX5_forWhat 14 = .ok (.getfield 26, 3) := by decide +kernel
theorem dX5_forWhat_17 : decode cX5_forWhat 17 = .ok (.getfield 122, 3) := by decide +kernel
theorem dX5_forWhat_20 : decode cX5_forWhat 20 = .ok (.iload_n 1, 1) := by decide +kernel
theorem dX5_forWhat_21 : decode cX5_forWhat 21 = .ok (.invokestatic 115, 3) := by decide +kernel
theorem dX5_forWhat_24 : decode cX5_forWhat 24 = .ok (.iand, 1) := by decide +kernel
theorem dX5_forWhat_25 : decode cX5_forWhat 25 = .ok (.ifCond .eq 6, 3) := by decide +kernel
theorem dX5_forWhat_28 : decode cX5_forWhat 28 = .ok (.bipush (-2), 2) := by decide +kernel
theorem dX5_forWhat_30 : decode cX5_forWhat 30 = .ok (.ireturn, 1) := by decide +kernel
theorem dX5_forWhat_31 : decode cX5_forWhat 31 = .ok (.aload_n 0, 1) := by decide +kernel
theorem dX5_forWhat_32 : decode cX5_forWhat 32 = .ok (.getfield 26, 3) := by decide +kernel
theorem dX5_forWhat_35 : decode cX5_forWhat 35 = .ok (.getfield 112, 3) := by decide +kernel
theorem dX5_forWhat_38 : decode cX5_forWhat 38 = .ok (.iload_n 1, 1) := by decide +kernel
theorem dX5_forWhat_39 : decode cX5_forWhat 39 = .ok (.invokestatic 115, 3) := by decide +kernel
theorem dX5_forWhat_42 : decode cX5_forWhat 42 = .ok (.iand, 1) := by decide +kernel
theorem dX5_forWhat_43 : decode cX5_forWhat 43 = .ok (.ifCond .eq 8, 3) := by decide +kernel
theorem dX5_forWhat_46 : decode cX5_forWhat 46 = .ok (.iload_n 1, 1) := by decide +kernel
theorem dX5_forWhat_47 : decode cX5_forWhat 47 = .ok (.invokestatic 115, 3) := by decide +kernel
theorem dX5_forWhat_50 : decode cX5_forWhat 50 = .ok (.ireturn, 1) := by decide +kernel
theorem dX5_forWhat_51 : decode cX5_forWhat 51 = .ok (.aload_n 0, 1) := by decide +kernel
theorem dX5_forWhat_52 : decode cX5_forWhat 52 = .ok (.getfield 16, 3) := by decide +kernel
theorem dX5_forWhat_55 : decode cX5_forWhat 55 = .ok (.iload_n 1, 1) := by decide +kernel
theorem dX5_forWhat_56 : decode cX5_forWhat 56 = .ok (.invokevirtual 219, 3) := by decide +kernel
theorem dX5_forWhat_59 : decode cX5_forWhat 59 = .ok (.aload_n 0, 1) := by decide +kernel
theorem dX5_forWhat_60 : decode cX5_forWhat 60 = .ok (.getfield 26, 3) := by decide +kernel
theorem dX5_forWhat_63 : decode cX5_forWhat 63 = .ok (.aload_n 0, 1) := by decide +kernel
theorem dX5_forWhat_64 : decode cX5_forWhat 64 = .ok (.getfield 16, 3) := by decide +kernel
theorem dX5_forWhat_67 : decode cX5_forWhat 67 = .ok (.invokevirtual 189, 3) := by decide +kernel
theorem dX5_forWhat_70 : decode cX5_forWhat 70 = .ok (.iand, 1) := by decide +kernel
theorem dX5_forWhat_71 : decode cX5_forWhat 71 = .ok (.ireturn, 1) := by decide +kernel
set_option maxRecDepth 20000 in
theorem ggX5_grooms_X4_tasksToSuggest : GoodIn wsX5_grooms wsX4_tasksToSuggest := goodIn_r _ [7, 8, 9, 10, 11, 12, 6, 13, 14, 15, 16, 17, 18, 195, 196, 197, 198, 199, 200, 201, 202, 203, 204, 205, 206, 207, 208, 209, 210, 211, 212, 213, 214] (by decide +kernel) (by decide +kernel)
set_option maxRecDepth 20000 in
theorem gX5_grooms_X4_tasksToSuggest : GoodIn wsX5_grooms (wsV RX5 222 RX4 yX4_tasksToSuggest wsX4_tasksToSuggest) := goodIn_app (goodIn_of _ (by decide +kernel)) ggX5_grooms_X4_tasksToSuggest
set_option maxRecDepth 20000 in
theorem ggX5_grooms_X5_chancesOfTen : GoodIn wsX5_grooms wsX5_chancesOfTen := goodIn_r _ [22, 23, 1, 24, 25, 2, 26, 27, 17, 28, 29, 30, 31, 32, 33, 34, 35, 36, 37, 38, 39, 40, 41, 6, 42, 9, 43, 44, 45, 46, 14, 47, 48, 49, 50, 51, 52, 53, 54, 55, 56, 57, 58, 59, 60, 61, 62, 63, 64, 65, 66, 67, 68, 69, 70, 71, 72, 73, 74, 75, 8, 76, 77, 78, 79, 16, 18, 80, 81, 82, 83, 84, 85, 86, 87, 88, 89, 90, 91, 92, 93, 94, 95, 96, 97, 98, 99, 100, 101, 102, 103, 104, 105, 106, 107, 108, 109, 110, 111, 112, 113, 114, 115, 116, 117, 118, 119, 120, 121, 122, 123, 124, 125, 126, 127, 128, 129, 130, 131, 132, 133, 134, 135, 136, 137, 138, 139, 140, 141, 142, 143, 144, 145, 146, 147, 148, 149, 150, 151, 152, 153, 154, 155, 156, 157, 158, 159, 160, 161, 162, 163, 164, 165, 10, 11, 12, 13, 15, 166, 167, 168, 169, 170, 171, 172, 173, 174, 175, 176, 177, 178, 179, 180, 184, 185, 186, 187, 188, 189, 190, 191, 192, 193, 194, 209, 210, 211, 212, 213, 214, 215, 216, 217, 218, 219, 220, 221, 222, 195, 196, 197, 198, 199, 200, 201, 202, 203, 204, 205, 206, 207, 208, 223, 224, 225] (by decide +kernel) (by decide +kernel)
set_option maxRecDepth 20000 in
theorem gX5_grooms_X5_chancesOfTen : GoodIn wsX5_grooms (wsV RX5 225 RX5 yX5_chancesOfTen wsX5_chancesOfTen) := goodIn_app (goodIn_of _ (by decide +kernel)) ggX5_grooms_X5_chancesOfTen
set_option maxRecDepth 20000 in
theorem ggX5_grooms_J6_bitCount_0f7a4 : GoodIn wsX5_grooms wsJ6_bitCount_0f7a4 := goodIn_r _ [32, 33, 34, 35] (by decide +kernel) (by decide +kernel)
set_option maxRecDepth 20000 in
theorem gX5_grooms_J6_bitCount_0f7a4 : GoodIn wsX5_grooms (va_wsS RX5 172 yJ6_bitCount_0f7a4 wsJ6_bitCount_0f7a4) := goodIn_app (goodIn_of _ (by decide +kernel)) ggX5_grooms_J6_bitCount_0f7a4
set_option maxRecDepth 20000 in
theorem ggX5_grooms_X5_power : GoodIn wsX5_grooms wsX5_power := goodIn_r _ [38] (by decide +kernel) (by decide +kernel)
set_option maxRecDepth 20000 in
theorem gX5_grooms_X5_power : GoodIn wsX5_grooms (va_wsS RX5 228 yX5_power wsX5_power) := goodIn_app (goodIn_of _ (by decide +kernel)) ggX5_grooms_X5_power
set_option maxRecDepth 20000 in
theorem ggX5_grooms_X5_commonDivisor : GoodIn wsX5_grooms wsX5_commonDivisor := goodIn_r _ [183] (by decide +kernel) (by decide +kernel)
set_option maxRecDepth 20000 in
theorem gX5_grooms_X5_commonDivisor : GoodIn wsX5_grooms (va_wsS RX5 231 yX5_commonDivisor wsX5_commonDivisor) := goodIn_app (goodIn_of _ (by decide +kernel)) ggX5_grooms_X5_commonDivisor
theorem dX5_grooms_0 : decode cX5_grooms 0 = .ok (.iload_n 1, 1) := by decide +kernel
theorem dX5_grooms_1 : decode cX5_grooms 1 = .ok (.ifCond .lt 18, 3) := by decide +kernel
theorem dX5_grooms_4 : decode cX5_grooms 4 = .ok (.iload_n 1, 1) := by decide +kernel
theorem dX5_grooms_5 : decode cX5_grooms 5 = .ok (.bipush 10, 2) := by decide +kernel
theorem dX5_grooms_7 : decode cX5_grooms 7 = .ok (.if_icmp .gt 12, 3) := by decide +kernel
theorem dX5_grooms_10 : decode cX5_grooms 10 = .ok (.iload_n 2, 1) := by decide +kernel
theorem dX5_grooms_11 : decode cX5_grooms 11 = .ok (.ifCond .lt 8, 3) := by decide +kernel
theorem dX5_grooms_14 : decode cX5_grooms 14 = .ok (.iload_n 2, 1) := by decide +kernel
theorem dX5_grooms_15 : decode cX5_grooms 15 = .ok (.iconst 1, 1) := by decide +kernel
theorem dX5_grooms_16 : decode cX5_grooms 16 = .ok (.if_icmp .le 5, 3) := by decide +kernel
theorem dX5_grooms_19 : decode cX5_grooms 19 = .ok (.iconst (-1), 1) := by decide +kernel
theorem dX5_grooms_20 : decode cX5_grooms 20 = .ok (.ireturn, 1) := by decide +kernel
theorem dX5_grooms_21 : decode cX5_grooms 21 = .ok (.aload_n 0, 1) := by decide +kernel
theorem dX5_grooms_22 : decode cX5_grooms 22 = .ok (.getfield 26, 3) := by decide +kernel
theorem dX5_grooms_25 : decode cX5_grooms 25 = .ok (.aload_n 0, 1) := by decide +kernel
theorem dX5_grooms_26 : decode cX5_grooms 26 = .ok (.getfield 16, 3) := by decide +kernel
theorem dX5_grooms_29 : decode cX5_grooms 29 = .ok (.invokevirtual 222, 3) := by decide +kernel
theorem dX5_grooms_32 : decode cX5_grooms 32 = .ok (.istore_n 3, 1) := by decide +kernel
theorem dX5_grooms_33 : decode cX5_grooms 33 = .ok (.aload_n 0, 1) := by decide +kernel
theorem dX5_grooms_34 : decode cX5_grooms 34 = .ok (.iload_n 3, 1) := by decide +kernel
theorem dX5_grooms_35 : decode cX5_grooms 35 = .ok (.iload_n 1, 1) := by decide +kernel
theorem dX5_grooms_36 : decode cX5_grooms 36 = .ok (.invokevirtual 225, 3) := by decide +kernel
theorem dX5_grooms_39 : decode cX5_grooms 39 = .ok (.istore 4, 2) := by decide +kernel
theorem dX5_grooms_41 : decode cX5_grooms 41 = .ok (.bipush 10, 2) := by decide +kernel
theorem dX5_grooms_43 : decode cX5_grooms 43 = .ok (.iload_n 3, 1) := by decide +kernel
theorem dX5_grooms_44 : decode cX5_grooms 44 = .ok (.invokestatic 172, 3) := by decide +kernel
theorem dX5_grooms_47 : decode cX5_grooms 47 = .ok (.invokestatic 228, 3) := by decide +kernel
theorem dX5_grooms_50 : decode cX5_grooms 50 = .ok (.istore 5, 2) := by decide +kernel
theorem dX5_grooms_52 : decode cX5_grooms 52 = .ok (.iload 4, 2) := by decide +kernel
theorem dX5_grooms_54 : decode cX5_grooms 54 = .ok (.iload 5, 2) := by decide +kernel
theorem dX5_grooms_56 : decode cX5_grooms 56 = .ok (.invokestatic 231, 3) := by decide +kernel
theorem dX5_grooms_59 : decode cX5_grooms 59 = .ok (.istore 6, 2) := by decide +kernel
theorem dX5_grooms_61 : decode cX5_grooms 61 = .ok (.iload 6, 2) := by decide +kernel
theorem dX5_grooms_63 : decode cX5_grooms 63 = .ok (.iconst 1, 1) := by decide +kernel
theorem dX5_grooms_64 : decode cX5_grooms 64 = .ok (.if_icmp .ge 5, 3) := by decide +kernel
theorem dX5_grooms_67 : decode cX5_grooms 67 = .ok (.iload_n 2, 1) := by decide +kernel
theorem dX5_grooms_68 : decode cX5_grooms 68 = .ok (.ireturn, 1) := by decide +kernel
theorem dX5_grooms_69 : decode cX5_grooms 69 = .ok (.iload_n 2, 1) := by decide +kernel
theorem dX5_grooms_70 : decode cX5_grooms 70 = .ok (.ifCond .ne 11, 3) := by decide +kernel
theorem dX5_grooms_73 : decode cX5_grooms 73 = .ok (.iload 4, 2) := by decide +kernel
theorem dX5_grooms_75 : decode cX5_grooms 75 = .ok (.iload 6, 2) := by decide +kernel
theorem dX5_grooms_77 : decode cX5_grooms 77 = .ok (.idiv, 1) := by decide +kernel
theorem dX5_grooms_78 : decode cX5_grooms 78 = .ok (.goto 8, 3) := by decide +kernel
theorem dX5_grooms_81 : decode cX5_grooms 81 = .ok (.iload 5, 2) := by decide +kernel
theorem dX5_grooms_83 : decode cX5_grooms 83 = .ok (.iload 6, 2) := by decide +kernel
theorem dX5_grooms_85 : decode cX5_grooms 85 = .ok (.idiv, 1) := by decide +kernel
theorem dX5_grooms_86 : decode cX5_grooms 86 = .ok (.ireturn, 1) := by decide +kernel
set_option maxRecDepth 20000 in
theorem ggX5_king_X4_packed : GoodIn wsX5_king wsX4_packed := goodIn_r _ [10, 11, 12, 13, 14, 15, 16, 130, 131, 132, 133, 134, 135] (by decide +kernel) (by decide +kernel)
set_option maxRecDepth 20000 in
theorem gX5_king_X4_packed : GoodIn wsX5_king (wsV RX5 144 RX4 yX4_packed wsX4_packed) := goodIn_app (goodIn_of _ (by decide +kernel)) ggX5_king_X4_packed
set_option maxRecDepth 20000 in
theorem ggX5_king_X4_unpack : GoodIn wsX5_king wsX4_unpack := goodIn_r _ [20, 11, 12, 13, 14, 15, 16, 130, 131, 132, 133, 134, 135] (by decide +kernel) (by decide +kernel)
set_option maxRecDepth 20000 in
theorem gX5_king_X4_unpack : GoodIn wsX5_king (wsV RX5 186 RX4 yX4_unpack wsX4_unpack) := goodIn_app (goodIn_of _ (by decide +kernel)) ggX5_king_X4_unpack
set_option maxRecDepth 20000 in
theorem ggX5_king_X5_drawOf : GoodIn wsX5_king wsX5_drawOf := goodIn_r _ [24, 25, 26, 27, 28] (by decide +kernel) (by decide +kernel)
set_option maxRecDepth 20000 in
theorem gX5_king_X5_drawOf : GoodIn wsX5_king (va_wsS RX5 234 yX5_drawOf wsX5_drawOf) := goodIn_app (goodIn_of _ (by decide +kernel)) ggX5_king_X5_drawOf
set_option maxRecDepth 20000 in
theorem ggX5_king_X5_kingGoesOn : GoodIn wsX5_king wsX5_kingGoesOn := goodIn_r _ [32, 5, 33, 34, 35, 36, 37, 9, 38, 14, 16, 12, 11, 39, 40, 41, 42, 43, 44, 45, 46, 47, 48, 49, 50, 51, 52, 23, 53, 54, 55, 56, 57, 58, 59, 60, 61, 62, 63, 13, 64, 65, 66, 67, 68, 69, 70, 71, 72, 73, 74, 75, 76, 77, 78, 79, 80, 81, 82, 83, 84, 85, 86, 87, 88, 89, 90, 91, 92, 93, 15, 94, 95, 96, 97, 98, 99, 100, 101, 102, 103, 104, 105, 106, 107, 119, 120, 121, 122, 123, 124, 125, 126, 127, 128, 129, 136, 137, 138, 139, 140, 141, 142, 143, 144, 145, 146, 147, 148, 149, 130, 131, 132, 133, 134, 135] (by decide +kernel) (by decide +kernel)
set_option maxRecDepth 20000 in
theorem gX5_king_X5_kingGoesOn : GoodIn wsX5_king (wsV RX5 237 RX5 yX5_kingGoesOn wsX5_kingGoesOn) := goodIn_app (goodIn_of _ (by decide +kernel)) ggX5_king_X5_kingGoesOn
set_option maxRecDepth 20000 in
theorem ggX5_king_J6_bitCount_0f7a4 : GoodIn wsX5_king wsJ6_bitCount_0f7a4 := goodIn_r _ [111, 112, 113, 114] (by decide +kernel) (by decide +kernel)
set_option maxRecDepth 20000 in
theorem gX5_king_J6_bitCount_0f7a4 : GoodIn wsX5_king (va_wsS RX5 172 yJ6_bitCount_0f7a4 wsJ6_bitCount_0f7a4) := goodIn_app (goodIn_of _ (by decide +kernel)) ggX5_king_J6_bitCount_0f7a4
set_option maxRecDepth 20000 in
theorem ggX5_king_X4_isLost : GoodIn wsX5_king wsX4_isLost := goodIn_r _ [46, 16, 47, 130, 131, 132, 133, 134, 135, 136, 137, 138, 139, 140, 141, 142, 143, 144, 145, 146, 147, 148, 149] (by decide +kernel) (by decide +kernel)
set_option maxRecDepth 20000 in
theorem gX5_king_X4_isLost : GoodIn wsX5_king (wsV RX5 241 RX4 yX4_isLost wsX4_isLost) := goodIn_app (goodIn_of _ (by decide +kernel)) ggX5_king_X4_isLost
set_option maxRecDepth 20000 in
theorem ggX5_king_X5_oneIf : GoodIn wsX5_king wsX5_oneIf := goodIn_r _ [118] (by decide +kernel) (by decide +kernel)
set_option maxRecDepth 20000 in
theorem gX5_king_X5_oneIf : GoodIn wsX5_king (va_wsS RX5 118 yX5_oneIf wsX5_oneIf) := goodIn_app (goodIn_of _ (by decide +kernel)) ggX5_king_X5_oneIf
theorem dX5_king_0 : decode cX5_king 0 = .ok (.iload_n 1, 1) := by decide +kernel
theorem dX5_king_1 : decode cX5_king 1 = .ok (.ifCond .lt 30, 3) := by decide +kernel
theorem dX5_king_4 : decode cX5_king 4 = .ok (.iload_n 1, 1) := by decide +kernel
theorem dX5_king_5 : decode cX5_king 5 = .ok (.sipush 9999, 3) := by decide +kernel
theorem dX5_king_8 : decode cX5_king 8 = .ok (.if_icmp .gt 23, 3) := by decide +kernel
theorem dX5_king_11 : decode cX5_king 11 = .ok (.iload_n 2, 1) := by decide +kernel
theorem dX5_king_12 : decode cX5_king 12 = .ok (.iconst 1, 1) := by decide +kernel
theorem dX5_king_13 : decode cX5_king 13 = .ok (.if_icmp .lt 18, 3) := by decide +kernel
theorem dX5_king_16 : decode cX5_king 16 = .ok (.iload_n 2, 1) := by decide +kernel
theorem dX5_king_17 : decode cX5_king 17 = .ok (.bipush 40, 2) := by decide +kernel
theorem dX5_king_19 : decode cX5_king 19 = .ok (.if_icmp .gt 12, 3) := by decide +kernel
theorem dX5_king_22 : decode cX5_king 22 = .ok (.iload_n 3, 1) := by decide +kernel
theorem dX5_king_23 : decode cX5_king 23 = .ok (.ifCond .lt 8, 3) := by decide +kernel
theorem dX5_king_26 : decode cX5_king 26 = .ok (.iload_n 3, 1) := by decide +kernel
theorem dX5_king_27 : decode cX5_king 27 = .ok (.iconst 2, 1) := by decide +kernel
theorem dX5_king_28 : decode cX5_king 28 = .ok (.if_icmp .le 5, 3) := by decide +kernel
theorem dX5_king_31 : decode cX5_king 31 = .ok (.iconst (-1), 1) := by decide +kernel
theorem dX5_king_32 : decode cX5_king 32 = .ok (.ireturn, 1) := by decide +kernel
theorem dX5_king_33 : decode cX5_king 33 = .ok (.aload_n 0, 1) := by decide +kernel
theorem dX5_king_34 : decode cX5_king 34 = .ok (.getfield 30, 3) := by decide +kernel
theorem dX5_king_37 : decode cX5_king 37 = .ok (.aload_n 0, 1) := by decide +kernel
theorem dX5_king_38 : decode cX5_king 38 = .ok (.getfield 26, 3) := by decide +kernel
theorem dX5_king_41 : decode cX5_king 41 = .ok (.invokevirtual 144, 3) := by decide +kernel
theorem dX5_king_44 : decode cX5_king 44 = .ok (.invokevirtual 186, 3) := by decide +kernel
theorem dX5_king_47 : decode cX5_king 47 = .ok (.iconst 0, 1) := by decide +kernel
theorem dX5_king_48 : decode cX5_king 48 = .ok (.istore 4, 2) := by decide +kernel
theorem dX5_king_50 : decode cX5_king 50 = .ok (.iload 4, 2) := by decide +kernel
theorem dX5_king_52 : decode cX5_king 52 = .ok (.iload_n 2, 1) := by decide +kernel
theorem dX5_king_53 : decode cX5_king 53 = .ok (.if_icmp .ge 23, 3) := by decide +kernel
theorem dX5_king_56 : decode cX5_king 56 = .ok (.aload_n 0, 1) := by decide +kernel
theorem dX5_king_57 : decode cX5_king 57 = .ok (.aload_n 0, 1) := by decide +kernel
theorem dX5_king_58 : decode cX5_king 58 = .ok (.getfield 30, 3) := by decide +kernel
theorem dX5_king_61 : decode cX5_king 61 = .ok (.iload_n 1, 1) := by decide +kernel
theorem dX5_king_62 : decode cX5_king 62 = .ok (.iload 4, 2) := by decide +kernel
theorem dX5_king_64 : decode cX5_king 64 = .ok (.invokestatic 234, 3) := by decide +kernel
theorem dX5_king_67 : decode cX5_king 67 = .ok (.invokevirtual 237, 3) := by decide +kernel
theorem dX5_king_70 : decode cX5_king 70 = .ok (.iinc 4 1, 3) := by decide +kernel
theorem dX5_king_73 : decode cX5_king 73 = .ok (.goto (-23), 3) := by decide +kernel
theorem dX5_king_76 : decode cX5_king 76 = .ok (.iload_n 3, 1) := by decide +kernel
theorem dX5_king_77 : decode cX5_king 77 = .ok (.ifCond .ne 14, 3) := by decide +kernel
theorem dX5_king_80 : decode cX5_king 80 = .ok (.aload_n 0, 1) := by decide +kernel
theorem dX5_king_81 : decode cX5_king 81 = .ok (.getfield 30, 3) := by decide +kernel
theorem dX5_king_84 : decode cX5_king 84 = .ok (.getfield 122, 3) := by decide +kernel
theorem dX5_king_87 : decode cX5_king 87 = .ok (.invokestatic 172, 3) := by decide +kernel
theorem dX5_king_90 : decode cX5_king 90 = .ok (.ireturn, 1) := by decide +kernel
theorem dX5_king_91 : decode cX5_king 91 = .ok (.iload_n 3, 1) := by decide +kernel
theorem dX5_king_92 : decode cX5_king 92 = .ok (.iconst 1, 1) := by decide +kernel
theorem dX5_king_93 : decode cX5_king 93 = .ok (.if_icmp .ne 13, 3) := by decide +kernel
theorem dX5_king_96 : decode cX5_king 96 = .ok (.aload_n 0, 1) := by decide +kernel
theorem dX5_king_97 : decode cX5_king 97 = .ok (.getfield 30, 3) := by decide +kernel
theorem dX5_king_100 : decode cX5_king 100 = .ok (.getfield 162, 3) := by decide +kernel
theorem dX5_king_103 : decode cX5_king 103 = .ok (.goto 17, 3) := by decide +kernel
theorem dX5_king_106 : decode cX5_king 106 = .ok (.aload_n 0, 1) := by decide +kernel
theorem dX5_king_107 : decode cX5_king 107 = .ok (.getfield 30, 3) := by decide +kernel
theorem dX5_king_110 : decode cX5_king 110 = .ok (.aload_n 0, 1) := by decide +kernel
theorem dX5_king_111 : decode cX5_king 111 = .ok (.getfield 16, 3) := by decide +kernel
theorem dX5_king_114 : decode cX5_king 114 = .ok (.invokevirtual 241, 3) := by decide +kernel
theorem dX5_king_117 : decode cX5_king 117 = .ok (.invokestatic 118, 3) := by decide +kernel
theorem dX5_king_120 : decode cX5_king 120 = .ok (.ireturn, 1) := by decide +kernel
set_option maxRecDepth 20000 in
theorem ggX5_keep_X4_packed : GoodIn wsX5_keep wsX4_packed := goodIn_r _ [8, 9, 10, 11, 12, 13, 14, 39, 40, 41, 42, 43, 44] (by decide +kernel) (by decide +kernel)
set_option maxRecDepth 20000 in
theorem gX5_keep_X4_packed : GoodIn wsX5_keep (wsV RX5 144 RX4 yX4_packed wsX4_packed) := goodIn_app (goodIn_of _ (by decide +kernel)) ggX5_keep_X4_packed
set_option maxRecDepth 20000 in
theorem ggX5_keep_X1_put : GoodIn wsX5_keep wsX1_put := goodIn_r _ [19, 20, 21, 22, 23, 24, 18, 25, 37, 38] (by decide +kernel) (by decide +kernel)
set_option maxRecDepth 20000 in
theorem gX5_keep_X1_put : GoodIn wsX5_keep (wsV RX5 152 RX1 yX1_put wsX1_put) := goodIn_app (goodIn_of _ (by decide +kernel)) ggX5_keep_X1_put
theorem dX5_keep_0 : decode cX5_keep 0 = .ok (.aload_n 0, 1) := by decide +kernel
theorem dX5_keep_1 : decode cX5_keep 1 = .ok (.getfield 42, 3) := by decide +kernel
theorem dX5_keep_4 : decode cX5_keep 4 = .ok (.getfield 180, 3) := by decide +kernel
theorem dX5_keep_7 : decode cX5_keep 7 = .ok (.iconst 2, 1) := by decide +kernel
theorem dX5_keep_8 : decode cX5_keep 8 = .ok (.if_icmp .lt 6, 3) := by decide +kernel
theorem dX5_keep_11 : decode cX5_keep 11 = .ok (.bipush (-3), 2) := by decide +kernel
theorem dX5_keep_13 : decode cX5_keep 13 = .ok (.ireturn, 1) := by decide +kernel
theorem dX5_keep_14 : decode cX5_keep 14 = .ok (.aload_n 0, 1) := by decide +kernel
theorem dX5_keep_15 : decode cX5_keep 15 = .ok (.getfield 42, 3) := by decide +kernel
theorem dX5_keep_18 : decode cX5_keep 18 = .ok (.aload_n 0, 1) := by decide +kernel
theorem dX5_keep_19 : decode cX5_keep 19 = .ok (.getfield 26, 3) := by decide +kernel
theorem dX5_keep_22 : decode cX5_keep 22 = .ok (.invokevirtual 144, 3) := by decide +kernel
theorem dX5_keep_25 : decode cX5_keep 25 = .ok (.invokevirtual 152, 3) := by decide +kernel
theorem dX5_keep_28 : decode cX5_keep 28 = .ok (.aload_n 0, 1) := by decide +kernel
theorem dX5_keep_29 : decode cX5_keep 29 = .ok (.getfield 42, 3) := by decide +kernel
theorem dX5_keep_32 : decode cX5_keep 32 = .ok (.getfield 180, 3) := by decide +kernel
theorem dX5_keep_35 : decode cX5_keep 35 = .ok (.ireturn, 1) := by decide +kernel
set_option maxRecDepth 20000 in
theorem ggX5_back_X1_takeLatest : GoodIn wsX5_back wsX1_takeLatest := goodIn_r _ [9, 10, 11, 38, 39] (by decide +kernel) (by decide +kernel)
set_option maxRecDepth 20000 in
theorem gX5_back_X1_takeLatest : GoodIn wsX5_back (wsV RX5 183 RX1 yX1_takeLatest wsX1_takeLatest) := goodIn_app (goodIn_of _ (by decide +kernel)) ggX5_back_X1_takeLatest
set_option maxRecDepth 20000 in
theorem ggX5_back_X4_unpack : GoodIn wsX5_back wsX4_unpack := goodIn_r _ [16, 17, 18, 19, 20, 21, 22, 40, 41, 42, 43, 44, 45] (by decide +kernel) (by decide +kernel)
set_option maxRecDepth 20000 in
theorem gX5_back_X4_unpack : GoodIn wsX5_back (wsV RX5 186 RX4 yX4_unpack wsX4_unpack) := goodIn_app (goodIn_of _ (by decide +kernel)) ggX5_back_X4_unpack
set_option maxRecDepth 20000 in
theorem ggX5_back_X1_clear : GoodIn wsX5_back wsX1_clear := goodIn_r _ [26, 10, 38, 39] (by decide +kernel) (by decide +kernel)
set_option maxRecDepth 20000 in
theorem gX5_back_X1_clear : GoodIn wsX5_back (wsV RX5 88 RX1 yX1_clear wsX1_clear) := goodIn_app (goodIn_of _ (by decide +kernel)) ggX5_back_X1_clear
theorem dX5_back_0 : decode cX5_back 0 = .ok (.aload_n 0, 1) := by decide +kernel
theorem dX5_back_1 : decode cX5_back 1 = .ok (.getfield 42, 3) := by decide +kernel
theorem dX5_back_4 : decode cX5_back 4 = .ok (.getfield 180, 3) := by decide +kernel
theorem dX5_back_7 : decode cX5_back 7 = .ok (.iconst 1, 1) := by decide +kernel
theorem dX5_back_8 : decode cX5_back 8 = .ok (.if_icmp .ge 6, 3) := by decide +kernel
theorem dX5_back_11 : decode cX5_back 11 = .ok (.bipush (-2), 2) := by decide +kernel
theorem dX5_back_13 : decode cX5_back 13 = .ok (.ireturn, 1) := by decide +kernel
theorem dX5_back_14 : decode cX5_back 14 = .ok (.aload_n 0, 1) := by decide +kernel
theorem dX5_back_15 : decode cX5_back 15 = .ok (.getfield 26, 3) := by decide +kernel
theorem dX5_back_18 : decode cX5_back 18 = .ok (.aload_n 0, 1) := by decide +kernel
theorem dX5_back_19 : decode cX5_back 19 = .ok (.getfield 42, 3) := by decide +kernel
theorem dX5_back_22 : decode cX5_back 22 = .ok (.invokevirtual 183, 3) := by decide +kernel
theorem dX5_back_25 : decode cX5_back 25 = .ok (.invokevirtual 186, 3) := by decide +kernel
theorem dX5_back_28 : decode cX5_back 28 = .ok (.aload_n 0, 1) := by decide +kernel
theorem dX5_back_29 : decode cX5_back 29 = .ok (.getfield 38, 3) := by decide +kernel
theorem dX5_back_32 : decode cX5_back 32 = .ok (.invokevirtual 88, 3) := by decide +kernel
theorem dX5_back_35 : decode cX5_back 35 = .ok (.aload_n 0, 1) := by decide +kernel
theorem dX5_back_36 : decode cX5_back 36 = .ok (.getfield 42, 3) := by decide +kernel
theorem dX5_back_39 : decode cX5_back 39 = .ok (.getfield 180, 3) := by decide +kernel
theorem dX5_back_42 : decode cX5_back 42 = .ok (.ireturn, 1) := by decide +kernel
set_option maxRecDepth 20000 in
theorem ggX5_count_X4_openTasks : GoodIn wsX5_count wsX4_openTasks := goodIn_r _ [18, 19, 20, 69, 70, 71, 72, 73, 74] (by decide +kernel) (by decide +kernel)
set_option maxRecDepth 20000 in
theorem gX5_count_X4_openTasks : GoodIn wsX5_count (wsV RX5 168 RX4 yX4_openTasks wsX4_openTasks) := goodIn_app (goodIn_of _ (by decide +kernel)) ggX5_count_X4_openTasks
set_option maxRecDepth 20000 in
theorem ggX5_count_J6_bitCount_0f7a4 : GoodIn wsX5_count wsJ6_bitCount_0f7a4 := goodIn_r _ [24, 25, 26, 27] (by decide +kernel) (by decide +kernel)
set_option maxRecDepth 20000 in
theorem gX5_count_J6_bitCount_0f7a4 : GoodIn wsX5_count (va_wsS RX5 172 yJ6_bitCount_0f7a4 wsJ6_bitCount_0f7a4) := goodIn_app (goodIn_of _ (by decide +kernel)) ggX5_count_J6_bitCount_0f7a4
set_option maxRecDepth 20000 in
theorem ggX5_count_X4_freeFriends : GoodIn wsX5_count wsX4_freeFriends := goodIn_r _ [31, 32, 33, 69, 70, 71, 72, 73, 74] (by decide +kernel) (by decide +kernel)
set_option maxRecDepth 20000 in
theorem gX5_count_X4_freeFriends : GoodIn wsX5_count (wsV RX5 248 RX4 yX4_freeFriends wsX4_freeFriends) := goodIn_app (goodIn_of _ (by decide +kernel)) ggX5_count_X4_freeFriends
set_option maxRecDepth 20000 in
theorem ggX5_count_X4_isLost : GoodIn wsX5_count wsX4_isLost := goodIn_r _ [37, 38, 39, 69, 70, 71, 72, 73, 74, 55, 56, 57, 58, 59, 60, 61, 62, 63, 64, 65, 66, 67, 68] (by decide +kernel) (by decide +kernel)
set_option maxRecDepth 20000 in
theorem gX5_count_X4_isLost : GoodIn wsX5_count (wsV RX5 241 RX4 yX4_isLost wsX4_isLost) := goodIn_app (goodIn_of _ (by decide +kernel)) ggX5_count_X4_isLost
set_option maxRecDepth 20000 in
theorem ggX5_count_X5_oneIf : GoodIn wsX5_count wsX5_oneIf := goodIn_r _ [43] (by decide +kernel) (by decide +kernel)
set_option maxRecDepth 20000 in
theorem gX5_count_X5_oneIf : GoodIn wsX5_count (va_wsS RX5 118 yX5_oneIf wsX5_oneIf) := goodIn_app (goodIn_of _ (by decide +kernel)) ggX5_count_X5_oneIf
theorem dX5_count_0 : decode cX5_count 0 = .ok (.iload_n 1, 1) := by decide +kernel
theorem dX5_count_1 : decode cX5_count 1 = .ok (.tableswitch 172 0 11 #[63, 71, 79, 90, 101, 112, 120, 128, 143, 151, 159, 167], 63) := by decide +kernel
theorem dX5_count_64 : decode cX5_count 64 = .ok (.aload_n 0, 1) := by decide +kernel
theorem dX5_count_65 : decode cX5_count 65 = .ok (.getfield 16, 3) := by decide +kernel
theorem dX5_count_68 : decode cX5_count 68 = .ok (.getfield 92, 3) := by decide +kernel
theorem dX5_count_71 : decode cX5_count 71 = .ok (.ireturn, 1) := by decide +kernel
theorem dX5_count_72 : decode cX5_count 72 = .ok (.aload_n 0, 1) := by decide +kernel
theorem dX5_count_73 : decode cX5_count 73 = .ok (.getfield 16, 3) := by decide +kernel
theorem dX5_count_76 : decode cX5_count 76 = .ok (.getfield 245, 3) := by decide +kernel
theorem dX5_count_79 : decode cX5_count 79 = .ok (.ireturn, 1) := by decide +kernel
theorem dX5_count_80 : decode cX5_count 80 = .ok (.aload_n 0, 1) := by decide +kernel
theorem dX5_count_81 : decode cX5_count 81 = .ok (.getfield 26, 3) := by decide +kernel
theorem dX5_count_84 : decode cX5_count 84 = .ok (.invokevirtual 168, 3) := by decide +kernel
theorem dX5_count_87 : decode cX5_count 87 = .ok (.invokestatic 172, 3) := by decide +kernel
theorem dX5_count_90 : decode cX5_count 90 = .ok (.ireturn, 1) := by decide +kernel
theorem dX5_count_91 : decode cX5_count 91 = .ok (.aload_n 0, 1) := by decide +kernel
theorem dX5_count_92 : decode cX5_count 92 = .ok (.getfield 26, 3) := by decide +kernel
theorem dX5_count_95 : decode cX5_count 95 = .ok (.getfield 122, 3) := by decide +kernel
theorem dX5_count_98 : decode cX5_count 98 = .ok (.invokestatic 172, 3) := by decide +kernel
theorem dX5_count_101 : decode cX5_count 101 = .ok (.ireturn, 1) := by decide +kernel
theorem dX5_count_102 : decode cX5_count 102 = .ok (.aload_n 0, 1) := by decide +kernel
theorem dX5_count_103 : decode cX5_count 103 = .ok (.getfield 26, 3) := by decide +kernel
theorem dX5_count_106 : decode cX5_count 106 = .ok (.invokevirtual 248, 3) := by decide +kernel
theorem dX5_count_109 : decode cX5_count 109 = .ok (.invokestatic 172, 3) := by decide +kernel
theorem dX5_count_112 : decode cX5_count 112 = .ok (.ireturn, 1) := by decide +kernel
theorem dX5_count_113 : decode cX5_count 113 = .ok (.aload_n 0, 1) := by decide +kernel
theorem dX5_count_114 : decode cX5_count 114 = .ok (.getfield 26, 3) := by decide +kernel
theorem dX5_count_117 : decode cX5_count 117 = .ok (.getfield 156, 3) := by decide +kernel
theorem dX5_count_120 : decode cX5_count 120 = .ok (.ireturn, 1) := by decide +kernel
theorem dX5_count_121 : decode cX5_count 121 = .ok (.aload_n 0, 1) := by decide +kernel
theorem dX5_count_122 : decode cX5_count 122 = .ok (.getfield 26, 3) := by decide +kernel
theorem dX5_count_125 : decode cX5_count 125 = .ok (.getfield 162, 3) := by decide +kernel
theorem dX5_count_128 : decode cX5_count 128 = .ok (.ireturn, 1) := by decide +kernel
theorem dX5_count_129 : decode cX5_count 129 = .ok (.aload_n 0, 1) := by decide +kernel
theorem dX5_count_130 : decode cX5_count 130 = .ok (.getfield 26, 3) := by decide +kernel
theorem dX5_count_133 : decode cX5_count 133 = .ok (.aload_n 0, 1) := by decide +kernel
theorem dX5_count_134 : decode cX5_count 134 = .ok (.getfield 16, 3) := by decide +kernel
theorem dX5_count_137 : decode cX5_count 137 = .ok (.invokevirtual 241, 3) := by decide +kernel
theorem dX5_count_140 : decode cX5_count 140 = .ok (.invokestatic 118, 3) := by decide +kernel
theorem dX5_count_143 : decode cX5_count 143 = .ok (.ireturn, 1) := by decide +kernel
theorem dX5_count_144 : decode cX5_count 144 = .ok (.aload_n 0, 1) := by decide +kernel
theorem dX5_count_145 : decode cX5_count 145 = .ok (.getfield 48, 3) := by decide +kernel
theorem dX5_count_148 : decode cX5_count 148 = .ok (.getfield 214, 3) := by decide +kernel
theorem dX5_count_151 : decode cX5_count 151 = .ok (.ireturn, 1) := by decide +kernel
theorem dX5_count_152 : decode cX5_count 152 = .ok (.aload_n 0, 1) := by decide +kernel
theorem dX5_count_153 : decode cX5_count 153 = .ok (.getfield 38, 3) := by decide +kernel
theorem dX5_count_156 : decode cX5_count 156 = .ok (.getfield 180, 3) := by decide +kernel
theorem dX5_count_159 : decode cX5_count 159 = .ok (.ireturn, 1) := by decide +kernel
theorem dX5_count_160 : decode cX5_count 160 = .ok (.aload_n 0, 1) := by decide +kernel
theorem dX5_count_161 : decode cX5_count 161 = .ok (.getfield 42, 3) := by decide +kernel
theorem dX5_count_164 : decode cX5_count 164 = .ok (.getfield 180, 3) := by decide +kernel
theorem dX5_count_167 : decode cX5_count 167 = .ok (.ireturn, 1) := by decide +kernel
theorem dX5_count_168 : decode cX5_count 168 = .ok (.aload_n 0, 1) := by decide +kernel
theorem dX5_count_169 : decode cX5_count 169 = .ok (.getfield 80, 3) := by decide +kernel
theorem dX5_count_172 : decode cX5_count 172 = .ok (.ireturn, 1) := by decide +kernel
theorem dX5_count_173 : decode cX5_count 173 = .ok (.iconst (-1), 1) := by decide +kernel
theorem dX5_count_174 : decode cX5_count 174 = .ok (.ireturn, 1) := by decide +kernel
theorem dX5_bit_0 : decode cX5_bit 0 = .ok (.iconst 1, 1) := by decide +kernel
theorem dX5_bit_1 : decode cX5_bit 1 = .ok (.iload_n 0, 1) := by decide +kernel
theorem dX5_bit_2 : decode cX5_bit 2 = .ok (.ishl, 1) := by decide +kernel
theorem dX5_bit_3 : decode cX5_bit 3 = .ok (.ireturn, 1) := by decide +kernel
theorem dX5_oneIf_0 : decode cX5_oneIf 0 = .ok (.iload_n 0, 1) := by decide +kernel
theorem dX5_oneIf_1 : decode cX5_oneIf 1 = .ok (.ifCond .eq 7, 3) := by decide +kernel
theorem dX5_oneIf_4 : decode cX5_oneIf 4 = .ok (.iconst 1, 1) := by decide +kernel
theorem dX5_oneIf_5 : decode cX5_oneIf 5 = .ok (.goto 4, 3) := by decide +kernel
theorem dX5_oneIf_8 : decode cX5_oneIf 8 = .ok (.iconst 0, 1) := by decide +kernel
theorem dX5_oneIf_9 : decode cX5_oneIf 9 = .ok (.ireturn, 1) := by decide +kernel
theorem dX5_numberAt_0 : decode cX5_numberAt 0 = .ok (.iload_n 1, 1) := by decide +kernel
theorem dX5_numberAt_1 : decode cX5_numberAt 1 = .ok (.ifCond .lt 15, 3) := by decide +kernel
theorem dX5_numberAt_4 : decode cX5_numberAt 4 = .ok (.iload_n 1, 1) := by decide +kernel
theorem dX5_numberAt_5 : decode cX5_numberAt 5 = .ok (.aload_n 0, 1) := by decide +kernel
theorem dX5_numberAt_6 : decode cX5_numberAt 6 = .ok (.arraylength, 1) := by decide +kernel
theorem dX5_numberAt_7 : decode cX5_numberAt 7 = .ok (.if_icmp .ge 9, 3) := by decide +kernel
theorem dX5_numberAt_10 : decode cX5_numberAt 10 = .ok (.aload_n 0, 1) := by decide +kernel
theorem dX5_numberAt_11 : decode cX5_numberAt 11 = .ok (.iload_n 1, 1) := by decide +kernel
theorem dX5_numberAt_12 : decode cX5_numberAt 12 = .ok (.iaload, 1) := by decide +kernel
theorem dX5_numberAt_13 : decode cX5_numberAt 13 = .ok (.goto 4, 3) := by decide +kernel
theorem dX5_numberAt_16 : decode cX5_numberAt 16 = .ok (.iconst 0, 1) := by decide +kernel
theorem dX5_numberAt_17 : decode cX5_numberAt 17 = .ok (.ireturn, 1) := by decide +kernel
theorem dX5_setNumber_0 : decode cX5_setNumber 0 = .ok (.iload_n 1, 1) := by decide +kernel
theorem dX5_setNumber_1 : decode cX5_setNumber 1 = .ok (.ifCond .lt 13, 3) := by decide +kernel
theorem dX5_setNumber_4 : decode cX5_setNumber 4 = .ok (.iload_n 1, 1) := by decide +kernel
theorem dX5_setNumber_5 : decode cX5_setNumber 5 = .ok (.aload_n 0, 1) := by decide +kernel
theorem dX5_setNumber_6 : decode cX5_setNumber 6 = .ok (.arraylength, 1) := by decide +kernel
theorem dX5_setNumber_7 : decode cX5_setNumber 7 = .ok (.if_icmp .ge 7, 3) := by decide +kernel
theorem dX5_setNumber_10 : decode cX5_setNumber 10 = .ok (.aload_n 0, 1) := by decide +kernel
theorem dX5_setNumber_11 : decode cX5_setNumber 11 = .ok (.iload_n 1, 1) := by decide +kernel
theorem dX5_setNumber_12 : decode cX5_setNumber 12 = .ok (.iload_n 2, 1) := by decide +kernel
theorem dX5_setNumber_13 : decode cX5_setNumber 13 = .ok (.iastore, 1) := by decide +kernel
theorem dX5_setNumber_14 : decode cX5_setNumber 14 = .ok (.return_, 1) := by decide +kernel
set_option maxRecDepth 20000 in
theorem ggX5_chancesOfTen_X5_chancesOfSet : GoodIn wsX5_chancesOfTen wsX5_chancesOfSet := goodIn_r _ [9, 10, 11, 12, 13, 14, 15, 16, 17, 18, 8, 19] (by decide +kernel) (by decide +kernel)
set_option maxRecDepth 20000 in
theorem gX5_chancesOfTen_X5_chancesOfSet : GoodIn wsX5_chancesOfTen (va_wsS RX5 251 yX5_chancesOfSet wsX5_chancesOfSet) := goodIn_app (goodIn_of _ (by decide +kernel)) ggX5_chancesOfTen_X5_chancesOfSet
set_option maxRecDepth 20000 in
theorem ggX5_chancesOfTen_X4_packed : GoodIn wsX5_chancesOfTen wsX4_packed := goodIn_r _ [24, 25, 26, 27, 28, 29, 30, 184, 185, 186, 187, 188, 189] (by decide +kernel) (by decide +kernel)
set_option maxRecDepth 20000 in
theorem gX5_chancesOfTen_X4_packed : GoodIn wsX5_chancesOfTen (wsV RX5 144 RX4 yX4_packed wsX4_packed) := goodIn_app (goodIn_of _ (by decide +kernel)) ggX5_chancesOfTen_X4_packed
set_option maxRecDepth 20000 in
theorem ggX5_chancesOfTen_X4_unpack : GoodIn wsX5_chancesOfTen wsX4_unpack := goodIn_r _ [34, 25, 26, 27, 28, 29, 30, 184, 185, 186, 187, 188, 189] (by decide +kernel) (by decide +kernel)
set_option maxRecDepth 20000 in
theorem gX5_chancesOfTen_X4_unpack : GoodIn wsX5_chancesOfTen (wsV RX5 186 RX4 yX4_unpack wsX4_unpack) := goodIn_app (goodIn_of _ (by decide +kernel)) ggX5_chancesOfTen_X4_unpack
set_option maxRecDepth 20000 in
theorem ggX5_chancesOfTen_X2_endsWellWith : GoodIn wsX5_chancesOfTen wsX2_endsWellWith := goodIn_r _ [39, 40, 41, 42, 43, 38, 44, 45, 46, 47, 48, 49, 50, 51, 52, 53, 54, 21, 22, 23, 24, 25, 26, 27, 28, 29, 30, 55, 32, 33, 34, 56, 57, 58, 59, 60, 61, 62, 63, 64, 65, 8, 66, 67, 68, 69, 70, 71, 72, 73, 74, 75, 76, 77, 78, 79, 80, 81, 82, 83, 84, 85, 86, 87, 88, 89, 90, 91, 11, 12, 13, 14, 15, 16, 92, 93, 94, 95, 96, 97, 98, 99, 100, 101, 102, 103, 104, 105, 106, 107, 108, 109, 110, 111, 112, 113, 114, 115, 116, 117, 118, 119, 120, 121, 122, 123, 124, 125, 126, 127, 128, 129, 130, 131, 132, 133, 134, 135, 136, 137, 138, 139, 140, 141, 142, 143, 144, 145, 146, 147, 148, 149, 150, 151, 152, 153, 154, 155, 156, 157, 158, 159, 160, 161, 162, 163, 164, 165, 166, 167, 168, 169, 170, 171, 172, 190, 191, 192, 193, 194, 195, 196, 197, 184, 185, 186, 187, 188, 189, 198, 199, 200, 201, 202, 203, 204, 205, 206, 207, 208, 209, 210, 211, 212, 213, 214] (by decide +kernel) (by decide +kernel)
set_option maxRecDepth 20000 in
theorem gX5_chancesOfTen_X2_endsWellWith : GoodIn wsX5_chancesOfTen (wsV RX5 255 RX2 yX2_endsWellWith wsX2_endsWellWith) := goodIn_app (goodIn_of _ (by decide +kernel)) ggX5_chancesOfTen_X2_endsWellWith
theorem dX5_chancesOfTen_0 : decode cX5_chancesOfTen 0 = .ok (.iconst 0, 1) := by decide +kernel
theorem dX5_chancesOfTen_1 : decode cX5_chancesOfTen 1 = .ok (.istore_n 3, 1) := by decide +kernel
theorem dX5_chancesOfTen_2 : decode cX5_chancesOfTen 2 = .ok (.iconst 0, 1) := by decide +kernel
theorem dX5_chancesOfTen_3 : decode cX5_chancesOfTen 3 = .ok (.istore 4, 2) := by decide +kernel
theorem dX5_chancesOfTen_5 : decode cX5_chancesOfTen 5 = .ok (.iload 4, 2) := by decide +kernel
theorem dX5_chancesOfTen_7 : decode cX5_chancesOfTen 7 = .ok (.sipush 256, 3) := by decide +kernel
theorem dX5_chancesOfTen_10 : decode cX5_chancesOfTen 10 = .ok (.if_icmp .ge 91, 3) := by decide +kernel
theorem dX5_chancesOfTen_13 : decode cX5_chancesOfTen 13 = .ok (.iload 4, 2) := by decide +kernel
theorem dX5_chancesOfTen_15 : decode cX5_chancesOfTen 15 = .ok (.iload_n 1, 1) := by decide +kernel
theorem dX5_chancesOfTen_16 : decode cX5_chancesOfTen 16 = .ok (.iconst (-1), 1) := by decide +kernel
theorem dX5_chancesOfTen_17 : decode cX5_chancesOfTen 17 = .ok (.ixor, 1) := by decide +kernel
theorem dX5_chancesOfTen_18 : decode cX5_chancesOfTen 18 = .ok (.iand, 1) := by decide +kernel
theorem dX5_chancesOfTen_19 : decode cX5_chancesOfTen 19 = .ok (.ifCond .ne 13, 3) := by decide +kernel
theorem dX5_chancesOfTen_22 : decode cX5_chancesOfTen 22 = .ok (.iload_n 1, 1) := by decide +kernel
theorem dX5_chancesOfTen_23 : decode cX5_chancesOfTen 23 = .ok (.iload 4, 2) := by decide +kernel
theorem dX5_chancesOfTen_25 : decode cX5_chancesOfTen 25 = .ok (.iload_n 2, 1) := by decide +kernel
theorem dX5_chancesOfTen_26 : decode cX5_chancesOfTen 26 = .ok (.invokestatic 251, 3) := by decide +kernel
theorem dX5_chancesOfTen_29 : decode cX5_chancesOfTen 29 = .ok (.goto 4, 3) := by decide +kernel
theorem dX5_chancesOfTen_32 : decode cX5_chancesOfTen 32 = .ok (.iconst 0, 1) := by decide +kernel
theorem dX5_chancesOfTen_33 : decode cX5_chancesOfTen 33 = .ok (.istore 5, 2) := by decide +kernel
theorem dX5_chancesOfTen_35 : decode cX5_chancesOfTen 35 = .ok (.iload 5, 2) := by decide +kernel
theorem dX5_chancesOfTen_37 : decode cX5_chancesOfTen 37 = .ok (.ifCond .ne 6, 3) := by decide +kernel
theorem dX5_chancesOfTen_40 : decode cX5_chancesOfTen 40 = .ok (.goto 55, 3) := by decide +kernel
theorem dX5_chancesOfTen_43 : decode cX5_chancesOfTen 43 = .ok (.aload_n 0, 1) := by decide +kernel
theorem dX5_chancesOfTen_44 : decode cX5_chancesOfTen 44 = .ok (.getfield 30, 3) := by decide +kernel
theorem dX5_chancesOfTen_47 : decode cX5_chancesOfTen 47 = .ok (.aload_n 0, 1) := by decide +kernel
theorem dX5_chancesOfTen_48 : decode cX5_chancesOfTen 48 = .ok (.getfield 26, 3) := by decide +kernel
theorem dX5_chancesOfTen_51 : decode cX5_chancesOfTen 51 = .ok (.invokevirtual 144, 3) := by decide +kernel
theorem dX5_chancesOfTen_54 : decode cX5_chancesOfTen 54 = .ok (.invokevirtual 186, 3) := by decide +kernel
theorem dX5_chancesOfTen_57 : decode cX5_chancesOfTen 57 = .ok (.aload_n 0, 1) := by decide +kernel
theorem dX5_chancesOfTen_58 : decode cX5_chancesOfTen 58 = .ok (.getfield 30, 3) := by decide +kernel
theorem dX5_chancesOfTen_61 : decode cX5_chancesOfTen 61 = .ok (.dup, 1) := by decide +kernel
theorem dX5_chancesOfTen_62 : decode cX5_chancesOfTen 62 = .ok (.getfield 112, 3) := by decide +kernel
theorem dX5_chancesOfTen_65 : decode cX5_chancesOfTen 65 = .ok (.iload 4, 2) := by decide +kernel
theorem dX5_chancesOfTen_67 : decode cX5_chancesOfTen 67 = .ok (.ior, 1) := by decide +kernel
theorem dX5_chancesOfTen_68 : decode cX5_chancesOfTen 68 = .ok (.putfield 112, 3) := by decide +kernel
theorem dX5_chancesOfTen_71 : decode cX5_chancesOfTen 71 = .ok (.aload_n 0, 1) := by decide +kernel
theorem dX5_chancesOfTen_72 : decode cX5_chancesOfTen 72 = .ok (.getfield 60, 3) := by decide +kernel
theorem dX5_chancesOfTen_75 : decode cX5_chancesOfTen 75 = .ok (.aload_n 0, 1) := by decide +kernel
theorem dX5_chancesOfTen_76 : decode cX5_chancesOfTen 76 = .ok (.getfield 16, 3) := by decide +kernel
theorem dX5_chancesOfTen_79 : decode cX5_chancesOfTen 79 = .ok (.aload_n 0, 1) := by decide +kernel
theorem dX5_chancesOfTen_80 : decode cX5_chancesOfTen 80 = .ok (.getfield 30, 3) := by decide +kernel
theorem dX5_chancesOfTen_83 : decode cX5_chancesOfTen 83 = .ok (.iconst 0, 1) := by decide +kernel
theorem dX5_chancesOfTen_84 : decode cX5_chancesOfTen 84 = .ok (.invokevirtual 255, 3) := by decide +kernel
theorem dX5_chancesOfTen_87 : decode cX5_chancesOfTen 87 = .ok (.ifCond .eq 8, 3) := by decide +kernel
theorem dX5_chancesOfTen_90 : decode cX5_chancesOfTen 90 = .ok (.iload_n 3, 1) := by decide +kernel
theorem dX5_chancesOfTen_91 : decode cX5_chancesOfTen 91 = .ok (.iload 5, 2) := by decide +kernel
theorem dX5_chancesOfTen_93 : decode cX5_chancesOfTen 93 = .ok (.iadd, 1) := by decide +kernel
theorem dX5_chancesOfTen_94 : decode cX5_chancesOfTen 94 = .ok (.istore_n 3, 1) := by decide +kernel
theorem dX5_chancesOfTen_95 : decode cX5_chancesOfTen 95 = .ok (.iinc 4 1, 3) := by decide +kernel
theorem dX5_chancesOfTen_98 : decode cX5_chancesOfTen 98 = .ok (.goto (-93), 3) := by decide +kernel
theorem dX5_chancesOfTen_101 : decode cX5_chancesOfTen 101 = .ok (.iload_n 3, 1) := by decide +kernel
theorem dX5_chancesOfTen_102 : decode cX5_chancesOfTen 102 = .ok (.ireturn, 1) := by decide +kernel
set_option maxRecDepth 20000 in
theorem ggX5_chancesOfSet_J6_bitCount_0f7a4 : GoodIn wsX5_chancesOfSet wsJ6_bitCount_0f7a4 := goodIn_r _ [4, 5, 6, 7] (by decide +kernel) (by decide +kernel)
set_option maxRecDepth 20000 in
theorem gX5_chancesOfSet_J6_bitCount_0f7a4 : GoodIn wsX5_chancesOfSet (va_wsS RX5 172 yJ6_bitCount_0f7a4 wsJ6_bitCount_0f7a4) := goodIn_app (goodIn_of _ (by decide +kernel)) ggX5_chancesOfSet_J6_bitCount_0f7a4
set_option maxRecDepth 20000 in
theorem ggX5_chancesOfSet_X5_power : GoodIn wsX5_chancesOfSet wsX5_power := goodIn_r _ [11] (by decide +kernel) (by decide +kernel)
set_option maxRecDepth 20000 in
theorem gX5_chancesOfSet_X5_power : GoodIn wsX5_chancesOfSet (va_wsS RX5 228 yX5_power wsX5_power) := goodIn_app (goodIn_of _ (by decide +kernel)) ggX5_chancesOfSet_X5_power
theorem dX5_chancesOfSet_0 : decode cX5_chancesOfSet 0 = .ok (.iload_n 1, 1) := by decide +kernel
theorem dX5_chancesOfSet_1 : decode cX5_chancesOfSet 1 = .ok (.invokestatic 172, 3) := by decide +kernel
theorem dX5_chancesOfSet_4 : decode cX5_chancesOfSet 4 = .ok (.istore_n 3, 1) := by decide +kernel
theorem dX5_chancesOfSet_5 : decode cX5_chancesOfSet 5 = .ok (.iload_n 2, 1) := by decide +kernel
theorem dX5_chancesOfSet_6 : decode cX5_chancesOfSet 6 = .ok (.iload_n 3, 1) := by decide +kernel
theorem dX5_chancesOfSet_7 : decode cX5_chancesOfSet 7 = .ok (.invokestatic 228, 3) := by decide +kernel
theorem dX5_chancesOfSet_10 : decode cX5_chancesOfSet 10 = .ok (.bipush 10, 2) := by decide +kernel
theorem dX5_chancesOfSet_12 : decode cX5_chancesOfSet 12 = .ok (.iload_n 2, 1) := by decide +kernel
theorem dX5_chancesOfSet_13 : decode cX5_chancesOfSet 13 = .ok (.isub, 1) := by decide +kernel
theorem dX5_chancesOfSet_14 : decode cX5_chancesOfSet 14 = .ok (.iload_n 0, 1) := by decide +kernel
theorem dX5_chancesOfSet_15 : decode cX5_chancesOfSet 15 = .ok (.invokestatic 172, 3) := by decide +kernel
theorem dX5_chancesOfSet_18 : decode cX5_chancesOfSet 18 = .ok (.iload_n 3, 1) := by decide +kernel
theorem dX5_chancesOfSet_19 : decode cX5_chancesOfSet 19 = .ok (.isub, 1) := by decide +kernel
theorem dX5_chancesOfSet_20 : decode cX5_chancesOfSet 20 = .ok (.invokestatic 228, 3) := by decide +kernel
theorem dX5_chancesOfSet_23 : decode cX5_chancesOfSet 23 = .ok (.imul, 1) := by decide +kernel
theorem dX5_chancesOfSet_24 : decode cX5_chancesOfSet 24 = .ok (.ireturn, 1) := by decide +kernel
theorem dX5_power_0 : decode cX5_power 0 = .ok (.iconst 1, 1) := by decide +kernel
theorem dX5_power_1 : decode cX5_power 1 = .ok (.istore_n 2, 1) := by decide +kernel
theorem dX5_power_2 : decode cX5_power 2 = .ok (.iconst 0, 1) := by decide +kernel
theorem dX5_power_3 : decode cX5_power 3 = .ok (.istore_n 3, 1) := by decide +kernel
theorem dX5_power_4 : decode cX5_power 4 = .ok (.iload_n 3, 1) := by decide +kernel
theorem dX5_power_5 : decode cX5_power 5 = .ok (.iload_n 1, 1) := by decide +kernel
theorem dX5_power_6 : decode cX5_power 6 = .ok (.if_icmp .ge 13, 3) := by decide +kernel
theorem dX5_power_9 : decode cX5_power 9 = .ok (.iload_n 2, 1) := by decide +kernel
theorem dX5_power_10 : decode cX5_power 10 = .ok (.iload_n 0, 1) := by decide +kernel
theorem dX5_power_11 : decode cX5_power 11 = .ok (.imul, 1) := by decide +kernel
theorem dX5_power_12 : decode cX5_power 12 = .ok (.istore_n 2, 1) := by decide +kernel
theorem dX5_power_13 : decode cX5_power 13 = .ok (.iinc 3 1, 3) := by decide +kernel
theorem dX5_power_16 : decode cX5_power 16 = .ok (.goto (-12), 3) := by decide +kernel
theorem dX5_power_19 : decode cX5_power 19 = .ok (.iload_n 2, 1) := by decide +kernel
theorem dX5_power_20 : decode cX5_power 20 = .ok (.ireturn, 1) := by decide +kernel
theorem dX5_commonDivisor_0 : decode cX5_commonDivisor 0 = .ok (.iload_n 0, 1) := by decide +kernel
theorem dX5_commonDivisor_1 : decode cX5_commonDivisor 1 = .ok (.istore_n 2, 1) := by decide +kernel
theorem dX5_commonDivisor_2 : decode cX5_commonDivisor 2 = .ok (.iload_n 1, 1) := by decide +kernel
theorem dX5_commonDivisor_3 : decode cX5_commonDivisor 3 = .ok (.istore_n 3, 1) := by decide +kernel
theorem dX5_commonDivisor_4 : decode cX5_commonDivisor 4 = .ok (.iconst 0, 1) := by decide +kernel
theorem dX5_commonDivisor_5 : decode cX5_commonDivisor 5 = .ok (.istore 4, 2) := by decide +kernel
theorem dX5_commonDivisor_7 : decode cX5_commonDivisor 7 = .ok (.iload 4, 2) := by decide +kernel
theorem dX5_commonDivisor_9 : decode cX5_commonDivisor 9 = .ok (.sipush 1000, 3) := by decide +kernel
theorem dX5_commonDivisor_12 : decode cX5_commonDivisor 12 = .ok (.if_icmp .ge 23, 3) := by decide +kernel
theorem dX5_commonDivisor_15 : decode cX5_commonDivisor 15 = .ok (.iload_n 3, 1) := by decide +kernel
theorem dX5_commonDivisor_16 : decode cX5_commonDivisor 16 = .ok (.ifCond .eq 19, 3) := by decide +kernel
theorem dX5_commonDivisor_19 : decode cX5_commonDivisor 19 = .ok (.iload_n 2, 1) := by decide +kernel
theorem dX5_commonDivisor_20 : decode cX5_commonDivisor 20 = .ok (.iload_n 3, 1) := by decide +kernel
theorem dX5_commonDivisor_21 : decode cX5_commonDivisor 21 = .ok (.irem, 1) := by decide +kernel
theorem dX5_commonDivisor_22 : decode cX5_commonDivisor 22 = .ok (.istore 5, 2) := by decide +kernel
theorem dX5_commonDivisor_24 : decode cX5_commonDivisor 24 = .ok (.iload_n 3, 1) := by decide +kernel
theorem dX5_commonDivisor_25 : decode cX5_commonDivisor 25 = .ok (.istore_n 2, 1) := by decide +kernel
theorem dX5_commonDivisor_26 : decode cX5_commonDivisor 26 = .ok (.iload 5, 2) := by decide +kernel
theorem dX5_commonDivisor_28 : decode cX5_commonDivisor 28 = .ok (.istore_n 3, 1) := by decide +kernel
theorem dX5_commonDivisor_29 : decode cX5_commonDivisor 29 = .ok (.iinc 4 1, 3) := by decide +kernel
theorem dX5_commonDivisor_32 : decode cX5_commonDivisor 32 = .ok (.goto (-25), 3) := by decide +kernel
theorem dX5_commonDivisor_35 : decode cX5_commonDivisor 35 = .ok (.iload_n 2, 1) := by decide +kernel
theorem dX5_commonDivisor_36 : decode cX5_commonDivisor 36 = .ok (.ireturn, 1) := by decide +kernel
theorem dX5_drawOf_0 : decode cX5_drawOf 0 = .ok (.ldc2_w 259, 3) := by decide +kernel
theorem dX5_drawOf_3 : decode cX5_drawOf 3 = .ok (.iload_n 0, 1) := by decide +kernel
theorem dX5_drawOf_4 : decode cX5_drawOf 4 = .ok (.i2l, 1) := by decide +kernel
theorem dX5_drawOf_5 : decode cX5_drawOf 5 = .ok (.lmul, 1) := by decide +kernel
theorem dX5_drawOf_6 : decode cX5_drawOf 6 = .ok (.ldc2_w 261, 3) := by decide +kernel
theorem dX5_drawOf_9 : decode cX5_drawOf 9 = .ok (.iload_n 1, 1) := by decide +kernel
theorem dX5_drawOf_10 : decode cX5_drawOf 10 = .ok (.i2l, 1) := by decide +kernel
theorem dX5_drawOf_11 : decode cX5_drawOf 11 = .ok (.lmul, 1) := by decide +kernel
theorem dX5_drawOf_12 : decode cX5_drawOf 12 = .ok (.ladd, 1) := by decide +kernel
theorem dX5_drawOf_13 : decode cX5_drawOf 13 = .ok (.lconst 1, 1) := by decide +kernel
theorem dX5_drawOf_14 : decode cX5_drawOf 14 = .ok (.ladd, 1) := by decide +kernel
theorem dX5_drawOf_15 : decode cX5_drawOf 15 = .ok (.lstore_n 2, 1) := by decide +kernel
theorem dX5_drawOf_16 : decode cX5_drawOf 16 = .ok (.lload_n 2, 1) := by decide +kernel
theorem dX5_drawOf_17 : decode cX5_drawOf 17 = .ok (.lload_n 2, 1) := by decide +kernel
theorem dX5_drawOf_18 : decode cX5_drawOf 18 = .ok (.lmul, 1) := by decide +kernel
theorem dX5_drawOf_19 : decode cX5_drawOf 19 = .ok (.ldc2_w 263, 3) := by decide +kernel
theorem dX5_drawOf_22 : decode cX5_drawOf 22 = .ok (.lrem, 1) := by decide +kernel
theorem dX5_drawOf_23 : decode cX5_drawOf 23 = .ok (.ldc2_w 265, 3) := by decide +kernel
theorem dX5_drawOf_26 : decode cX5_drawOf 26 = .ok (.ldiv, 1) := by decide +kernel
theorem dX5_drawOf_27 : decode cX5_drawOf 27 = .ok (.l2i, 1) := by decide +kernel
theorem dX5_drawOf_28 : decode cX5_drawOf 28 = .ok (.ireturn, 1) := by decide +kernel
set_option maxRecDepth 20000 in
theorem ggX5_kingGoesOn_X4_tryRide : GoodIn wsX5_kingGoesOn wsX4_tryRide := goodIn_r _ [8, 9, 10, 11, 12, 13, 14, 15, 7, 16, 17, 18, 19, 20, 21, 22, 23, 24, 25, 26, 27, 28, 29, 30, 31, 32, 33, 34, 35, 36, 37, 38, 39, 40, 41, 42, 43, 44, 45, 46, 47, 48, 49, 50, 51, 52, 53, 54, 55, 56, 57, 58, 59, 60, 61, 62, 63, 64, 65, 110, 111, 112, 113, 114, 115, 96, 97, 98, 99, 100, 101, 102, 103, 104, 105, 106, 107, 108, 109] (by decide +kernel) (by decide +kernel)
set_option maxRecDepth 20000 in
theorem gX5_kingGoesOn_X4_tryRide : GoodIn wsX5_kingGoesOn (wsV RX5 159 RX4 yX4_tryRide wsX4_tryRide) := goodIn_app (goodIn_of _ (by decide +kernel)) ggX5_kingGoesOn_X4_tryRide
set_option maxRecDepth 20000 in
theorem ggX5_kingGoesOn_X4_tryBefriend : GoodIn wsX5_kingGoesOn wsX4_tryBefriend := goodIn_r _ [69, 39, 70, 71, 72, 73, 32, 74, 75, 26, 27, 28, 110, 111, 112, 113, 114, 115, 96, 97, 98, 99, 100, 101, 102, 103, 104, 105, 106, 107, 108, 109] (by decide +kernel) (by decide +kernel)
set_option maxRecDepth 20000 in
theorem gX5_kingGoesOn_X4_tryBefriend : GoodIn wsX5_kingGoesOn (wsV RX5 148 RX4 yX4_tryBefriend wsX4_tryBefriend) := goodIn_app (goodIn_of _ (by decide +kernel)) ggX5_kingGoesOn_X4_tryBefriend
set_option maxRecDepth 20000 in
theorem ggX5_kingGoesOn_X4_trySuggest : GoodIn wsX5_kingGoesOn wsX4_trySuggest := goodIn_r _ [79, 12, 80, 81, 82, 7, 83, 84, 17, 18, 19, 20, 10, 21, 26, 27, 28, 110, 111, 112, 113, 114, 115, 96, 97, 98, 99, 100, 101, 102, 103, 104, 105, 106, 107, 108, 109] (by decide +kernel) (by decide +kernel)
set_option maxRecDepth 20000 in
theorem gX5_kingGoesOn_X4_trySuggest : GoodIn wsX5_kingGoesOn (wsV RX5 165 RX4 yX4_trySuggest wsX4_trySuggest) := goodIn_app (goodIn_of _ (by decide +kernel)) ggX5_kingGoesOn_X4_trySuggest
theorem dX5_kingGoesOn_0 : decode cX5_kingGoesOn 0 = .ok (.aload_n 0, 1) := by decide +kernel
theorem dX5_kingGoesOn_1 : decode cX5_kingGoesOn 1 = .ok (.getfield 16, 3) := by decide +kernel
theorem dX5_kingGoesOn_4 : decode cX5_kingGoesOn 4 = .ok (.getfield 92, 3) := by decide +kernel
theorem dX5_kingGoesOn_7 : decode cX5_kingGoesOn 7 = .ok (.iconst 1, 1) := by decide +kernel
theorem dX5_kingGoesOn_8 : decode cX5_kingGoesOn 8 = .ok (.if_icmp .ge 4, 3) := by decide +kernel
theorem dX5_kingGoesOn_11 : decode cX5_kingGoesOn 11 = .ok (.return_, 1) := by decide +kernel
theorem dX5_kingGoesOn_12 : decode cX5_kingGoesOn 12 = .ok (.iload_n 2, 1) := by decide +kernel
theorem dX5_kingGoesOn_13 : decode cX5_kingGoesOn 13 = .ok (.aload_n 0, 1) := by decide +kernel
theorem dX5_kingGoesOn_14 : decode cX5_kingGoesOn 14 = .ok (.getfield 16, 3) := by decide +kernel
theorem dX5_kingGoesOn_17 : decode cX5_kingGoesOn 17 = .ok (.getfield 92, 3) := by decide +kernel
theorem dX5_kingGoesOn_20 : decode cX5_kingGoesOn 20 = .ok (.irem, 1) := by decide +kernel
theorem dX5_kingGoesOn_21 : decode cX5_kingGoesOn 21 = .ok (.istore_n 3, 1) := by decide +kernel
theorem dX5_kingGoesOn_22 : decode cX5_kingGoesOn 22 = .ok (.aload_n 1, 1) := by decide +kernel
theorem dX5_kingGoesOn_23 : decode cX5_kingGoesOn 23 = .ok (.aload_n 0, 1) := by decide +kernel
theorem dX5_kingGoesOn_24 : decode cX5_kingGoesOn 24 = .ok (.getfield 16, 3) := by decide +kernel
theorem dX5_kingGoesOn_27 : decode cX5_kingGoesOn 27 = .ok (.iload_n 3, 1) := by decide +kernel
theorem dX5_kingGoesOn_28 : decode cX5_kingGoesOn 28 = .ok (.invokevirtual 159, 3) := by decide +kernel
theorem dX5_kingGoesOn_31 : decode cX5_kingGoesOn 31 = .ok (.ifCond .eq 4, 3) := by decide +kernel
theorem dX5_kingGoesOn_34 : decode cX5_kingGoesOn 34 = .ok (.return_, 1) := by decide +kernel
theorem dX5_kingGoesOn_35 : decode cX5_kingGoesOn 35 = .ok (.aload_n 0, 1) := by decide +kernel
theorem dX5_kingGoesOn_36 : decode cX5_kingGoesOn 36 = .ok (.getfield 16, 3) := by decide +kernel
theorem dX5_kingGoesOn_39 : decode cX5_kingGoesOn 39 = .ok (.getfield 245, 3) := by decide +kernel
theorem dX5_kingGoesOn_42 : decode cX5_kingGoesOn 42 = .ok (.ifCond .le 27, 3) := by decide +kernel
theorem dX5_kingGoesOn_45 : decode cX5_kingGoesOn 45 = .ok (.aload_n 1, 1) := by decide +kernel
theorem dX5_kingGoesOn_46 : decode cX5_kingGoesOn 46 = .ok (.aload_n 0, 1) := by decide +kernel
theorem dX5_kingGoesOn_47 : decode cX5_kingGoesOn 47 = .ok (.getfield 16, 3) := by decide +kernel
theorem dX5_kingGoesOn_50 : decode cX5_kingGoesOn 50 = .ok (.iload_n 2, 1) := by decide +kernel
theorem dX5_kingGoesOn_51 : decode cX5_kingGoesOn 51 = .ok (.bipush 8, 2) := by decide +kernel
theorem dX5_kingGoesOn_53 : decode cX5_kingGoesOn 53 = .ok (.idiv, 1) := by decide +kernel
theorem dX5_kingGoesOn_54 : decode cX5_kingGoesOn 54 = .ok (.aload_n 0, 1) := by decide +kernel
theorem dX5_kingGoesOn_55 : decode cX5_kingGoesOn 55 = .ok (.getfield 16, 3) := by decide +kernel
theorem dX5_kingGoesOn_58 : decode cX5_kingGoesOn 58 = .ok (.getfield 245, 3) := by decide +kernel
theorem dX5_kingGoesOn_61 : decode cX5_kingGoesOn 61 = .ok (.irem, 1) := by decide +kernel
theorem dX5_kingGoesOn_62 : decode cX5_kingGoesOn 62 = .ok (.invokevirtual 148, 3) := by decide +kernel
theorem dX5_kingGoesOn_65 : decode cX5_kingGoesOn 65 = .ok (.ifCond .eq 4, 3) := by decide +kernel
theorem dX5_kingGoesOn_68 : decode cX5_kingGoesOn 68 = .ok (.return_, 1) := by decide +kernel
theorem dX5_kingGoesOn_69 : decode cX5_kingGoesOn 69 = .ok (.aload_n 1, 1) := by decide +kernel
theorem dX5_kingGoesOn_70 : decode cX5_kingGoesOn 70 = .ok (.aload_n 0, 1) := by decide +kernel
theorem dX5_kingGoesOn_71 : decode cX5_kingGoesOn 71 = .ok (.getfield 16, 3) := by decide +kernel
theorem dX5_kingGoesOn_74 : decode cX5_kingGoesOn 74 = .ok (.iload_n 3, 1) := by decide +kernel
theorem dX5_kingGoesOn_75 : decode cX5_kingGoesOn 75 = .ok (.invokevirtual 165, 3) := by decide +kernel
theorem dX5_kingGoesOn_78 : decode cX5_kingGoesOn 78 = .ok (.pop, 1) := by decide +kernel
theorem dX5_kingGoesOn_79 : decode cX5_kingGoesOn 79 = .ok (.return_, 1) := by decide +kernel
