theorem dX0_init_0 : decode cX0_init 0 = .ok (.aload_n 0, 1) := by decide +kernel
theorem dX0_init_1 : decode cX0_init 1 = .ok (.invokespecial 3, 3) := by decide +kernel
theorem dX0_init_4 : decode cX0_init 4 = .ok (.aload_n 0, 1) := by decide +kernel
theorem dX0_init_5 : decode cX0_init 5 = .ok (.new 9, 3) := by decide +kernel
theorem dX0_init_8 : decode cX0_init 8 = .ok (.dup, 1) := by decide +kernel
theorem dX0_init_9 : decode cX0_init 9 = .ok (.invokespecial 11, 3) := by decide +kernel
theorem dX0_init_12 : decode cX0_init 12 = .ok (.putfield 12, 3) := by decide +kernel
theorem dX0_init_15 : decode cX0_init 15 = .ok (.aload_n 0, 1) := by decide +kernel
theorem dX0_init_16 : decode cX0_init 16 = .ok (.new 18, 3) := by decide +kernel
theorem dX0_init_19 : decode cX0_init 19 = .ok (.dup, 1) := by decide +kernel
theorem dX0_init_20 : decode cX0_init 20 = .ok (.invokespecial 20, 3) := by decide +kernel
theorem dX0_init_23 : decode cX0_init 23 = .ok (.putfield 21, 3) := by decide +kernel
theorem dX0_init_26 : decode cX0_init 26 = .ok (.aload_n 0, 1) := by decide +kernel
theorem dX0_init_27 : decode cX0_init 27 = .ok (.iconst 0, 1) := by decide +kernel
theorem dX0_init_28 : decode cX0_init 28 = .ok (.putfield 25, 3) := by decide +kernel
theorem dX0_init_31 : decode cX0_init 31 = .ok (.aload_n 0, 1) := by decide +kernel
theorem dX0_init_32 : decode cX0_init 32 = .ok (.iconst 0, 1) := by decide +kernel
theorem dX0_init_33 : decode cX0_init 33 = .ok (.putfield 29, 3) := by decide +kernel
theorem dX0_init_36 : decode cX0_init 36 = .ok (.aload_n 0, 1) := by decide +kernel
theorem dX0_init_37 : decode cX0_init 37 = .ok (.iconst 0, 1) := by decide +kernel
theorem dX0_init_38 : decode cX0_init 38 = .ok (.putfield 33, 3) := by decide +kernel
theorem dX0_init_41 : decode cX0_init 41 = .ok (.aload_n 0, 1) := by decide +kernel
theorem dX0_init_42 : decode cX0_init 42 = .ok (.iconst 0, 1) := by decide +kernel
theorem dX0_init_43 : decode cX0_init 43 = .ok (.putfield 36, 3) := by decide +kernel
theorem dX0_init_46 : decode cX0_init 46 = .ok (.aload_n 0, 1) := by decide +kernel
theorem dX0_init_47 : decode cX0_init 47 = .ok (.iconst 0, 1) := by decide +kernel
theorem dX0_init_48 : decode cX0_init 48 = .ok (.putfield 39, 3) := by decide +kernel
theorem dX0_init_51 : decode cX0_init 51 = .ok (.aload_n 0, 1) := by decide +kernel
theorem dX0_init_52 : decode cX0_init 52 = .ok (.iconst 0, 1) := by decide +kernel
theorem dX0_init_53 : decode cX0_init 53 = .ok (.putfield 42, 3) := by decide +kernel
theorem dX0_init_56 : decode cX0_init 56 = .ok (.aload_n 0, 1) := by decide +kernel
theorem dX0_init_57 : decode cX0_init 57 = .ok (.iconst 0, 1) := by decide +kernel
theorem dX0_init_58 : decode cX0_init 58 = .ok (.putfield 45, 3) := by decide +kernel
theorem dX0_init_61 : decode cX0_init 61 = .ok (.aload_n 0, 1) := by decide +kernel
theorem dX0_init_62 : decode cX0_init 62 = .ok (.iconst 0, 1) := by decide +kernel
theorem dX0_init_63 : decode cX0_init 63 = .ok (.putfield 48, 3) := by decide +kernel
theorem dX0_init_66 : decode cX0_init 66 = .ok (.return_, 1) := by decide +kernel
theorem dX0_begin_0 : decode cX0_begin 0 = .ok (.aload_n 0, 1) := by decide +kernel
theorem dX0_begin_1 : decode cX0_begin 1 = .ok (.iload_n 1, 1) := by decide +kernel
theorem dX0_begin_2 : decode cX0_begin 2 = .ok (.putfield 29, 3) := by decide +kernel
theorem dX0_begin_5 : decode cX0_begin 5 = .ok (.aload_n 0, 1) := by decide +kernel
theorem dX0_begin_6 : decode cX0_begin 6 = .ok (.iload_n 2, 1) := by decide +kernel
theorem dX0_begin_7 : decode cX0_begin 7 = .ok (.putfield 33, 3) := by decide +kernel
theorem dX0_begin_10 : decode cX0_begin 10 = .ok (.aload_n 0, 1) := by decide +kernel
theorem dX0_begin_11 : decode cX0_begin 11 = .ok (.iload_n 3, 1) := by decide +kernel
theorem dX0_begin_12 : decode cX0_begin 12 = .ok (.putfield 36, 3) := by decide +kernel
theorem dX0_begin_15 : decode cX0_begin 15 = .ok (.aload_n 0, 1) := by decide +kernel
theorem dX0_begin_16 : decode cX0_begin 16 = .ok (.iconst 0, 1) := by decide +kernel
theorem dX0_begin_17 : decode cX0_begin 17 = .ok (.putfield 39, 3) := by decide +kernel
theorem dX0_begin_20 : decode cX0_begin 20 = .ok (.aload_n 0, 1) := by decide +kernel
theorem dX0_begin_21 : decode cX0_begin 21 = .ok (.iconst 0, 1) := by decide +kernel
theorem dX0_begin_22 : decode cX0_begin 22 = .ok (.putfield 42, 3) := by decide +kernel
theorem dX0_begin_25 : decode cX0_begin 25 = .ok (.aload_n 0, 1) := by decide +kernel
theorem dX0_begin_26 : decode cX0_begin 26 = .ok (.iconst 0, 1) := by decide +kernel
theorem dX0_begin_27 : decode cX0_begin 27 = .ok (.putfield 45, 3) := by decide +kernel
theorem dX0_begin_30 : decode cX0_begin 30 = .ok (.aload_n 0, 1) := by decide +kernel
theorem dX0_begin_31 : decode cX0_begin 31 = .ok (.iconst 0, 1) := by decide +kernel
theorem dX0_begin_32 : decode cX0_begin 32 = .ok (.putfield 48, 3) := by decide +kernel
theorem dX0_begin_35 : decode cX0_begin 35 = .ok (.return_, 1) := by decide +kernel
theorem dX0_take_0 : decode cX0_take 0 = .ok (.aload_n 0, 1) := by decide +kernel
theorem dX0_take_1 : decode cX0_take 1 = .ok (.getfield 12, 3) := by decide +kernel
theorem dX0_take_4 : decode cX0_take 4 = .ok (.aload_n 1, 1) := by decide +kernel
theorem dX0_take_5 : decode cX0_take 5 = .ok (.getfield 12, 3) := by decide +kernel
theorem dX0_take_8 : decode cX0_take 8 = .ok (.invokevirtual 51, 3) := by decide +kernel
theorem dX0_take_11 : decode cX0_take 11 = .ok (.aload_n 0, 1) := by decide +kernel
theorem dX0_take_12 : decode cX0_take 12 = .ok (.getfield 21, 3) := by decide +kernel
theorem dX0_take_15 : decode cX0_take 15 = .ok (.aload_n 1, 1) := by decide +kernel
theorem dX0_take_16 : decode cX0_take 16 = .ok (.getfield 21, 3) := by decide +kernel
theorem dX0_take_19 : decode cX0_take 19 = .ok (.invokevirtual 55, 3) := by decide +kernel
theorem dX0_take_22 : decode cX0_take 22 = .ok (.aload_n 0, 1) := by decide +kernel
theorem dX0_take_23 : decode cX0_take 23 = .ok (.aload_n 1, 1) := by decide +kernel
theorem dX0_take_24 : decode cX0_take 24 = .ok (.getfield 25, 3) := by decide +kernel
theorem dX0_take_27 : decode cX0_take 27 = .ok (.putfield 25, 3) := by decide +kernel
theorem dX0_take_30 : decode cX0_take 30 = .ok (.aload_n 0, 1) := by decide +kernel
theorem dX0_take_31 : decode cX0_take 31 = .ok (.aload_n 1, 1) := by decide +kernel
theorem dX0_take_32 : decode cX0_take 32 = .ok (.getfield 29, 3) := by decide +kernel
theorem dX0_take_35 : decode cX0_take 35 = .ok (.putfield 29, 3) := by decide +kernel
theorem dX0_take_38 : decode cX0_take 38 = .ok (.aload_n 0, 1) := by decide +kernel
theorem dX0_take_39 : decode cX0_take 39 = .ok (.aload_n 1, 1) := by decide +kernel
theorem dX0_take_40 : decode cX0_take 40 = .ok (.getfield 33, 3) := by decide +kernel
theorem dX0_take_43 : decode cX0_take 43 = .ok (.putfield 33, 3) := by decide +kernel
theorem dX0_take_46 : decode cX0_take 46 = .ok (.aload_n 0, 1) := by decide +kernel
theorem dX0_take_47 : decode cX0_take 47 = .ok (.aload_n 1, 1) := by decide +kernel
theorem dX0_take_48 : decode cX0_take 48 = .ok (.getfield 36, 3) := by decide +kernel
theorem dX0_take_51 : decode cX0_take 51 = .ok (.putfield 36, 3) := by decide +kernel
theorem dX0_take_54 : decode cX0_take 54 = .ok (.aload_n 0, 1) := by decide +kernel
theorem dX0_take_55 : decode cX0_take 55 = .ok (.aload_n 1, 1) := by decide +kernel
theorem dX0_take_56 : decode cX0_take 56 = .ok (.getfield 39, 3) := by decide +kernel
theorem dX0_take_59 : decode cX0_take 59 = .ok (.putfield 39, 3) := by decide +kernel
theorem dX0_take_62 : decode cX0_take 62 = .ok (.aload_n 0, 1) := by decide +kernel
theorem dX0_take_63 : decode cX0_take 63 = .ok (.aload_n 1, 1) := by decide +kernel
theorem dX0_take_64 : decode cX0_take 64 = .ok (.getfield 42, 3) := by decide +kernel
theorem dX0_take_67 : decode cX0_take 67 = .ok (.putfield 42, 3) := by decide +kernel
theorem dX0_take_70 : decode cX0_take 70 = .ok (.aload_n 0, 1) := by decide +kernel
theorem dX0_take_71 : decode cX0_take 71 = .ok (.aload_n 1, 1) := by decide +kernel
theorem dX0_take_72 : decode cX0_take 72 = .ok (.getfield 45, 3) := by decide +kernel
theorem dX0_take_75 : decode cX0_take 75 = .ok (.putfield 45, 3) := by decide +kernel
theorem dX0_take_78 : decode cX0_take 78 = .ok (.aload_n 0, 1) := by decide +kernel
theorem dX0_take_79 : decode cX0_take 79 = .ok (.aload_n 1, 1) := by decide +kernel
theorem dX0_take_80 : decode cX0_take 80 = .ok (.getfield 48, 3) := by decide +kernel
theorem dX0_take_83 : decode cX0_take 83 = .ok (.putfield 48, 3) := by decide +kernel
theorem dX0_take_86 : decode cX0_take 86 = .ok (.return_, 1) := by decide +kernel
theorem dX0_stride_0 : decode cX0_stride 0 = .ok (.aload_n 0, 1) := by decide +kernel
theorem dX0_stride_1 : decode cX0_stride 1 = .ok (.getfield 42, 3) := by decide +kernel
theorem dX0_stride_4 : decode cX0_stride 4 = .ok (.ifCond .eq 5, 3) := by decide +kernel
theorem dX0_stride_7 : decode cX0_stride 7 = .ok (.iconst 0, 1) := by decide +kernel
theorem dX0_stride_8 : decode cX0_stride 8 = .ok (.ireturn, 1) := by decide +kernel
theorem dX0_stride_9 : decode cX0_stride 9 = .ok (.aload_n 0, 1) := by decide +kernel
theorem dX0_stride_10 : decode cX0_stride 10 = .ok (.getfield 33, 3) := by decide +kernel
theorem dX0_stride_13 : decode cX0_stride 13 = .ok (.aload_n 0, 1) := by decide +kernel
theorem dX0_stride_14 : decode cX0_stride 14 = .ok (.getfield 33, 3) := by decide +kernel
theorem dX0_stride_17 : decode cX0_stride 17 = .ok (.imul, 1) := by decide +kernel
theorem dX0_stride_18 : decode cX0_stride 18 = .ok (.aload_n 0, 1) := by decide +kernel
theorem dX0_stride_19 : decode cX0_stride 19 = .ok (.getfield 12, 3) := by decide +kernel
theorem dX0_stride_22 : decode cX0_stride 22 = .ok (.invokevirtual 58, 3) := by decide +kernel
theorem dX0_stride_25 : decode cX0_stride 25 = .ok (.idiv, 1) := by decide +kernel
theorem dX0_stride_26 : decode cX0_stride 26 = .ok (.istore_n 1, 1) := by decide +kernel
theorem dX0_stride_27 : decode cX0_stride 27 = .ok (.aload_n 0, 1) := by decide +kernel
theorem dX0_stride_28 : decode cX0_stride 28 = .ok (.getfield 33, 3) := by decide +kernel
theorem dX0_stride_31 : decode cX0_stride 31 = .ok (.aload_n 0, 1) := by decide +kernel
theorem dX0_stride_32 : decode cX0_stride 32 = .ok (.getfield 12, 3) := by decide +kernel
theorem dX0_stride_35 : decode cX0_stride 35 = .ok (.aload_n 0, 1) := by decide +kernel
theorem dX0_stride_36 : decode cX0_stride 36 = .ok (.getfield 29, 3) := by decide +kernel
theorem dX0_stride_39 : decode cX0_stride 39 = .ok (.aload_n 0, 1) := by decide +kernel
theorem dX0_stride_40 : decode cX0_stride 40 = .ok (.getfield 36, 3) := by decide +kernel
theorem dX0_stride_43 : decode cX0_stride 43 = .ok (.invokevirtual 62, 3) := by decide +kernel
theorem dX0_stride_46 : decode cX0_stride 46 = .ok (.iadd, 1) := by decide +kernel
theorem dX0_stride_47 : decode cX0_stride 47 = .ok (.iload_n 1, 1) := by decide +kernel
theorem dX0_stride_48 : decode cX0_stride 48 = .ok (.isub, 1) := by decide +kernel
theorem dX0_stride_49 : decode cX0_stride 49 = .ok (.aload_n 0, 1) := by decide +kernel
theorem dX0_stride_50 : decode cX0_stride 50 = .ok (.getfield 21, 3) := by decide +kernel
theorem dX0_stride_53 : decode cX0_stride 53 = .ok (.getfield 66, 3) := by decide +kernel
theorem dX0_stride_56 : decode cX0_stride 56 = .ok (.isub, 1) := by decide +kernel
theorem dX0_stride_57 : decode cX0_stride 57 = .ok (.aload_n 0, 1) := by decide +kernel
theorem dX0_stride_58 : decode cX0_stride 58 = .ok (.getfield 21, 3) := by decide +kernel
theorem dX0_stride_61 : decode cX0_stride 61 = .ok (.aload_n 0, 1) := by decide +kernel
theorem dX0_stride_62 : decode cX0_stride 62 = .ok (.getfield 39, 3) := by decide +kernel
theorem dX0_stride_65 : decode cX0_stride 65 = .ok (.invokevirtual 69, 3) := by decide +kernel
theorem dX0_stride_68 : decode cX0_stride 68 = .ok (.isub, 1) := by decide +kernel
theorem dX0_stride_69 : decode cX0_stride 69 = .ok (.istore_n 2, 1) := by decide +kernel
theorem dX0_stride_70 : decode cX0_stride 70 = .ok (.iload_n 2, 1) := by decide +kernel
theorem dX0_stride_71 : decode cX0_stride 71 = .ok (.iconst 3, 1) := by decide +kernel
theorem dX0_stride_72 : decode cX0_stride 72 = .ok (.if_icmp .ge 13, 3) := by decide +kernel
theorem dX0_stride_75 : decode cX0_stride 75 = .ok (.aload_n 0, 1) := by decide +kernel
theorem dX0_stride_76 : decode cX0_stride 76 = .ok (.iconst 1, 1) := by decide +kernel
theorem dX0_stride_77 : decode cX0_stride 77 = .ok (.putfield 42, 3) := by decide +kernel
theorem dX0_stride_80 : decode cX0_stride 80 = .ok (.iconst 0, 1) := by decide +kernel
theorem dX0_stride_81 : decode cX0_stride 81 = .ok (.istore_n 2, 1) := by decide +kernel
theorem dX0_stride_82 : decode cX0_stride 82 = .ok (.goto 32, 3) := by decide +kernel
theorem dX0_stride_85 : decode cX0_stride 85 = .ok (.iload_n 2, 1) := by decide +kernel
theorem dX0_stride_86 : decode cX0_stride 86 = .ok (.aload_n 0, 1) := by decide +kernel
theorem dX0_stride_87 : decode cX0_stride 87 = .ok (.getfield 12, 3) := by decide +kernel
theorem dX0_stride_90 : decode cX0_stride 90 = .ok (.invokevirtual 73, 3) := by decide +kernel
theorem dX0_stride_93 : decode cX0_stride 93 = .ok (.if_icmp .le 11, 3) := by decide +kernel
theorem dX0_stride_96 : decode cX0_stride 96 = .ok (.aload_n 0, 1) := by decide +kernel
theorem dX0_stride_97 : decode cX0_stride 97 = .ok (.iconst 2, 1) := by decide +kernel
theorem dX0_stride_98 : decode cX0_stride 98 = .ok (.putfield 42, 3) := by decide +kernel
theorem dX0_stride_101 : decode cX0_stride 101 = .ok (.goto 13, 3) := by decide +kernel
theorem dX0_stride_104 : decode cX0_stride 104 = .ok (.aload_n 0, 1) := by decide +kernel
theorem dX0_stride_105 : decode cX0_stride 105 = .ok (.iconst 1, 1) := by decide +kernel
theorem dX0_stride_106 : decode cX0_stride 106 = .ok (.aload_n 0, 1) := by decide +kernel
theorem dX0_stride_107 : decode cX0_stride 107 = .ok (.getfield 36, 3) := by decide +kernel
theorem dX0_stride_110 : decode cX0_stride 110 = .ok (.isub, 1) := by decide +kernel
theorem dX0_stride_111 : decode cX0_stride 111 = .ok (.putfield 36, 3) := by decide +kernel
theorem dX0_stride_114 : decode cX0_stride 114 = .ok (.aload_n 0, 1) := by decide +kernel
theorem dX0_stride_115 : decode cX0_stride 115 = .ok (.iload_n 2, 1) := by decide +kernel
theorem dX0_stride_116 : decode cX0_stride 116 = .ok (.putfield 33, 3) := by decide +kernel
theorem dX0_stride_119 : decode cX0_stride 119 = .ok (.aload_n 0, 1) := by decide +kernel
theorem dX0_stride_120 : decode cX0_stride 120 = .ok (.dup, 1) := by decide +kernel
theorem dX0_stride_121 : decode cX0_stride 121 = .ok (.getfield 39, 3) := by decide +kernel
theorem dX0_stride_124 : decode cX0_stride 124 = .ok (.iconst 1, 1) := by decide +kernel
theorem dX0_stride_125 : decode cX0_stride 125 = .ok (.iadd, 1) := by decide +kernel
theorem dX0_stride_126 : decode cX0_stride 126 = .ok (.putfield 39, 3) := by decide +kernel
theorem dX0_stride_129 : decode cX0_stride 129 = .ok (.aload_n 0, 1) := by decide +kernel
theorem dX0_stride_130 : decode cX0_stride 130 = .ok (.dup, 1) := by decide +kernel
theorem dX0_stride_131 : decode cX0_stride 131 = .ok (.getfield 45, 3) := by decide +kernel
theorem dX0_stride_134 : decode cX0_stride 134 = .ok (.iload_n 1, 1) := by decide +kernel
theorem dX0_stride_135 : decode cX0_stride 135 = .ok (.iadd, 1) := by decide +kernel
theorem dX0_stride_136 : decode cX0_stride 136 = .ok (.putfield 45, 3) := by decide +kernel
theorem dX0_stride_139 : decode cX0_stride 139 = .ok (.aload_n 0, 1) := by decide +kernel
theorem dX0_stride_140 : decode cX0_stride 140 = .ok (.dup, 1) := by decide +kernel
theorem dX0_stride_141 : decode cX0_stride 141 = .ok (.getfield 48, 3) := by decide +kernel
theorem dX0_stride_144 : decode cX0_stride 144 = .ok (.aload_n 0, 1) := by decide +kernel
theorem dX0_stride_145 : decode cX0_stride 145 = .ok (.getfield 12, 3) := by decide +kernel
theorem dX0_stride_148 : decode cX0_stride 148 = .ok (.getfield 76, 3) := by decide +kernel
theorem dX0_stride_151 : decode cX0_stride 151 = .ok (.iconst 3, 1) := by decide +kernel
theorem dX0_stride_152 : decode cX0_stride 152 = .ok (.iaload, 1) := by decide +kernel
theorem dX0_stride_153 : decode cX0_stride 153 = .ok (.aload_n 0, 1) := by decide +kernel
theorem dX0_stride_154 : decode cX0_stride 154 = .ok (.getfield 33, 3) := by decide +kernel
theorem dX0_stride_157 : decode cX0_stride 157 = .ok (.bipush 10, 2) := by decide +kernel
theorem dX0_stride_159 : decode cX0_stride 159 = .ok (.idiv, 1) := by decide +kernel
theorem dX0_stride_160 : decode cX0_stride 160 = .ok (.iadd, 1) := by decide +kernel
theorem dX0_stride_161 : decode cX0_stride 161 = .ok (.iadd, 1) := by decide +kernel
theorem dX0_stride_162 : decode cX0_stride 162 = .ok (.putfield 48, 3) := by decide +kernel
theorem dX0_stride_165 : decode cX0_stride 165 = .ok (.iconst 1, 1) := by decide +kernel
theorem dX0_stride_166 : decode cX0_stride 166 = .ok (.ireturn, 1) := by decide +kernel
theorem dX0_strideOn_0 : decode cX0_strideOn 0 = .ok (.iconst 0, 1) := by decide +kernel
theorem dX0_strideOn_1 : decode cX0_strideOn 1 = .ok (.istore_n 2, 1) := by decide +kernel
theorem dX0_strideOn_2 : decode cX0_strideOn 2 = .ok (.iload_n 2, 1) := by decide +kernel
theorem dX0_strideOn_3 : decode cX0_strideOn 3 = .ok (.iload_n 1, 1) := by decide +kernel
theorem dX0_strideOn_4 : decode cX0_strideOn 4 = .ok (.if_icmp .ge 16, 3) := by decide +kernel
theorem dX0_strideOn_7 : decode cX0_strideOn 7 = .ok (.aload_n 0, 1) := by decide +kernel
theorem dX0_strideOn_8 : decode cX0_strideOn 8 = .ok (.invokevirtual 80, 3) := by decide +kernel
theorem dX0_strideOn_11 : decode cX0_strideOn 11 = .ok (.ifCond .eq 9, 3) := by decide +kernel
theorem dX0_strideOn_14 : decode cX0_strideOn 14 = .ok (.iinc 2 1, 3) := by decide +kernel
theorem dX0_strideOn_17 : decode cX0_strideOn 17 = .ok (.goto (-15), 3) := by decide +kernel
theorem dX0_strideOn_20 : decode cX0_strideOn 20 = .ok (.iload_n 2, 1) := by decide +kernel
theorem dX0_strideOn_21 : decode cX0_strideOn 21 = .ok (.ireturn, 1) := by decide +kernel
theorem dX0_value_0 : decode cX0_value 0 = .ok (.iload_n 1, 1) := by decide +kernel
theorem dX0_value_1 : decode cX0_value 1 = .ok (.tableswitch 69 0 5 #[39, 44, 49, 54, 59, 64], 39) := by decide +kernel
theorem dX0_value_40 : decode cX0_value 40 = .ok (.aload_n 0, 1) := by decide +kernel
theorem dX0_value_41 : decode cX0_value 41 = .ok (.getfield 33, 3) := by decide +kernel
theorem dX0_value_44 : decode cX0_value 44 = .ok (.ireturn, 1) := by decide +kernel
theorem dX0_value_45 : decode cX0_value 45 = .ok (.aload_n 0, 1) := by decide +kernel
theorem dX0_value_46 : decode cX0_value 46 = .ok (.getfield 36, 3) := by decide +kernel
theorem dX0_value_49 : decode cX0_value 49 = .ok (.ireturn, 1) := by decide +kernel
theorem dX0_value_50 : decode cX0_value 50 = .ok (.aload_n 0, 1) := by decide +kernel
theorem dX0_value_51 : decode cX0_value 51 = .ok (.getfield 39, 3) := by decide +kernel
theorem dX0_value_54 : decode cX0_value 54 = .ok (.ireturn, 1) := by decide +kernel
theorem dX0_value_55 : decode cX0_value 55 = .ok (.aload_n 0, 1) := by decide +kernel
theorem dX0_value_56 : decode cX0_value 56 = .ok (.getfield 42, 3) := by decide +kernel
theorem dX0_value_59 : decode cX0_value 59 = .ok (.ireturn, 1) := by decide +kernel
theorem dX0_value_60 : decode cX0_value 60 = .ok (.aload_n 0, 1) := by decide +kernel
theorem dX0_value_61 : decode cX0_value 61 = .ok (.getfield 29, 3) := by decide +kernel
theorem dX0_value_64 : decode cX0_value 64 = .ok (.ireturn, 1) := by decide +kernel
theorem dX0_value_65 : decode cX0_value 65 = .ok (.aload_n 0, 1) := by decide +kernel
theorem dX0_value_66 : decode cX0_value 66 = .ok (.getfield 45, 3) := by decide +kernel
theorem dX0_value_69 : decode cX0_value 69 = .ok (.ireturn, 1) := by decide +kernel
theorem dX0_value_70 : decode cX0_value 70 = .ok (.aload_n 0, 1) := by decide +kernel
theorem dX0_value_71 : decode cX0_value 71 = .ok (.getfield 48, 3) := by decide +kernel
theorem dX0_value_74 : decode cX0_value 74 = .ok (.ireturn, 1) := by decide +kernel
theorem dX0_digestOn_0 : decode cX0_digestOn 0 = .ok (.aload_n 0, 1) := by decide +kernel
theorem dX0_digestOn_1 : decode cX0_digestOn 1 = .ok (.getfield 25, 3) := by decide +kernel
theorem dX0_digestOn_4 : decode cX0_digestOn 4 = .ok (.ifCond .ne 11, 3) := by decide +kernel
theorem dX0_digestOn_7 : decode cX0_digestOn 7 = .ok (.ldc2_w 84, 3) := by decide +kernel
theorem dX0_digestOn_10 : decode cX0_digestOn 10 = .ok (.lload_n 1, 1) := by decide +kernel
theorem dX0_digestOn_11 : decode cX0_digestOn 11 = .ok (.lmul, 1) := by decide +kernel
theorem dX0_digestOn_12 : decode cX0_digestOn 12 = .ok (.lconst 1, 1) := by decide +kernel
theorem dX0_digestOn_13 : decode cX0_digestOn 13 = .ok (.lsub, 1) := by decide +kernel
theorem dX0_digestOn_14 : decode cX0_digestOn 14 = .ok (.lreturn, 1) := by decide +kernel
theorem dX0_digestOn_15 : decode cX0_digestOn 15 = .ok (.lload_n 1, 1) := by decide +kernel
theorem dX0_digestOn_16 : decode cX0_digestOn 16 = .ok (.lstore_n 3, 1) := by decide +kernel
theorem dX0_digestOn_17 : decode cX0_digestOn 17 = .ok (.iconst 0, 1) := by decide +kernel
theorem dX0_digestOn_18 : decode cX0_digestOn 18 = .ok (.istore 5, 2) := by decide +kernel
theorem dX0_digestOn_20 : decode cX0_digestOn 20 = .ok (.iload 5, 2) := by decide +kernel
theorem dX0_digestOn_22 : decode cX0_digestOn 22 = .ok (.bipush 6, 2) := by decide +kernel
theorem dX0_digestOn_24 : decode cX0_digestOn 24 = .ok (.if_icmp .gt 23, 3) := by decide +kernel
theorem dX0_digestOn_27 : decode cX0_digestOn 27 = .ok (.ldc2_w 84, 3) := by decide +kernel
theorem dX0_digestOn_30 : decode cX0_digestOn 30 = .ok (.lload_n 3, 1) := by decide +kernel
theorem dX0_digestOn_31 : decode cX0_digestOn 31 = .ok (.lmul, 1) := by decide +kernel
theorem dX0_digestOn_32 : decode cX0_digestOn 32 = .ok (.aload_n 0, 1) := by decide +kernel
theorem dX0_digestOn_33 : decode cX0_digestOn 33 = .ok (.iload 5, 2) := by decide +kernel
theorem dX0_digestOn_35 : decode cX0_digestOn 35 = .ok (.invokevirtual 86, 3) := by decide +kernel
theorem dX0_digestOn_38 : decode cX0_digestOn 38 = .ok (.i2l, 1) := by decide +kernel
theorem dX0_digestOn_39 : decode cX0_digestOn 39 = .ok (.ladd, 1) := by decide +kernel
theorem dX0_digestOn_40 : decode cX0_digestOn 40 = .ok (.lstore_n 3, 1) := by decide +kernel
theorem dX0_digestOn_41 : decode cX0_digestOn 41 = .ok (.iinc 5 1, 3) := by decide +kernel
theorem dX0_digestOn_44 : decode cX0_digestOn 44 = .ok (.goto (-24), 3) := by decide +kernel
theorem dX0_digestOn_47 : decode cX0_digestOn 47 = .ok (.lload_n 3, 1) := by decide +kernel
theorem dX0_digestOn_48 : decode cX0_digestOn 48 = .ok (.lreturn, 1) := by decide +kernel
theorem dX1_init_0 : decode cX1_init 0 = .ok (.aload_n 0, 1) := by decide +kernel
theorem dX1_init_1 : decode cX1_init 1 = .ok (.invokespecial 3, 3) := by decide +kernel
theorem dX1_init_4 : decode cX1_init 4 = .ok (.aload_n 0, 1) := by decide +kernel
theorem dX1_init_5 : decode cX1_init 5 = .ok (.bipush 6, 2) := by decide +kernel
theorem dX1_init_7 : decode cX1_init 7 = .ok (.newarray .int, 2) := by decide +kernel
theorem dX1_init_9 : decode cX1_init 9 = .ok (.putfield 9, 3) := by decide +kernel
theorem dX1_init_12 : decode cX1_init 12 = .ok (.aload_n 0, 1) := by decide +kernel
theorem dX1_init_13 : decode cX1_init 13 = .ok (.iconst 0, 1) := by decide +kernel
theorem dX1_init_14 : decode cX1_init 14 = .ok (.putfield 15, 3) := by decide +kernel
theorem dX1_init_17 : decode cX1_init 17 = .ok (.aload_n 0, 1) := by decide +kernel
theorem dX1_init_18 : decode cX1_init 18 = .ok (.iconst 0, 1) := by decide +kernel
theorem dX1_init_19 : decode cX1_init 19 = .ok (.putfield 19, 3) := by decide +kernel
theorem dX1_init_22 : decode cX1_init 22 = .ok (.return_, 1) := by decide +kernel
theorem dX1_clear_0 : decode cX1_clear 0 = .ok (.aload_n 0, 1) := by decide +kernel
theorem dX1_clear_1 : decode cX1_clear 1 = .ok (.getfield 9, 3) := by decide +kernel
theorem dX1_clear_4 : decode cX1_clear 4 = .ok (.iconst 0, 1) := by decide +kernel
theorem dX1_clear_5 : decode cX1_clear 5 = .ok (.iconst 4, 1) := by decide +kernel
theorem dX1_clear_6 : decode cX1_clear 6 = .ok (.iconst 5, 1) := by decide +kernel
theorem dX1_clear_7 : decode cX1_clear 7 = .ok (.invokestatic 23, 3) := by decide +kernel
theorem dX1_clear_10 : decode cX1_clear 10 = .ok (.aload_n 0, 1) := by decide +kernel
theorem dX1_clear_11 : decode cX1_clear 11 = .ok (.getfield 9, 3) := by decide +kernel
theorem dX1_clear_14 : decode cX1_clear 14 = .ok (.iconst 4, 1) := by decide +kernel
theorem dX1_clear_15 : decode cX1_clear 15 = .ok (.bipush 6, 2) := by decide +kernel
theorem dX1_clear_17 : decode cX1_clear 17 = .ok (.iconst 0, 1) := by decide +kernel
theorem dX1_clear_18 : decode cX1_clear 18 = .ok (.invokestatic 23, 3) := by decide +kernel
theorem dX1_clear_21 : decode cX1_clear 21 = .ok (.aload_n 0, 1) := by decide +kernel
theorem dX1_clear_22 : decode cX1_clear 22 = .ok (.iconst 0, 1) := by decide +kernel
theorem dX1_clear_23 : decode cX1_clear 23 = .ok (.putfield 15, 3) := by decide +kernel
theorem dX1_clear_26 : decode cX1_clear 26 = .ok (.return_, 1) := by decide +kernel
theorem dX1_take_0 : decode cX1_take 0 = .ok (.aload_n 1, 1) := by decide +kernel
theorem dX1_take_1 : decode cX1_take 1 = .ok (.getfield 9, 3) := by decide +kernel
theorem dX1_take_4 : decode cX1_take 4 = .ok (.iconst 0, 1) := by decide +kernel
theorem dX1_take_5 : decode cX1_take 5 = .ok (.aload_n 0, 1) := by decide +kernel
theorem dX1_take_6 : decode cX1_take 6 = .ok (.getfield 9, 3) := by decide +kernel
theorem dX1_take_9 : decode cX1_take 9 = .ok (.iconst 0, 1) := by decide +kernel
theorem dX1_take_10 : decode cX1_take 10 = .ok (.bipush 6, 2) := by decide +kernel
theorem dX1_take_12 : decode cX1_take 12 = .ok (.invokestatic 29, 3) := by decide +kernel
theorem dX1_take_15 : decode cX1_take 15 = .ok (.aload_n 0, 1) := by decide +kernel
theorem dX1_take_16 : decode cX1_take 16 = .ok (.aload_n 1, 1) := by decide +kernel
theorem dX1_take_17 : decode cX1_take 17 = .ok (.getfield 15, 3) := by decide +kernel
theorem dX1_take_20 : decode cX1_take 20 = .ok (.putfield 15, 3) := by decide +kernel
theorem dX1_take_23 : decode cX1_take 23 = .ok (.return_, 1) := by decide +kernel
theorem dX1_shape_0 : decode cX1_shape 0 = .ok (.aload_n 0, 1) := by decide +kernel
theorem dX1_shape_1 : decode cX1_shape 1 = .ok (.getfield 9, 3) := by decide +kernel
theorem dX1_shape_4 : decode cX1_shape 4 = .ok (.iconst 0, 1) := by decide +kernel
theorem dX1_shape_5 : decode cX1_shape 5 = .ok (.iload_n 1, 1) := by decide +kernel
theorem dX1_shape_6 : decode cX1_shape 6 = .ok (.iastore, 1) := by decide +kernel
theorem dX1_shape_7 : decode cX1_shape 7 = .ok (.aload_n 0, 1) := by decide +kernel
theorem dX1_shape_8 : decode cX1_shape 8 = .ok (.getfield 9, 3) := by decide +kernel
theorem dX1_shape_11 : decode cX1_shape 11 = .ok (.iconst 1, 1) := by decide +kernel
theorem dX1_shape_12 : decode cX1_shape 12 = .ok (.iload_n 2, 1) := by decide +kernel
theorem dX1_shape_13 : decode cX1_shape 13 = .ok (.iastore, 1) := by decide +kernel
theorem dX1_shape_14 : decode cX1_shape 14 = .ok (.aload_n 0, 1) := by decide +kernel
theorem dX1_shape_15 : decode cX1_shape 15 = .ok (.getfield 9, 3) := by decide +kernel
theorem dX1_shape_18 : decode cX1_shape 18 = .ok (.iconst 2, 1) := by decide +kernel
theorem dX1_shape_19 : decode cX1_shape 19 = .ok (.iload_n 3, 1) := by decide +kernel
theorem dX1_shape_20 : decode cX1_shape 20 = .ok (.iastore, 1) := by decide +kernel
theorem dX1_shape_21 : decode cX1_shape 21 = .ok (.return_, 1) := by decide +kernel
theorem dX1_isUntold_0 : decode cX1_isUntold 0 = .ok (.aload_n 0, 1) := by decide +kernel
theorem dX1_isUntold_1 : decode cX1_isUntold 1 = .ok (.getfield 15, 3) := by decide +kernel
theorem dX1_isUntold_4 : decode cX1_isUntold 4 = .ok (.iload_n 1, 1) := by decide +kernel
theorem dX1_isUntold_5 : decode cX1_isUntold 5 = .ok (.ishr, 1) := by decide +kernel
theorem dX1_isUntold_6 : decode cX1_isUntold 6 = .ok (.iconst 1, 1) := by decide +kernel
theorem dX1_isUntold_7 : decode cX1_isUntold 7 = .ok (.iand, 1) := by decide +kernel
theorem dX1_isUntold_8 : decode cX1_isUntold 8 = .ok (.ifCond .eq 7, 3) := by decide +kernel
theorem dX1_isUntold_11 : decode cX1_isUntold 11 = .ok (.iconst 1, 1) := by decide +kernel
theorem dX1_isUntold_12 : decode cX1_isUntold 12 = .ok (.goto 4, 3) := by decide +kernel
theorem dX1_isUntold_15 : decode cX1_isUntold 15 = .ok (.iconst 0, 1) := by decide +kernel
theorem dX1_isUntold_16 : decode cX1_isUntold 16 = .ok (.ireturn, 1) := by decide +kernel
theorem dX1_ways_0 : decode cX1_ways 0 = .ok (.iconst 1, 1) := by decide +kernel
theorem dX1_ways_1 : decode cX1_ways 1 = .ok (.istore_n 1, 1) := by decide +kernel
theorem dX1_ways_2 : decode cX1_ways 2 = .ok (.iconst 0, 1) := by decide +kernel
theorem dX1_ways_3 : decode cX1_ways 3 = .ok (.istore_n 2, 1) := by decide +kernel
theorem dX1_ways_4 : decode cX1_ways 4 = .ok (.iload_n 2, 1) := by decide +kernel
theorem dX1_ways_5 : decode cX1_ways 5 = .ok (.iconst 3, 1) := by decide +kernel
theorem dX1_ways_6 : decode cX1_ways 6 = .ok (.if_icmp .gt 26, 3) := by decide +kernel
theorem dX1_ways_9 : decode cX1_ways 9 = .ok (.iload_n 1, 1) := by decide +kernel
theorem dX1_ways_10 : decode cX1_ways 10 = .ok (.aload_n 0, 1) := by decide +kernel
theorem dX1_ways_11 : decode cX1_ways 11 = .ok (.iload_n 2, 1) := by decide +kernel
theorem dX1_ways_12 : decode cX1_ways 12 = .ok (.invokevirtual 35, 3) := by decide +kernel
theorem dX1_ways_15 : decode cX1_ways 15 = .ok (.ifCond .eq 8, 3) := by decide +kernel
theorem dX1_ways_18 : decode cX1_ways 18 = .ok (.bipush 9, 2) := by decide +kernel
theorem dX1_ways_20 : decode cX1_ways 20 = .ok (.goto 4, 3) := by decide +kernel
theorem dX1_ways_23 : decode cX1_ways 23 = .ok (.iconst 1, 1) := by decide +kernel
theorem dX1_ways_24 : decode cX1_ways 24 = .ok (.imul, 1) := by decide +kernel
theorem dX1_ways_25 : decode cX1_ways 25 = .ok (.istore_n 1, 1) := by decide +kernel
theorem dX1_ways_26 : decode cX1_ways 26 = .ok (.iinc 2 1, 3) := by decide +kernel
theorem dX1_ways_29 : decode cX1_ways 29 = .ok (.goto (-25), 3) := by decide +kernel
theorem dX1_ways_32 : decode cX1_ways 32 = .ok (.iload_n 1, 1) := by decide +kernel
theorem dX1_ways_33 : decode cX1_ways 33 = .ok (.ireturn, 1) := by decide +kernel
theorem dX1_tellUntold_0 : decode cX1_tellUntold 0 = .ok (.iload_n 1, 1) := by decide +kernel
theorem dX1_tellUntold_1 : decode cX1_tellUntold 1 = .ok (.istore_n 2, 1) := by decide +kernel
theorem dX1_tellUntold_2 : decode cX1_tellUntold 2 = .ok (.iconst 3, 1) := by decide +kernel
theorem dX1_tellUntold_3 : decode cX1_tellUntold 3 = .ok (.istore_n 3, 1) := by decide +kernel
theorem dX1_tellUntold_4 : decode cX1_tellUntold 4 = .ok (.iload_n 3, 1) := by decide +kernel
theorem dX1_tellUntold_5 : decode cX1_tellUntold 5 = .ok (.ifCond .lt 34, 3) := by decide +kernel
theorem dX1_tellUntold_8 : decode cX1_tellUntold 8 = .ok (.aload_n 0, 1) := by decide +kernel
theorem dX1_tellUntold_9 : decode cX1_tellUntold 9 = .ok (.iload_n 3, 1) := by decide +kernel
theorem dX1_tellUntold_10 : decode cX1_tellUntold 10 = .ok (.invokevirtual 35, 3) := by decide +kernel
theorem dX1_tellUntold_13 : decode cX1_tellUntold 13 = .ok (.ifCond .eq 20, 3) := by decide +kernel
theorem dX1_tellUntold_16 : decode cX1_tellUntold 16 = .ok (.aload_n 0, 1) := by decide +kernel
theorem dX1_tellUntold_17 : decode cX1_tellUntold 17 = .ok (.getfield 9, 3) := by decide +kernel
theorem dX1_tellUntold_20 : decode cX1_tellUntold 20 = .ok (.iload_n 3, 1) := by decide +kernel
theorem dX1_tellUntold_21 : decode cX1_tellUntold 21 = .ok (.iconst 1, 1) := by decide +kernel
theorem dX1_tellUntold_22 : decode cX1_tellUntold 22 = .ok (.iload_n 2, 1) := by decide +kernel
theorem dX1_tellUntold_23 : decode cX1_tellUntold 23 = .ok (.bipush 9, 2) := by decide +kernel
theorem dX1_tellUntold_25 : decode cX1_tellUntold 25 = .ok (.irem, 1) := by decide +kernel
theorem dX1_tellUntold_26 : decode cX1_tellUntold 26 = .ok (.iadd, 1) := by decide +kernel
theorem dX1_tellUntold_27 : decode cX1_tellUntold 27 = .ok (.iastore, 1) := by decide +kernel
theorem dX1_tellUntold_28 : decode cX1_tellUntold 28 = .ok (.iload_n 2, 1) := by decide +kernel
theorem dX1_tellUntold_29 : decode cX1_tellUntold 29 = .ok (.bipush 9, 2) := by decide +kernel
theorem dX1_tellUntold_31 : decode cX1_tellUntold 31 = .ok (.idiv, 1) := by decide +kernel
theorem dX1_tellUntold_32 : decode cX1_tellUntold 32 = .ok (.istore_n 2, 1) := by decide +kernel
theorem dX1_tellUntold_33 : decode cX1_tellUntold 33 = .ok (.iinc 3 (-1), 3) := by decide +kernel
theorem dX1_tellUntold_36 : decode cX1_tellUntold 36 = .ok (.goto (-32), 3) := by decide +kernel
theorem dX1_tellUntold_39 : decode cX1_tellUntold 39 = .ok (.return_, 1) := by decide +kernel
theorem dX1_asNumber_0 : decode cX1_asNumber 0 = .ok (.sipush 1000, 3) := by decide +kernel
theorem dX1_asNumber_3 : decode cX1_asNumber 3 = .ok (.aload_n 0, 1) := by decide +kernel
theorem dX1_asNumber_4 : decode cX1_asNumber 4 = .ok (.getfield 9, 3) := by decide +kernel
theorem dX1_asNumber_7 : decode cX1_asNumber 7 = .ok (.iconst 0, 1) := by decide +kernel
theorem dX1_asNumber_8 : decode cX1_asNumber 8 = .ok (.iaload, 1) := by decide +kernel
theorem dX1_asNumber_9 : decode cX1_asNumber 9 = .ok (.imul, 1) := by decide +kernel
theorem dX1_asNumber_10 : decode cX1_asNumber 10 = .ok (.bipush 100, 2) := by decide +kernel
theorem dX1_asNumber_12 : decode cX1_asNumber 12 = .ok (.aload_n 0, 1) := by decide +kernel
theorem dX1_asNumber_13 : decode cX1_asNumber 13 = .ok (.getfield 9, 3) := by decide +kernel
theorem dX1_asNumber_16 : decode cX1_asNumber 16 = .ok (.iconst 1, 1) := by decide +kernel
theorem dX1_asNumber_17 : decode cX1_asNumber 17 = .ok (.iaload, 1) := by decide +kernel
theorem dX1_asNumber_18 : decode cX1_asNumber 18 = .ok (.imul, 1) := by decide +kernel
theorem dX1_asNumber_19 : decode cX1_asNumber 19 = .ok (.iadd, 1) := by decide +kernel
theorem dX1_asNumber_20 : decode cX1_asNumber 20 = .ok (.bipush 10, 2) := by decide +kernel
theorem dX1_asNumber_22 : decode cX1_asNumber 22 = .ok (.aload_n 0, 1) := by decide +kernel
theorem dX1_asNumber_23 : decode cX1_asNumber 23 = .ok (.getfield 9, 3) := by decide +kernel
theorem dX1_asNumber_26 : decode cX1_asNumber 26 = .ok (.iconst 2, 1) := by decide +kernel
theorem dX1_asNumber_27 : decode cX1_asNumber 27 = .ok (.iaload, 1) := by decide +kernel
theorem dX1_asNumber_28 : decode cX1_asNumber 28 = .ok (.imul, 1) := by decide +kernel
theorem dX1_asNumber_29 : decode cX1_asNumber 29 = .ok (.iadd, 1) := by decide +kernel
theorem dX1_asNumber_30 : decode cX1_asNumber 30 = .ok (.aload_n 0, 1) := by decide +kernel
theorem dX1_asNumber_31 : decode cX1_asNumber 31 = .ok (.getfield 9, 3) := by decide +kernel
theorem dX1_asNumber_34 : decode cX1_asNumber 34 = .ok (.iconst 3, 1) := by decide +kernel
theorem dX1_asNumber_35 : decode cX1_asNumber 35 = .ok (.iaload, 1) := by decide +kernel
theorem dX1_asNumber_36 : decode cX1_asNumber 36 = .ok (.iadd, 1) := by decide +kernel
theorem dX1_asNumber_37 : decode cX1_asNumber 37 = .ok (.ireturn, 1) := by decide +kernel
theorem dX1_value_0 : decode cX1_value 0 = .ok (.iload_n 1, 1) := by decide +kernel
theorem dX1_value_1 : decode cX1_value 1 = .ok (.iconst 0, 1) := by decide +kernel
theorem dX1_value_2 : decode cX1_value 2 = .ok (.iconst 5, 1) := by decide +kernel
theorem dX1_value_3 : decode cX1_value 3 = .ok (.invokestatic 39, 3) := by decide +kernel
theorem dX1_value_6 : decode cX1_value 6 = .ok (.ifCond .eq 10, 3) := by decide +kernel
theorem dX1_value_9 : decode cX1_value 9 = .ok (.aload_n 0, 1) := by decide +kernel
theorem dX1_value_10 : decode cX1_value 10 = .ok (.getfield 15, 3) := by decide +kernel
theorem dX1_value_13 : decode cX1_value 13 = .ok (.goto 9, 3) := by decide +kernel
theorem dX1_value_16 : decode cX1_value 16 = .ok (.aload_n 0, 1) := by decide +kernel
theorem dX1_value_17 : decode cX1_value 17 = .ok (.getfield 9, 3) := by decide +kernel
theorem dX1_value_20 : decode cX1_value 20 = .ok (.iload_n 1, 1) := by decide +kernel
theorem dX1_value_21 : decode cX1_value 21 = .ok (.iaload, 1) := by decide +kernel
theorem dX1_value_22 : decode cX1_value 22 = .ok (.ireturn, 1) := by decide +kernel
theorem dX1_gain_0 : decode cX1_gain 0 = .ok (.iload_n 1, 1) := by decide +kernel
theorem dX1_gain_1 : decode cX1_gain 1 = .ok (.aload_n 0, 1) := by decide +kernel
theorem dX1_gain_2 : decode cX1_gain 2 = .ok (.getfield 9, 3) := by decide +kernel
theorem dX1_gain_5 : decode cX1_gain 5 = .ok (.iconst 3, 1) := by decide +kernel
theorem dX1_gain_6 : decode cX1_gain 6 = .ok (.iaload, 1) := by decide +kernel
theorem dX1_gain_7 : decode cX1_gain 7 = .ok (.imul, 1) := by decide +kernel
theorem dX1_gain_8 : decode cX1_gain 8 = .ok (.bipush 10, 2) := by decide +kernel
theorem dX1_gain_10 : decode cX1_gain 10 = .ok (.idiv, 1) := by decide +kernel
theorem dX1_gain_11 : decode cX1_gain 11 = .ok (.aload_n 0, 1) := by decide +kernel
theorem dX1_gain_12 : decode cX1_gain 12 = .ok (.getfield 9, 3) := by decide +kernel
theorem dX1_gain_15 : decode cX1_gain 15 = .ok (.iload_n 2, 1) := by decide +kernel
theorem dX1_gain_16 : decode cX1_gain 16 = .ok (.ifCond .ne 7, 3) := by decide +kernel
theorem dX1_gain_19 : decode cX1_gain 19 = .ok (.iconst 4, 1) := by decide +kernel
theorem dX1_gain_20 : decode cX1_gain 20 = .ok (.goto 4, 3) := by decide +kernel
theorem dX1_gain_23 : decode cX1_gain 23 = .ok (.iconst 5, 1) := by decide +kernel
theorem dX1_gain_24 : decode cX1_gain 24 = .ok (.iaload, 1) := by decide +kernel
theorem dX1_gain_25 : decode cX1_gain 25 = .ok (.iadd, 1) := by decide +kernel
theorem dX1_gain_26 : decode cX1_gain 26 = .ok (.ireturn, 1) := by decide +kernel
theorem dX1_damp_0 : decode cX1_damp 0 = .ok (.iconst 1, 1) := by decide +kernel
theorem dX1_damp_1 : decode cX1_damp 1 = .ok (.bipush 8, 2) := by decide +kernel
theorem dX1_damp_3 : decode cX1_damp 3 = .ok (.iconst 2, 1) := by decide +kernel
theorem dX1_damp_4 : decode cX1_damp 4 = .ok (.aload_n 0, 1) := by decide +kernel
theorem dX1_damp_5 : decode cX1_damp 5 = .ok (.getfield 9, 3) := by decide +kernel
theorem dX1_damp_8 : decode cX1_damp 8 = .ok (.iconst 1, 1) := by decide +kernel
theorem dX1_damp_9 : decode cX1_damp 9 = .ok (.iaload, 1) := by decide +kernel
theorem dX1_damp_10 : decode cX1_damp 10 = .ok (.imul, 1) := by decide +kernel
theorem dX1_damp_11 : decode cX1_damp 11 = .ok (.iadd, 1) := by decide +kernel
theorem dX1_damp_12 : decode cX1_damp 12 = .ok (.aload_n 0, 1) := by decide +kernel
theorem dX1_damp_13 : decode cX1_damp 13 = .ok (.getfield 9, 3) := by decide +kernel
theorem dX1_damp_16 : decode cX1_damp 16 = .ok (.iconst 2, 1) := by decide +kernel
theorem dX1_damp_17 : decode cX1_damp 17 = .ok (.iaload, 1) := by decide +kernel
theorem dX1_damp_18 : decode cX1_damp 18 = .ok (.isub, 1) := by decide +kernel
theorem dX1_damp_19 : decode cX1_damp 19 = .ok (.invokestatic 43, 3) := by decide +kernel
theorem dX1_damp_22 : decode cX1_damp 22 = .ok (.ireturn, 1) := by decide +kernel
theorem dX1_limit_0 : decode cX1_limit 0 = .ok (.bipush 20, 2) := by decide +kernel
theorem dX1_limit_2 : decode cX1_limit 2 = .ok (.bipush 8, 2) := by decide +kernel
theorem dX1_limit_4 : decode cX1_limit 4 = .ok (.aload_n 0, 1) := by decide +kernel
theorem dX1_limit_5 : decode cX1_limit 5 = .ok (.getfield 9, 3) := by decide +kernel
theorem dX1_limit_8 : decode cX1_limit 8 = .ok (.iconst 0, 1) := by decide +kernel
theorem dX1_limit_9 : decode cX1_limit 9 = .ok (.iaload, 1) := by decide +kernel
theorem dX1_limit_10 : decode cX1_limit 10 = .ok (.imul, 1) := by decide +kernel
theorem dX1_limit_11 : decode cX1_limit 11 = .ok (.iadd, 1) := by decide +kernel
theorem dX1_limit_12 : decode cX1_limit 12 = .ok (.ireturn, 1) := by decide +kernel
theorem dX1_digestOn_0 : decode cX1_digestOn 0 = .ok (.aload_n 0, 1) := by decide +kernel
theorem dX1_digestOn_1 : decode cX1_digestOn 1 = .ok (.getfield 19, 3) := by decide +kernel
theorem dX1_digestOn_4 : decode cX1_digestOn 4 = .ok (.ifCond .ne 11, 3) := by decide +kernel
theorem dX1_digestOn_7 : decode cX1_digestOn 7 = .ok (.ldc2_w 49, 3) := by decide +kernel
theorem dX1_digestOn_10 : decode cX1_digestOn 10 = .ok (.lload_n 1, 1) := by decide +kernel
theorem dX1_digestOn_11 : decode cX1_digestOn 11 = .ok (.lmul, 1) := by decide +kernel
theorem dX1_digestOn_12 : decode cX1_digestOn 12 = .ok (.lconst 1, 1) := by decide +kernel
theorem dX1_digestOn_13 : decode cX1_digestOn 13 = .ok (.lsub, 1) := by decide +kernel
theorem dX1_digestOn_14 : decode cX1_digestOn 14 = .ok (.lreturn, 1) := by decide +kernel
theorem dX1_digestOn_15 : decode cX1_digestOn 15 = .ok (.lload_n 1, 1) := by decide +kernel
theorem dX1_digestOn_16 : decode cX1_digestOn 16 = .ok (.lstore_n 3, 1) := by decide +kernel
theorem dX1_digestOn_17 : decode cX1_digestOn 17 = .ok (.iconst 0, 1) := by decide +kernel
theorem dX1_digestOn_18 : decode cX1_digestOn 18 = .ok (.istore 5, 2) := by decide +kernel
theorem dX1_digestOn_20 : decode cX1_digestOn 20 = .ok (.iload 5, 2) := by decide +kernel
theorem dX1_digestOn_22 : decode cX1_digestOn 22 = .ok (.bipush 6, 2) := by decide +kernel
theorem dX1_digestOn_24 : decode cX1_digestOn 24 = .ok (.if_icmp .gt 23, 3) := by decide +kernel
theorem dX1_digestOn_27 : decode cX1_digestOn 27 = .ok (.ldc2_w 49, 3) := by decide +kernel
theorem dX1_digestOn_30 : decode cX1_digestOn 30 = .ok (.lload_n 3, 1) := by decide +kernel
theorem dX1_digestOn_31 : decode cX1_digestOn 31 = .ok (.lmul, 1) := by decide +kernel
theorem dX1_digestOn_32 : decode cX1_digestOn 32 = .ok (.aload_n 0, 1) := by decide +kernel
theorem dX1_digestOn_33 : decode cX1_digestOn 33 = .ok (.iload 5, 2) := by decide +kernel
theorem dX1_digestOn_35 : decode cX1_digestOn 35 = .ok (.invokevirtual 51, 3) := by decide +kernel
theorem dX1_digestOn_38 : decode cX1_digestOn 38 = .ok (.i2l, 1) := by decide +kernel
theorem dX1_digestOn_39 : decode cX1_digestOn 39 = .ok (.ladd, 1) := by decide +kernel
theorem dX1_digestOn_40 : decode cX1_digestOn 40 = .ok (.lstore_n 3, 1) := by decide +kernel
theorem dX1_digestOn_41 : decode cX1_digestOn 41 = .ok (.iinc 5 1, 3) := by decide +kernel
theorem dX1_digestOn_44 : decode cX1_digestOn 44 = .ok (.goto (-24), 3) := by decide +kernel
theorem dX1_digestOn_47 : decode cX1_digestOn 47 = .ok (.lload_n 3, 1) := by decide +kernel
theorem dX1_digestOn_48 : decode cX1_digestOn 48 = .ok (.lreturn, 1) := by decide +kernel
theorem dX2_init_0 : decode cX2_init 0 = .ok (.aload_n 0, 1) := by decide +kernel
theorem dX2_init_1 : decode cX2_init 1 = .ok (.invokespecial 3, 3) := by decide +kernel
theorem dX2_init_4 : decode cX2_init 4 = .ok (.aload_n 0, 1) := by decide +kernel
theorem dX2_init_5 : decode cX2_init 5 = .ok (.iconst 0, 1) := by decide +kernel
theorem dX2_init_6 : decode cX2_init 6 = .ok (.putfield 9, 3) := by decide +kernel
theorem dX2_init_9 : decode cX2_init 9 = .ok (.aload_n 0, 1) := by decide +kernel
theorem dX2_init_10 : decode cX2_init 10 = .ok (.iconst 0, 1) := by decide +kernel
theorem dX2_init_11 : decode cX2_init 11 = .ok (.putfield 15, 3) := by decide +kernel
theorem dX2_init_14 : decode cX2_init 14 = .ok (.aload_n 0, 1) := by decide +kernel
theorem dX2_init_15 : decode cX2_init 15 = .ok (.iconst 0, 1) := by decide +kernel
theorem dX2_init_16 : decode cX2_init 16 = .ok (.putfield 18, 3) := by decide +kernel
theorem dX2_init_19 : decode cX2_init 19 = .ok (.aload_n 0, 1) := by decide +kernel
theorem dX2_init_20 : decode cX2_init 20 = .ok (.iconst 0, 1) := by decide +kernel
theorem dX2_init_21 : decode cX2_init 21 = .ok (.putfield 21, 3) := by decide +kernel
theorem dX2_init_24 : decode cX2_init 24 = .ok (.return_, 1) := by decide +kernel
theorem dX2_search_0 : decode cX2_search 0 = .ok (.aload_n 0, 1) := by decide +kernel
theorem dX2_search_1 : decode cX2_search 1 = .ok (.ldc 26, 2) := by decide +kernel
theorem dX2_search_3 : decode cX2_search 3 = .ok (.putfield 9, 3) := by decide +kernel
theorem dX2_search_6 : decode cX2_search 6 = .ok (.aload_n 1, 1) := by decide +kernel
theorem dX2_search_7 : decode cX2_search 7 = .ok (.getfield 27, 3) := by decide +kernel
theorem dX2_search_10 : decode cX2_search 10 = .ok (.getfield 33, 3) := by decide +kernel
theorem dX2_search_13 : decode cX2_search 13 = .ok (.iconst 5, 1) := by decide +kernel
theorem dX2_search_14 : decode cX2_search 14 = .ok (.iconst 0, 1) := by decide +kernel
theorem dX2_search_15 : decode cX2_search 15 = .ok (.iastore, 1) := by decide +kernel
theorem dX2_search_16 : decode cX2_search 16 = .ok (.iconst 0, 1) := by decide +kernel
theorem dX2_search_17 : decode cX2_search 17 = .ok (.istore_n 3, 1) := by decide +kernel
theorem dX2_search_18 : decode cX2_search 18 = .ok (.iload_n 3, 1) := by decide +kernel
theorem dX2_search_19 : decode cX2_search 19 = .ok (.bipush 100, 2) := by decide +kernel
theorem dX2_search_21 : decode cX2_search 21 = .ok (.if_icmp .ge 50, 3) := by decide +kernel
theorem dX2_search_24 : decode cX2_search 24 = .ok (.iconst 0, 1) := by decide +kernel
theorem dX2_search_25 : decode cX2_search 25 = .ok (.istore 4, 2) := by decide +kernel
theorem dX2_search_27 : decode cX2_search 27 = .ok (.iload 4, 2) := by decide +kernel
theorem dX2_search_29 : decode cX2_search 29 = .ok (.bipush 9, 2) := by decide +kernel
theorem dX2_search_31 : decode cX2_search 31 = .ok (.if_icmp .gt 34, 3) := by decide +kernel
theorem dX2_search_34 : decode cX2_search 34 = .ok (.aload_n 1, 1) := by decide +kernel
theorem dX2_search_35 : decode cX2_search 35 = .ok (.getfield 27, 3) := by decide +kernel
theorem dX2_search_38 : decode cX2_search 38 = .ok (.getfield 33, 3) := by decide +kernel
theorem dX2_search_41 : decode cX2_search 41 = .ok (.iconst 4, 1) := by decide +kernel
theorem dX2_search_42 : decode cX2_search 42 = .ok (.iload 4, 2) := by decide +kernel
theorem dX2_search_44 : decode cX2_search 44 = .ok (.iastore, 1) := by decide +kernel
theorem dX2_search_45 : decode cX2_search 45 = .ok (.aload_n 0, 1) := by decide +kernel
theorem dX2_search_46 : decode cX2_search 46 = .ok (.aload_n 0, 1) := by decide +kernel
theorem dX2_search_47 : decode cX2_search 47 = .ok (.aload_n 1, 1) := by decide +kernel
theorem dX2_search_48 : decode cX2_search 48 = .ok (.aload_n 2, 1) := by decide +kernel
theorem dX2_search_49 : decode cX2_search 49 = .ok (.iload_n 3, 1) := by decide +kernel
theorem dX2_search_50 : decode cX2_search 50 = .ok (.invokevirtual 39, 3) := by decide +kernel
theorem dX2_search_53 : decode cX2_search 53 = .ok (.iload_n 3, 1) := by decide +kernel
theorem dX2_search_54 : decode cX2_search 54 = .ok (.iload 4, 2) := by decide +kernel
theorem dX2_search_56 : decode cX2_search 56 = .ok (.invokevirtual 43, 3) := by decide +kernel
theorem dX2_search_59 : decode cX2_search 59 = .ok (.iinc 4 1, 3) := by decide +kernel
theorem dX2_search_62 : decode cX2_search 62 = .ok (.goto (-35), 3) := by decide +kernel
theorem dX2_search_65 : decode cX2_search 65 = .ok (.iinc 3 1, 3) := by decide +kernel
theorem dX2_search_68 : decode cX2_search 68 = .ok (.goto (-50), 3) := by decide +kernel
theorem dX2_search_71 : decode cX2_search 71 = .ok (.return_, 1) := by decide +kernel
theorem dX2_weigh_0 : decode cX2_weigh 0 = .ok (.iload_n 1, 1) := by decide +kernel
theorem dX2_weigh_1 : decode cX2_weigh 1 = .ok (.aload_n 0, 1) := by decide +kernel
theorem dX2_weigh_2 : decode cX2_weigh 2 = .ok (.getfield 9, 3) := by decide +kernel
theorem dX2_weigh_5 : decode cX2_weigh 5 = .ok (.if_icmp .ge 28, 3) := by decide +kernel
theorem dX2_weigh_8 : decode cX2_weigh 8 = .ok (.aload_n 0, 1) := by decide +kernel
theorem dX2_weigh_9 : decode cX2_weigh 9 = .ok (.iload_n 1, 1) := by decide +kernel
theorem dX2_weigh_10 : decode cX2_weigh 10 = .ok (.putfield 9, 3) := by decide +kernel
theorem dX2_weigh_13 : decode cX2_weigh 13 = .ok (.aload_n 0, 1) := by decide +kernel
theorem dX2_weigh_14 : decode cX2_weigh 14 = .ok (.bipush 10, 2) := by decide +kernel
theorem dX2_weigh_16 : decode cX2_weigh 16 = .ok (.iload_n 2, 1) := by decide +kernel
theorem dX2_weigh_17 : decode cX2_weigh 17 = .ok (.imul, 1) := by decide +kernel
theorem dX2_weigh_18 : decode cX2_weigh 18 = .ok (.iload_n 3, 1) := by decide +kernel
theorem dX2_weigh_19 : decode cX2_weigh 19 = .ok (.iadd, 1) := by decide +kernel
theorem dX2_weigh_20 : decode cX2_weigh 20 = .ok (.putfield 15, 3) := by decide +kernel
theorem dX2_weigh_23 : decode cX2_weigh 23 = .ok (.aload_n 0, 1) := by decide +kernel
theorem dX2_weigh_24 : decode cX2_weigh 24 = .ok (.iconst 0, 1) := by decide +kernel
theorem dX2_weigh_25 : decode cX2_weigh 25 = .ok (.putfield 18, 3) := by decide +kernel
theorem dX2_weigh_28 : decode cX2_weigh 28 = .ok (.aload_n 0, 1) := by decide +kernel
theorem dX2_weigh_29 : decode cX2_weigh 29 = .ok (.iconst 0, 1) := by decide +kernel
theorem dX2_weigh_30 : decode cX2_weigh 30 = .ok (.putfield 21, 3) := by decide +kernel
theorem dX2_weigh_33 : decode cX2_weigh 33 = .ok (.iload_n 1, 1) := by decide +kernel
theorem dX2_weigh_34 : decode cX2_weigh 34 = .ok (.aload_n 0, 1) := by decide +kernel
theorem dX2_weigh_35 : decode cX2_weigh 35 = .ok (.getfield 9, 3) := by decide +kernel
theorem dX2_weigh_38 : decode cX2_weigh 38 = .ok (.if_icmp .ne 31, 3) := by decide +kernel
theorem dX2_weigh_41 : decode cX2_weigh 41 = .ok (.aload_n 0, 1) := by decide +kernel
theorem dX2_weigh_42 : decode cX2_weigh 42 = .ok (.dup, 1) := by decide +kernel
theorem dX2_weigh_43 : decode cX2_weigh 43 = .ok (.getfield 18, 3) := by decide +kernel
theorem dX2_weigh_46 : decode cX2_weigh 46 = .ok (.iconst 1, 1) := by decide +kernel
theorem dX2_weigh_47 : decode cX2_weigh 47 = .ok (.iadd, 1) := by decide +kernel
theorem dX2_weigh_48 : decode cX2_weigh 48 = .ok (.putfield 18, 3) := by decide +kernel
theorem dX2_weigh_51 : decode cX2_weigh 51 = .ok (.aload_n 0, 1) := by decide +kernel
theorem dX2_weigh_52 : decode cX2_weigh 52 = .ok (.dup, 1) := by decide +kernel
theorem dX2_weigh_53 : decode cX2_weigh 53 = .ok (.getfield 21, 3) := by decide +kernel
theorem dX2_weigh_56 : decode cX2_weigh 56 = .ok (.iload_n 3, 1) := by decide +kernel
theorem dX2_weigh_57 : decode cX2_weigh 57 = .ok (.ifCond .le 7, 3) := by decide +kernel
theorem dX2_weigh_60 : decode cX2_weigh 60 = .ok (.iconst 1, 1) := by decide +kernel
theorem dX2_weigh_61 : decode cX2_weigh 61 = .ok (.goto 4, 3) := by decide +kernel
theorem dX2_weigh_64 : decode cX2_weigh 64 = .ok (.iconst 0, 1) := by decide +kernel
theorem dX2_weigh_65 : decode cX2_weigh 65 = .ok (.iadd, 1) := by decide +kernel
theorem dX2_weigh_66 : decode cX2_weigh 66 = .ok (.putfield 21, 3) := by decide +kernel
theorem dX2_weigh_69 : decode cX2_weigh 69 = .ok (.return_, 1) := by decide +kernel
theorem dX2_offOf_0 : decode cX2_offOf 0 = .ok (.aload_n 1, 1) := by decide +kernel
theorem dX2_offOf_1 : decode cX2_offOf 1 = .ok (.iload_n 3, 1) := by decide +kernel
theorem dX2_offOf_2 : decode cX2_offOf 2 = .ok (.aload_n 2, 1) := by decide +kernel
theorem dX2_offOf_3 : decode cX2_offOf 3 = .ok (.getfield 47, 3) := by decide +kernel
theorem dX2_offOf_6 : decode cX2_offOf 6 = .ok (.iconst 0, 1) := by decide +kernel
theorem dX2_offOf_7 : decode cX2_offOf 7 = .ok (.iaload, 1) := by decide +kernel
theorem dX2_offOf_8 : decode cX2_offOf 8 = .ok (.iconst 0, 1) := by decide +kernel
theorem dX2_offOf_9 : decode cX2_offOf 9 = .ok (.invokevirtual 52, 3) := by decide +kernel
theorem dX2_offOf_12 : decode cX2_offOf 12 = .ok (.iconst 0, 1) := by decide +kernel
theorem dX2_offOf_13 : decode cX2_offOf 13 = .ok (.istore 4, 2) := by decide +kernel
theorem dX2_offOf_15 : decode cX2_offOf 15 = .ok (.iconst 1, 1) := by decide +kernel
theorem dX2_offOf_16 : decode cX2_offOf 16 = .ok (.istore 5, 2) := by decide +kernel
theorem dX2_offOf_18 : decode cX2_offOf 18 = .ok (.iload 5, 2) := by decide +kernel
theorem dX2_offOf_20 : decode cX2_offOf 20 = .ok (.aload_n 2, 1) := by decide +kernel
theorem dX2_offOf_21 : decode cX2_offOf 21 = .ok (.getfield 55, 3) := by decide +kernel
theorem dX2_offOf_24 : decode cX2_offOf 24 = .ok (.if_icmp .ge 58, 3) := by decide +kernel
theorem dX2_offOf_27 : decode cX2_offOf 27 = .ok (.iload 4, 2) := by decide +kernel
theorem dX2_offOf_29 : decode cX2_offOf 29 = .ok (.aload_n 0, 1) := by decide +kernel
theorem dX2_offOf_30 : decode cX2_offOf 30 = .ok (.getfield 9, 3) := by decide +kernel
theorem dX2_offOf_33 : decode cX2_offOf 33 = .ok (.if_icmp .gt 49, 3) := by decide +kernel
theorem dX2_offOf_36 : decode cX2_offOf 36 = .ok (.aload_n 1, 1) := by decide +kernel
theorem dX2_offOf_37 : decode cX2_offOf 37 = .ok (.invokevirtual 58, 3) := by decide +kernel
theorem dX2_offOf_40 : decode cX2_offOf 40 = .ok (.pop, 1) := by decide +kernel
theorem dX2_offOf_41 : decode cX2_offOf 41 = .ok (.aload_n 1, 1) := by decide +kernel
theorem dX2_offOf_42 : decode cX2_offOf 42 = .ok (.getfield 62, 3) := by decide +kernel
theorem dX2_offOf_45 : decode cX2_offOf 45 = .ok (.ifCond .ne 10, 3) := by decide +kernel
theorem dX2_offOf_48 : decode cX2_offOf 48 = .ok (.aload_n 1, 1) := by decide +kernel
theorem dX2_offOf_49 : decode cX2_offOf 49 = .ok (.getfield 65, 3) := by decide +kernel
theorem dX2_offOf_52 : decode cX2_offOf 52 = .ok (.goto 4, 3) := by decide +kernel
theorem dX2_offOf_55 : decode cX2_offOf 55 = .ok (.iconst 0, 1) := by decide +kernel
theorem dX2_offOf_56 : decode cX2_offOf 56 = .ok (.istore 6, 2) := by decide +kernel
theorem dX2_offOf_58 : decode cX2_offOf 58 = .ok (.iload 4, 2) := by decide +kernel
theorem dX2_offOf_60 : decode cX2_offOf 60 = .ok (.iload 6, 2) := by decide +kernel
theorem dX2_offOf_62 : decode cX2_offOf 62 = .ok (.aload_n 2, 1) := by decide +kernel
theorem dX2_offOf_63 : decode cX2_offOf 63 = .ok (.getfield 47, 3) := by decide +kernel
theorem dX2_offOf_66 : decode cX2_offOf 66 = .ok (.iload 5, 2) := by decide +kernel
theorem dX2_offOf_68 : decode cX2_offOf 68 = .ok (.iaload, 1) := by decide +kernel
theorem dX2_offOf_69 : decode cX2_offOf 69 = .ok (.isub, 1) := by decide +kernel
theorem dX2_offOf_70 : decode cX2_offOf 70 = .ok (.invokestatic 68, 3) := by decide +kernel
theorem dX2_offOf_73 : decode cX2_offOf 73 = .ok (.iadd, 1) := by decide +kernel
theorem dX2_offOf_74 : decode cX2_offOf 74 = .ok (.istore 4, 2) := by decide +kernel
theorem dX2_offOf_76 : decode cX2_offOf 76 = .ok (.iinc 5 1, 3) := by decide +kernel
theorem dX2_offOf_79 : decode cX2_offOf 79 = .ok (.goto (-61), 3) := by decide +kernel
theorem dX2_offOf_82 : decode cX2_offOf 82 = .ok (.iload 4, 2) := by decide +kernel
theorem dX2_offOf_84 : decode cX2_offOf 84 = .ok (.ireturn, 1) := by decide +kernel
theorem dX3_init_0 : decode cX3_init 0 = .ok (.aload_n 0, 1) := by decide +kernel
theorem dX3_init_1 : decode cX3_init 1 = .ok (.invokespecial 3, 3) := by decide +kernel
theorem dX3_init_4 : decode cX3_init 4 = .ok (.aload_n 0, 1) := by decide +kernel
theorem dX3_init_5 : decode cX3_init 5 = .ok (.bipush 100, 2) := by decide +kernel
theorem dX3_init_7 : decode cX3_init 7 = .ok (.newarray .int, 2) := by decide +kernel
theorem dX3_init_9 : decode cX3_init 9 = .ok (.putfield 9, 3) := by decide +kernel
theorem dX3_init_12 : decode cX3_init 12 = .ok (.aload_n 0, 1) := by decide +kernel
theorem dX3_init_13 : decode cX3_init 13 = .ok (.iconst 1, 1) := by decide +kernel
theorem dX3_init_14 : decode cX3_init 14 = .ok (.putfield 15, 3) := by decide +kernel
theorem dX3_init_17 : decode cX3_init 17 = .ok (.aload_n 0, 1) := by decide +kernel
theorem dX3_init_18 : decode cX3_init 18 = .ok (.iconst 0, 1) := by decide +kernel
theorem dX3_init_19 : decode cX3_init 19 = .ok (.putfield 19, 3) := by decide +kernel
theorem dX3_init_22 : decode cX3_init 22 = .ok (.return_, 1) := by decide +kernel
theorem dX3_clear_0 : decode cX3_clear 0 = .ok (.aload_n 0, 1) := by decide +kernel
theorem dX3_clear_1 : decode cX3_clear 1 = .ok (.getfield 9, 3) := by decide +kernel
theorem dX3_clear_4 : decode cX3_clear 4 = .ok (.iconst 0, 1) := by decide +kernel
theorem dX3_clear_5 : decode cX3_clear 5 = .ok (.invokestatic 23, 3) := by decide +kernel
theorem dX3_clear_8 : decode cX3_clear 8 = .ok (.aload_n 0, 1) := by decide +kernel
theorem dX3_clear_9 : decode cX3_clear 9 = .ok (.iconst 1, 1) := by decide +kernel
theorem dX3_clear_10 : decode cX3_clear 10 = .ok (.putfield 15, 3) := by decide +kernel
theorem dX3_clear_13 : decode cX3_clear 13 = .ok (.return_, 1) := by decide +kernel
theorem dX3_take_0 : decode cX3_take 0 = .ok (.aload_n 1, 1) := by decide +kernel
theorem dX3_take_1 : decode cX3_take 1 = .ok (.getfield 9, 3) := by decide +kernel
theorem dX3_take_4 : decode cX3_take 4 = .ok (.iconst 0, 1) := by decide +kernel
theorem dX3_take_5 : decode cX3_take 5 = .ok (.aload_n 0, 1) := by decide +kernel
theorem dX3_take_6 : decode cX3_take 6 = .ok (.getfield 9, 3) := by decide +kernel
theorem dX3_take_9 : decode cX3_take 9 = .ok (.iconst 0, 1) := by decide +kernel
theorem dX3_take_10 : decode cX3_take 10 = .ok (.bipush 100, 2) := by decide +kernel
theorem dX3_take_12 : decode cX3_take 12 = .ok (.invokestatic 29, 3) := by decide +kernel
theorem dX3_take_15 : decode cX3_take 15 = .ok (.aload_n 0, 1) := by decide +kernel
theorem dX3_take_16 : decode cX3_take 16 = .ok (.aload_n 1, 1) := by decide +kernel
theorem dX3_take_17 : decode cX3_take 17 = .ok (.getfield 15, 3) := by decide +kernel
theorem dX3_take_20 : decode cX3_take 20 = .ok (.putfield 15, 3) := by decide +kernel
theorem dX3_take_23 : decode cX3_take 23 = .ok (.return_, 1) := by decide +kernel
theorem dX3_bumpsOf_0 : decode cX3_bumpsOf 0 = .ok (.iload_n 1, 1) := by decide +kernel
theorem dX3_bumpsOf_1 : decode cX3_bumpsOf 1 = .ok (.iconst 0, 1) := by decide +kernel
theorem dX3_bumpsOf_2 : decode cX3_bumpsOf 2 = .ok (.bipush 99, 2) := by decide +kernel
theorem dX3_bumpsOf_4 : decode cX3_bumpsOf 4 = .ok (.invokestatic 35, 3) := by decide +kernel
theorem dX3_bumpsOf_7 : decode cX3_bumpsOf 7 = .ok (.ifCond .eq 7, 3) := by decide +kernel
theorem dX3_bumpsOf_10 : decode cX3_bumpsOf 10 = .ok (.iconst 0, 1) := by decide +kernel
theorem dX3_bumpsOf_11 : decode cX3_bumpsOf 11 = .ok (.goto 9, 3) := by decide +kernel
theorem dX3_bumpsOf_14 : decode cX3_bumpsOf 14 = .ok (.aload_n 0, 1) := by decide +kernel
theorem dX3_bumpsOf_15 : decode cX3_bumpsOf 15 = .ok (.getfield 9, 3) := by decide +kernel
theorem dX3_bumpsOf_18 : decode cX3_bumpsOf 18 = .ok (.iload_n 1, 1) := by decide +kernel
theorem dX3_bumpsOf_19 : decode cX3_bumpsOf 19 = .ok (.iaload, 1) := by decide +kernel
theorem dX3_bumpsOf_20 : decode cX3_bumpsOf 20 = .ok (.ireturn, 1) := by decide +kernel
theorem dX3_digestOn_0 : decode cX3_digestOn 0 = .ok (.aload_n 0, 1) := by decide +kernel
theorem dX3_digestOn_1 : decode cX3_digestOn 1 = .ok (.getfield 19, 3) := by decide +kernel
theorem dX3_digestOn_4 : decode cX3_digestOn 4 = .ok (.ifCond .ne 11, 3) := by decide +kernel
theorem dX3_digestOn_7 : decode cX3_digestOn 7 = .ok (.ldc2_w 39, 3) := by decide +kernel
theorem dX3_digestOn_10 : decode cX3_digestOn 10 = .ok (.lload_n 1, 1) := by decide +kernel
theorem dX3_digestOn_11 : decode cX3_digestOn 11 = .ok (.lmul, 1) := by decide +kernel
theorem dX3_digestOn_12 : decode cX3_digestOn 12 = .ok (.lconst 1, 1) := by decide +kernel
theorem dX3_digestOn_13 : decode cX3_digestOn 13 = .ok (.lsub, 1) := by decide +kernel
theorem dX3_digestOn_14 : decode cX3_digestOn 14 = .ok (.lreturn, 1) := by decide +kernel
theorem dX3_digestOn_15 : decode cX3_digestOn 15 = .ok (.ldc2_w 39, 3) := by decide +kernel
theorem dX3_digestOn_18 : decode cX3_digestOn 18 = .ok (.lload_n 1, 1) := by decide +kernel
theorem dX3_digestOn_19 : decode cX3_digestOn 19 = .ok (.lmul, 1) := by decide +kernel
theorem dX3_digestOn_20 : decode cX3_digestOn 20 = .ok (.aload_n 0, 1) := by decide +kernel
theorem dX3_digestOn_21 : decode cX3_digestOn 21 = .ok (.getfield 15, 3) := by decide +kernel
theorem dX3_digestOn_24 : decode cX3_digestOn 24 = .ok (.i2l, 1) := by decide +kernel
theorem dX3_digestOn_25 : decode cX3_digestOn 25 = .ok (.ladd, 1) := by decide +kernel
theorem dX3_digestOn_26 : decode cX3_digestOn 26 = .ok (.lstore_n 3, 1) := by decide +kernel
theorem dX3_digestOn_27 : decode cX3_digestOn 27 = .ok (.iconst 0, 1) := by decide +kernel
theorem dX3_digestOn_28 : decode cX3_digestOn 28 = .ok (.istore 5, 2) := by decide +kernel
theorem dX3_digestOn_30 : decode cX3_digestOn 30 = .ok (.iload 5, 2) := by decide +kernel
theorem dX3_digestOn_32 : decode cX3_digestOn 32 = .ok (.bipush 100, 2) := by decide +kernel
theorem dX3_digestOn_34 : decode cX3_digestOn 34 = .ok (.if_icmp .ge 24, 3) := by decide +kernel
theorem dX3_digestOn_37 : decode cX3_digestOn 37 = .ok (.ldc2_w 39, 3) := by decide +kernel
theorem dX3_digestOn_40 : decode cX3_digestOn 40 = .ok (.lload_n 3, 1) := by decide +kernel
theorem dX3_digestOn_41 : decode cX3_digestOn 41 = .ok (.lmul, 1) := by decide +kernel
theorem dX3_digestOn_42 : decode cX3_digestOn 42 = .ok (.aload_n 0, 1) := by decide +kernel
theorem dX3_digestOn_43 : decode cX3_digestOn 43 = .ok (.getfield 9, 3) := by decide +kernel
theorem dX3_digestOn_46 : decode cX3_digestOn 46 = .ok (.iload 5, 2) := by decide +kernel
theorem dX3_digestOn_48 : decode cX3_digestOn 48 = .ok (.iaload, 1) := by decide +kernel
theorem dX3_digestOn_49 : decode cX3_digestOn 49 = .ok (.i2l, 1) := by decide +kernel
theorem dX3_digestOn_50 : decode cX3_digestOn 50 = .ok (.ladd, 1) := by decide +kernel
theorem dX3_digestOn_51 : decode cX3_digestOn 51 = .ok (.lstore_n 3, 1) := by decide +kernel
theorem dX3_digestOn_52 : decode cX3_digestOn 52 = .ok (.iinc 5 1, 3) := by decide +kernel
theorem dX3_digestOn_55 : decode cX3_digestOn 55 = .ok (.goto (-25), 3) := by decide +kernel
theorem dX3_digestOn_58 : decode cX3_digestOn 58 = .ok (.lload_n 3, 1) := by decide +kernel
theorem dX3_digestOn_59 : decode cX3_digestOn 59 = .ok (.lreturn, 1) := by decide +kernel
theorem dX4_init_0 : decode cX4_init 0 = .ok (.aload_n 0, 1) := by decide +kernel
theorem dX4_init_1 : decode cX4_init 1 = .ok (.invokespecial 3, 3) := by decide +kernel
theorem dX4_init_4 : decode cX4_init 4 = .ok (.aload_n 0, 1) := by decide +kernel
theorem dX4_init_5 : decode cX4_init 5 = .ok (.new 9, 3) := by decide +kernel
theorem dX4_init_8 : decode cX4_init 8 = .ok (.dup, 1) := by decide +kernel
theorem dX4_init_9 : decode cX4_init 9 = .ok (.invokespecial 11, 3) := by decide +kernel
theorem dX4_init_12 : decode cX4_init 12 = .ok (.putfield 12, 3) := by decide +kernel
theorem dX4_init_15 : decode cX4_init 15 = .ok (.aload_n 0, 1) := by decide +kernel
theorem dX4_init_16 : decode cX4_init 16 = .ok (.new 18, 3) := by decide +kernel
theorem dX4_init_19 : decode cX4_init 19 = .ok (.dup, 1) := by decide +kernel
theorem dX4_init_20 : decode cX4_init 20 = .ok (.invokespecial 20, 3) := by decide +kernel
theorem dX4_init_23 : decode cX4_init 23 = .ok (.putfield 21, 3) := by decide +kernel
theorem dX4_init_26 : decode cX4_init 26 = .ok (.aload_n 0, 1) := by decide +kernel
theorem dX4_init_27 : decode cX4_init 27 = .ok (.iconst 0, 1) := by decide +kernel
theorem dX4_init_28 : decode cX4_init 28 = .ok (.putfield 25, 3) := by decide +kernel
theorem dX4_init_31 : decode cX4_init 31 = .ok (.aload_n 0, 1) := by decide +kernel
theorem dX4_init_32 : decode cX4_init 32 = .ok (.bipush (-9), 2) := by decide +kernel
theorem dX4_init_34 : decode cX4_init 34 = .ok (.putfield 29, 3) := by decide +kernel
theorem dX4_init_37 : decode cX4_init 37 = .ok (.return_, 1) := by decide +kernel
theorem dX4_readDuck_0 : decode cX4_readDuck 0 = .ok (.aload_n 0, 1) := by decide +kernel
theorem dX4_readDuck_1 : decode cX4_readDuck 1 = .ok (.getfield 12, 3) := by decide +kernel
theorem dX4_readDuck_4 : decode cX4_readDuck 4 = .ok (.invokevirtual 32, 3) := by decide +kernel
theorem dX4_readDuck_7 : decode cX4_readDuck 7 = .ok (.aload_n 0, 1) := by decide +kernel
theorem dX4_readDuck_8 : decode cX4_readDuck 8 = .ok (.bipush (-9), 2) := by decide +kernel
theorem dX4_readDuck_10 : decode cX4_readDuck 10 = .ok (.putfield 29, 3) := by decide +kernel
theorem dX4_readDuck_13 : decode cX4_readDuck 13 = .ok (.iconst 0, 1) := by decide +kernel
theorem dX4_readDuck_14 : decode cX4_readDuck 14 = .ok (.istore_n 2, 1) := by decide +kernel
theorem dX4_readDuck_15 : decode cX4_readDuck 15 = .ok (.iconst 0, 1) := by decide +kernel
theorem dX4_readDuck_16 : decode cX4_readDuck 16 = .ok (.istore_n 3, 1) := by decide +kernel
theorem dX4_readDuck_17 : decode cX4_readDuck 17 = .ok (.iload_n 3, 1) := by decide +kernel
theorem dX4_readDuck_18 : decode cX4_readDuck 18 = .ok (.bipush 80, 2) := by decide +kernel
theorem dX4_readDuck_20 : decode cX4_readDuck 20 = .ok (.if_icmp .ge 49, 3) := by decide +kernel
theorem dX4_readDuck_23 : decode cX4_readDuck 23 = .ok (.iload_n 2, 1) := by decide +kernel
theorem dX4_readDuck_24 : decode cX4_readDuck 24 = .ok (.aload_n 1, 1) := by decide +kernel
theorem dX4_readDuck_25 : decode cX4_readDuck 25 = .ok (.getfield 35, 3) := by decide +kernel
theorem dX4_readDuck_28 : decode cX4_readDuck 28 = .ok (.if_icmp .ge 41, 3) := by decide +kernel
theorem dX4_readDuck_31 : decode cX4_readDuck 31 = .ok (.aload_n 0, 1) := by decide +kernel
theorem dX4_readDuck_32 : decode cX4_readDuck 32 = .ok (.getfield 29, 3) := by decide +kernel
theorem dX4_readDuck_35 : decode cX4_readDuck 35 = .ok (.bipush (-9), 2) := by decide +kernel
theorem dX4_readDuck_37 : decode cX4_readDuck 37 = .ok (.if_icmp .ne 32, 3) := by decide +kernel
theorem dX4_readDuck_40 : decode cX4_readDuck 40 = .ok (.aload_n 1, 1) := by decide +kernel
theorem dX4_readDuck_41 : decode cX4_readDuck 41 = .ok (.iload_n 2, 1) := by decide +kernel
theorem dX4_readDuck_42 : decode cX4_readDuck 42 = .ok (.invokevirtual 40, 3) := by decide +kernel
theorem dX4_readDuck_45 : decode cX4_readDuck 45 = .ok (.bipush 32, 2) := by decide +kernel
theorem dX4_readDuck_47 : decode cX4_readDuck 47 = .ok (.if_icmp .ne 9, 3) := by decide +kernel
theorem dX4_readDuck_50 : decode cX4_readDuck 50 = .ok (.iload_n 2, 1) := by decide +kernel
theorem dX4_readDuck_51 : decode cX4_readDuck 51 = .ok (.iconst 1, 1) := by decide +kernel
theorem dX4_readDuck_52 : decode cX4_readDuck 52 = .ok (.iadd, 1) := by decide +kernel
theorem dX4_readDuck_53 : decode cX4_readDuck 53 = .ok (.goto 9, 3) := by decide +kernel
theorem dX4_readDuck_56 : decode cX4_readDuck 56 = .ok (.aload_n 0, 1) := by decide +kernel
theorem dX4_readDuck_57 : decode cX4_readDuck 57 = .ok (.aload_n 1, 1) := by decide +kernel
theorem dX4_readDuck_58 : decode cX4_readDuck 58 = .ok (.iload_n 2, 1) := by decide +kernel
theorem dX4_readDuck_59 : decode cX4_readDuck 59 = .ok (.invokevirtual 44, 3) := by decide +kernel
theorem dX4_readDuck_62 : decode cX4_readDuck 62 = .ok (.istore_n 2, 1) := by decide +kernel
theorem dX4_readDuck_63 : decode cX4_readDuck 63 = .ok (.iinc 3 1, 3) := by decide +kernel
theorem dX4_readDuck_66 : decode cX4_readDuck 66 = .ok (.goto (-49), 3) := by decide +kernel
theorem dX4_readDuck_69 : decode cX4_readDuck 69 = .ok (.aload_n 0, 1) := by decide +kernel
theorem dX4_readDuck_70 : decode cX4_readDuck 70 = .ok (.getfield 29, 3) := by decide +kernel
theorem dX4_readDuck_73 : decode cX4_readDuck 73 = .ok (.ireturn, 1) := by decide +kernel
theorem dX4_readPlank_0 : decode cX4_readPlank 0 = .ok (.aload_n 0, 1) := by decide +kernel
theorem dX4_readPlank_1 : decode cX4_readPlank 1 = .ok (.getfield 21, 3) := by decide +kernel
theorem dX4_readPlank_4 : decode cX4_readPlank 4 = .ok (.invokevirtual 48, 3) := by decide +kernel
theorem dX4_readPlank_7 : decode cX4_readPlank 7 = .ok (.aload_n 0, 1) := by decide +kernel
theorem dX4_readPlank_8 : decode cX4_readPlank 8 = .ok (.iconst 0, 1) := by decide +kernel
theorem dX4_readPlank_9 : decode cX4_readPlank 9 = .ok (.putfield 25, 3) := by decide +kernel
theorem dX4_readPlank_12 : decode cX4_readPlank 12 = .ok (.aload_n 0, 1) := by decide +kernel
theorem dX4_readPlank_13 : decode cX4_readPlank 13 = .ok (.bipush (-9), 2) := by decide +kernel
theorem dX4_readPlank_15 : decode cX4_readPlank 15 = .ok (.putfield 29, 3) := by decide +kernel
theorem dX4_readPlank_18 : decode cX4_readPlank 18 = .ok (.iconst 0, 1) := by decide +kernel
theorem dX4_readPlank_19 : decode cX4_readPlank 19 = .ok (.istore_n 2, 1) := by decide +kernel
theorem dX4_readPlank_20 : decode cX4_readPlank 20 = .ok (.iconst 0, 1) := by decide +kernel
theorem dX4_readPlank_21 : decode cX4_readPlank 21 = .ok (.istore_n 3, 1) := by decide +kernel
theorem dX4_readPlank_22 : decode cX4_readPlank 22 = .ok (.iload_n 3, 1) := by decide +kernel
theorem dX4_readPlank_23 : decode cX4_readPlank 23 = .ok (.bipush 80, 2) := by decide +kernel
theorem dX4_readPlank_25 : decode cX4_readPlank 25 = .ok (.if_icmp .ge 85, 3) := by decide +kernel
theorem dX4_readPlank_28 : decode cX4_readPlank 28 = .ok (.iload_n 2, 1) := by decide +kernel
theorem dX4_readPlank_29 : decode cX4_readPlank 29 = .ok (.aload_n 1, 1) := by decide +kernel
theorem dX4_readPlank_30 : decode cX4_readPlank 30 = .ok (.getfield 35, 3) := by decide +kernel
theorem dX4_readPlank_33 : decode cX4_readPlank 33 = .ok (.if_icmp .ge 77, 3) := by decide +kernel
theorem dX4_readPlank_36 : decode cX4_readPlank 36 = .ok (.aload_n 0, 1) := by decide +kernel
theorem dX4_readPlank_37 : decode cX4_readPlank 37 = .ok (.getfield 29, 3) := by decide +kernel
theorem dX4_readPlank_40 : decode cX4_readPlank 40 = .ok (.bipush (-9), 2) := by decide +kernel
theorem dX4_readPlank_42 : decode cX4_readPlank 42 = .ok (.if_icmp .ne 68, 3) := by decide +kernel
theorem dX4_readPlank_45 : decode cX4_readPlank 45 = .ok (.aload_n 1, 1) := by decide +kernel
theorem dX4_readPlank_46 : decode cX4_readPlank 46 = .ok (.iload_n 2, 1) := by decide +kernel
theorem dX4_readPlank_47 : decode cX4_readPlank 47 = .ok (.invokevirtual 40, 3) := by decide +kernel
theorem dX4_readPlank_50 : decode cX4_readPlank 50 = .ok (.istore 4, 2) := by decide +kernel
theorem dX4_readPlank_52 : decode cX4_readPlank 52 = .ok (.iload 4, 2) := by decide +kernel
theorem dX4_readPlank_54 : decode cX4_readPlank 54 = .ok (.bipush 32, 2) := by decide +kernel
theorem dX4_readPlank_56 : decode cX4_readPlank 56 = .ok (.if_icmp .ne 9, 3) := by decide +kernel
theorem dX4_readPlank_59 : decode cX4_readPlank 59 = .ok (.iinc 2 1, 3) := by decide +kernel
theorem dX4_readPlank_62 : decode cX4_readPlank 62 = .ok (.goto 42, 3) := by decide +kernel
theorem dX4_readPlank_65 : decode cX4_readPlank 65 = .ok (.iload 4, 2) := by decide +kernel
theorem dX4_readPlank_67 : decode cX4_readPlank 67 = .ok (.bipush 117, 2) := by decide +kernel
theorem dX4_readPlank_69 : decode cX4_readPlank 69 = .ok (.if_icmp .ne 13, 3) := by decide +kernel
theorem dX4_readPlank_72 : decode cX4_readPlank 72 = .ok (.aload_n 0, 1) := by decide +kernel
theorem dX4_readPlank_73 : decode cX4_readPlank 73 = .ok (.aload_n 1, 1) := by decide +kernel
theorem dX4_readPlank_74 : decode cX4_readPlank 74 = .ok (.iload_n 2, 1) := by decide +kernel
theorem dX4_readPlank_75 : decode cX4_readPlank 75 = .ok (.invokevirtual 49, 3) := by decide +kernel
theorem dX4_readPlank_78 : decode cX4_readPlank 78 = .ok (.istore_n 2, 1) := by decide +kernel
theorem dX4_readPlank_79 : decode cX4_readPlank 79 = .ok (.goto 25, 3) := by decide +kernel
theorem dX4_readPlank_82 : decode cX4_readPlank 82 = .ok (.iload 4, 2) := by decide +kernel
theorem dX4_readPlank_84 : decode cX4_readPlank 84 = .ok (.bipush 98, 2) := by decide +kernel
theorem dX4_readPlank_86 : decode cX4_readPlank 86 = .ok (.if_icmp .ne 13, 3) := by decide +kernel
theorem dX4_readPlank_89 : decode cX4_readPlank 89 = .ok (.aload_n 0, 1) := by decide +kernel
theorem dX4_readPlank_90 : decode cX4_readPlank 90 = .ok (.aload_n 1, 1) := by decide +kernel
theorem dX4_readPlank_91 : decode cX4_readPlank 91 = .ok (.iload_n 2, 1) := by decide +kernel
theorem dX4_readPlank_92 : decode cX4_readPlank 92 = .ok (.invokevirtual 52, 3) := by decide +kernel
theorem dX4_readPlank_95 : decode cX4_readPlank 95 = .ok (.istore_n 2, 1) := by decide +kernel
theorem dX4_readPlank_96 : decode cX4_readPlank 96 = .ok (.goto 8, 3) := by decide +kernel
theorem dX4_readPlank_99 : decode cX4_readPlank 99 = .ok (.aload_n 0, 1) := by decide +kernel
theorem dX4_readPlank_100 : decode cX4_readPlank 100 = .ok (.iload_n 2, 1) := by decide +kernel
theorem dX4_readPlank_101 : decode cX4_readPlank 101 = .ok (.putfield 29, 3) := by decide +kernel
theorem dX4_readPlank_104 : decode cX4_readPlank 104 = .ok (.iinc 3 1, 3) := by decide +kernel
theorem dX4_readPlank_107 : decode cX4_readPlank 107 = .ok (.goto (-85), 3) := by decide +kernel
theorem dX4_readPlank_110 : decode cX4_readPlank 110 = .ok (.aload_n 0, 1) := by decide +kernel
theorem dX4_readPlank_111 : decode cX4_readPlank 111 = .ok (.getfield 29, 3) := by decide +kernel
theorem dX4_readPlank_114 : decode cX4_readPlank 114 = .ok (.ireturn, 1) := by decide +kernel
theorem dX4_faultAt_0 : decode cX4_faultAt 0 = .ok (.aload_n 0, 1) := by decide +kernel
theorem dX4_faultAt_1 : decode cX4_faultAt 1 = .ok (.iload_n 1, 1) := by decide +kernel
theorem dX4_faultAt_2 : decode cX4_faultAt 2 = .ok (.putfield 29, 3) := by decide +kernel
theorem dX4_faultAt_5 : decode cX4_faultAt 5 = .ok (.iload_n 1, 1) := by decide +kernel
theorem dX4_faultAt_6 : decode cX4_faultAt 6 = .ok (.ireturn, 1) := by decide +kernel
theorem dX4_sizeOf_0 : decode cX4_sizeOf 0 = .ok (.iload_n 0, 1) := by decide +kernel
theorem dX4_sizeOf_1 : decode cX4_sizeOf 1 = .ok (.tableswitch 91 104 119 #[83, 87, 89, 91, 85, 91, 91, 91, 91, 91, 81, 91, 91, 91, 91, 79], 79) := by decide +kernel
theorem dX4_sizeOf_80 : decode cX4_sizeOf 80 = .ok (.iconst 0, 1) := by decide +kernel
theorem dX4_sizeOf_81 : decode cX4_sizeOf 81 = .ok (.ireturn, 1) := by decide +kernel
theorem dX4_sizeOf_82 : decode cX4_sizeOf 82 = .ok (.iconst 1, 1) := by decide +kernel
theorem dX4_sizeOf_83 : decode cX4_sizeOf 83 = .ok (.ireturn, 1) := by decide +kernel
theorem dX4_sizeOf_84 : decode cX4_sizeOf 84 = .ok (.iconst 2, 1) := by decide +kernel
theorem dX4_sizeOf_85 : decode cX4_sizeOf 85 = .ok (.ireturn, 1) := by decide +kernel
theorem dX4_sizeOf_86 : decode cX4_sizeOf 86 = .ok (.iconst 3, 1) := by decide +kernel
theorem dX4_sizeOf_87 : decode cX4_sizeOf 87 = .ok (.ireturn, 1) := by decide +kernel
theorem dX4_sizeOf_88 : decode cX4_sizeOf 88 = .ok (.iconst 4, 1) := by decide +kernel
theorem dX4_sizeOf_89 : decode cX4_sizeOf 89 = .ok (.ireturn, 1) := by decide +kernel
theorem dX4_sizeOf_90 : decode cX4_sizeOf 90 = .ok (.iconst 5, 1) := by decide +kernel
theorem dX4_sizeOf_91 : decode cX4_sizeOf 91 = .ok (.ireturn, 1) := by decide +kernel
theorem dX4_sizeOf_92 : decode cX4_sizeOf 92 = .ok (.bipush (-9), 2) := by decide +kernel
theorem dX4_sizeOf_94 : decode cX4_sizeOf 94 = .ok (.ireturn, 1) := by decide +kernel
theorem dX4_readSize_0 : decode cX4_readSize 0 = .ok (.aload_n 1, 1) := by decide +kernel
theorem dX4_readSize_1 : decode cX4_readSize 1 = .ok (.iload_n 2, 1) := by decide +kernel
theorem dX4_readSize_2 : decode cX4_readSize 2 = .ok (.invokevirtual 40, 3) := by decide +kernel
theorem dX4_readSize_5 : decode cX4_readSize 5 = .ok (.invokestatic 55, 3) := by decide +kernel
theorem dX4_readSize_8 : decode cX4_readSize 8 = .ok (.istore_n 3, 1) := by decide +kernel
theorem dX4_readSize_9 : decode cX4_readSize 9 = .ok (.iload_n 3, 1) := by decide +kernel
theorem dX4_readSize_10 : decode cX4_readSize 10 = .ok (.bipush (-9), 2) := by decide +kernel
theorem dX4_readSize_12 : decode cX4_readSize 12 = .ok (.if_icmp .ne 9, 3) := by decide +kernel
theorem dX4_readSize_15 : decode cX4_readSize 15 = .ok (.aload_n 0, 1) := by decide +kernel
theorem dX4_readSize_16 : decode cX4_readSize 16 = .ok (.iload_n 2, 1) := by decide +kernel
theorem dX4_readSize_17 : decode cX4_readSize 17 = .ok (.invokevirtual 58, 3) := by decide +kernel
theorem dX4_readSize_20 : decode cX4_readSize 20 = .ok (.ireturn, 1) := by decide +kernel
theorem dX4_readSize_21 : decode cX4_readSize 21 = .ok (.iload_n 3, 1) := by decide +kernel
theorem dX4_readSize_22 : decode cX4_readSize 22 = .ok (.iconst 4, 1) := by decide +kernel
theorem dX4_readSize_23 : decode cX4_readSize 23 = .ok (.if_icmp .lt 7, 3) := by decide +kernel
theorem dX4_readSize_26 : decode cX4_readSize 26 = .ok (.iconst 1, 1) := by decide +kernel
theorem dX4_readSize_27 : decode cX4_readSize 27 = .ok (.goto 4, 3) := by decide +kernel
theorem dX4_readSize_30 : decode cX4_readSize 30 = .ok (.iconst 0, 1) := by decide +kernel
theorem dX4_readSize_31 : decode cX4_readSize 31 = .ok (.istore 4, 2) := by decide +kernel
theorem dX4_readSize_33 : decode cX4_readSize 33 = .ok (.iload 4, 2) := by decide +kernel
theorem dX4_readSize_35 : decode cX4_readSize 35 = .ok (.ifCond .ne 44, 3) := by decide +kernel
theorem dX4_readSize_38 : decode cX4_readSize 38 = .ok (.aload_n 1, 1) := by decide +kernel
theorem dX4_readSize_39 : decode cX4_readSize 39 = .ok (.iload_n 2, 1) := by decide +kernel
theorem dX4_readSize_40 : decode cX4_readSize 40 = .ok (.iconst 1, 1) := by decide +kernel
theorem dX4_readSize_41 : decode cX4_readSize 41 = .ok (.iadd, 1) := by decide +kernel
theorem dX4_readSize_42 : decode cX4_readSize 42 = .ok (.invokevirtual 40, 3) := by decide +kernel
theorem dX4_readSize_45 : decode cX4_readSize 45 = .ok (.bipush 63, 2) := by decide +kernel
theorem dX4_readSize_47 : decode cX4_readSize 47 = .ok (.if_icmp .ne 32, 3) := by decide +kernel
theorem dX4_readSize_50 : decode cX4_readSize 50 = .ok (.aload_n 0, 1) := by decide +kernel
theorem dX4_readSize_51 : decode cX4_readSize 51 = .ok (.getfield 12, 3) := by decide +kernel
theorem dX4_readSize_54 : decode cX4_readSize 54 = .ok (.getfield 61, 3) := by decide +kernel
theorem dX4_readSize_57 : decode cX4_readSize 57 = .ok (.iload_n 3, 1) := by decide +kernel
theorem dX4_readSize_58 : decode cX4_readSize 58 = .ok (.iconst 5, 1) := by decide +kernel
theorem dX4_readSize_59 : decode cX4_readSize 59 = .ok (.iastore, 1) := by decide +kernel
theorem dX4_readSize_60 : decode cX4_readSize 60 = .ok (.aload_n 0, 1) := by decide +kernel
theorem dX4_readSize_61 : decode cX4_readSize 61 = .ok (.getfield 12, 3) := by decide +kernel
theorem dX4_readSize_64 : decode cX4_readSize 64 = .ok (.dup, 1) := by decide +kernel
theorem dX4_readSize_65 : decode cX4_readSize 65 = .ok (.getfield 65, 3) := by decide +kernel
theorem dX4_readSize_68 : decode cX4_readSize 68 = .ok (.iconst 1, 1) := by decide +kernel
theorem dX4_readSize_69 : decode cX4_readSize 69 = .ok (.iload_n 3, 1) := by decide +kernel
theorem dX4_readSize_70 : decode cX4_readSize 70 = .ok (.ishl, 1) := by decide +kernel
theorem dX4_readSize_71 : decode cX4_readSize 71 = .ok (.ior, 1) := by decide +kernel
theorem dX4_readSize_72 : decode cX4_readSize 72 = .ok (.putfield 65, 3) := by decide +kernel
theorem dX4_readSize_75 : decode cX4_readSize 75 = .ok (.iload_n 2, 1) := by decide +kernel
theorem dX4_readSize_76 : decode cX4_readSize 76 = .ok (.iconst 2, 1) := by decide +kernel
theorem dX4_readSize_77 : decode cX4_readSize 77 = .ok (.iadd, 1) := by decide +kernel
theorem dX4_readSize_78 : decode cX4_readSize 78 = .ok (.ireturn, 1) := by decide +kernel
theorem dX4_readSize_79 : decode cX4_readSize 79 = .ok (.aload_n 1, 1) := by decide +kernel
theorem dX4_readSize_80 : decode cX4_readSize 80 = .ok (.iload_n 2, 1) := by decide +kernel
theorem dX4_readSize_81 : decode cX4_readSize 81 = .ok (.iconst 1, 1) := by decide +kernel
theorem dX4_readSize_82 : decode cX4_readSize 82 = .ok (.iadd, 1) := by decide +kernel
theorem dX4_readSize_83 : decode cX4_readSize 83 = .ok (.invokevirtual 68, 3) := by decide +kernel
theorem dX4_readSize_86 : decode cX4_readSize 86 = .ok (.istore 5, 2) := by decide +kernel
theorem dX4_readSize_88 : decode cX4_readSize 88 = .ok (.iload 5, 2) := by decide +kernel
theorem dX4_readSize_90 : decode cX4_readSize 90 = .ok (.iload 4, 2) := by decide +kernel
theorem dX4_readSize_92 : decode cX4_readSize 92 = .ok (.ifCond .eq 7, 3) := by decide +kernel
theorem dX4_readSize_95 : decode cX4_readSize 95 = .ok (.iconst 0, 1) := by decide +kernel
theorem dX4_readSize_96 : decode cX4_readSize 96 = .ok (.goto 4, 3) := by decide +kernel
theorem dX4_readSize_99 : decode cX4_readSize 99 = .ok (.iconst 1, 1) := by decide +kernel
theorem dX4_readSize_100 : decode cX4_readSize 100 = .ok (.if_icmp .ge 11, 3) := by decide +kernel
theorem dX4_readSize_103 : decode cX4_readSize 103 = .ok (.aload_n 0, 1) := by decide +kernel
theorem dX4_readSize_104 : decode cX4_readSize 104 = .ok (.iload_n 2, 1) := by decide +kernel
theorem dX4_readSize_105 : decode cX4_readSize 105 = .ok (.iconst 1, 1) := by decide +kernel
theorem dX4_readSize_106 : decode cX4_readSize 106 = .ok (.iadd, 1) := by decide +kernel
theorem dX4_readSize_107 : decode cX4_readSize 107 = .ok (.invokevirtual 58, 3) := by decide +kernel
theorem dX4_readSize_110 : decode cX4_readSize 110 = .ok (.ireturn, 1) := by decide +kernel
theorem dX4_readSize_111 : decode cX4_readSize 111 = .ok (.aload_n 0, 1) := by decide +kernel
theorem dX4_readSize_112 : decode cX4_readSize 112 = .ok (.getfield 12, 3) := by decide +kernel
theorem dX4_readSize_115 : decode cX4_readSize 115 = .ok (.getfield 61, 3) := by decide +kernel
theorem dX4_readSize_118 : decode cX4_readSize 118 = .ok (.iload_n 3, 1) := by decide +kernel
theorem dX4_readSize_119 : decode cX4_readSize 119 = .ok (.iload 5, 2) := by decide +kernel
theorem dX4_readSize_121 : decode cX4_readSize 121 = .ok (.iastore, 1) := by decide +kernel
theorem dX4_readSize_122 : decode cX4_readSize 122 = .ok (.aload_n 0, 1) := by decide +kernel
theorem dX4_readSize_123 : decode cX4_readSize 123 = .ok (.getfield 12, 3) := by decide +kernel
theorem dX4_readSize_126 : decode cX4_readSize 126 = .ok (.dup, 1) := by decide +kernel
theorem dX4_readSize_127 : decode cX4_readSize 127 = .ok (.getfield 65, 3) := by decide +kernel
theorem dX4_readSize_130 : decode cX4_readSize 130 = .ok (.iconst 1, 1) := by decide +kernel
theorem dX4_readSize_131 : decode cX4_readSize 131 = .ok (.iload_n 3, 1) := by decide +kernel
theorem dX4_readSize_132 : decode cX4_readSize 132 = .ok (.ishl, 1) := by decide +kernel
theorem dX4_readSize_133 : decode cX4_readSize 133 = .ok (.iconst (-1), 1) := by decide +kernel
theorem dX4_readSize_134 : decode cX4_readSize 134 = .ok (.ixor, 1) := by decide +kernel
theorem dX4_readSize_135 : decode cX4_readSize 135 = .ok (.iand, 1) := by decide +kernel
theorem dX4_readSize_136 : decode cX4_readSize 136 = .ok (.putfield 65, 3) := by decide +kernel
theorem dX4_readSize_139 : decode cX4_readSize 139 = .ok (.iload_n 2, 1) := by decide +kernel
theorem dX4_readSize_140 : decode cX4_readSize 140 = .ok (.iconst 2, 1) := by decide +kernel
theorem dX4_readSize_141 : decode cX4_readSize 141 = .ok (.iadd, 1) := by decide +kernel
theorem dX4_readSize_142 : decode cX4_readSize 142 = .ok (.ireturn, 1) := by decide +kernel
theorem dX4_readRub_0 : decode cX4_readRub 0 = .ok (.aload_n 1, 1) := by decide +kernel
theorem dX4_readRub_1 : decode cX4_readRub 1 = .ok (.iload_n 2, 1) := by decide +kernel
theorem dX4_readRub_2 : decode cX4_readRub 2 = .ok (.iconst 1, 1) := by decide +kernel
theorem dX4_readRub_3 : decode cX4_readRub 3 = .ok (.iadd, 1) := by decide +kernel
theorem dX4_readRub_4 : decode cX4_readRub 4 = .ok (.invokevirtual 68, 3) := by decide +kernel
theorem dX4_readRub_7 : decode cX4_readRub 7 = .ok (.istore_n 3, 1) := by decide +kernel
theorem dX4_readRub_8 : decode cX4_readRub 8 = .ok (.iload_n 3, 1) := by decide +kernel
theorem dX4_readRub_9 : decode cX4_readRub 9 = .ok (.ifCond .ge 11, 3) := by decide +kernel
theorem dX4_readRub_12 : decode cX4_readRub 12 = .ok (.aload_n 0, 1) := by decide +kernel
theorem dX4_readRub_13 : decode cX4_readRub 13 = .ok (.iload_n 2, 1) := by decide +kernel
theorem dX4_readRub_14 : decode cX4_readRub 14 = .ok (.iconst 1, 1) := by decide +kernel
theorem dX4_readRub_15 : decode cX4_readRub 15 = .ok (.iadd, 1) := by decide +kernel
theorem dX4_readRub_16 : decode cX4_readRub 16 = .ok (.invokevirtual 58, 3) := by decide +kernel
theorem dX4_readRub_19 : decode cX4_readRub 19 = .ok (.ireturn, 1) := by decide +kernel
theorem dX4_readRub_20 : decode cX4_readRub 20 = .ok (.aload_n 0, 1) := by decide +kernel
theorem dX4_readRub_21 : decode cX4_readRub 21 = .ok (.getfield 21, 3) := by decide +kernel
theorem dX4_readRub_24 : decode cX4_readRub 24 = .ok (.iload_n 3, 1) := by decide +kernel
theorem dX4_readRub_25 : decode cX4_readRub 25 = .ok (.putfield 71, 3) := by decide +kernel
theorem dX4_readRub_28 : decode cX4_readRub 28 = .ok (.iload_n 2, 1) := by decide +kernel
theorem dX4_readRub_29 : decode cX4_readRub 29 = .ok (.iconst 2, 1) := by decide +kernel
theorem dX4_readRub_30 : decode cX4_readRub 30 = .ok (.iadd, 1) := by decide +kernel
theorem dX4_readRub_31 : decode cX4_readRub 31 = .ok (.ireturn, 1) := by decide +kernel
theorem dX4_readBump_0 : decode cX4_readBump 0 = .ok (.aload_n 0, 1) := by decide +kernel
theorem dX4_readBump_1 : decode cX4_readBump 1 = .ok (.getfield 25, 3) := by decide +kernel
theorem dX4_readBump_4 : decode cX4_readBump 4 = .ok (.bipush 8, 2) := by decide +kernel
theorem dX4_readBump_6 : decode cX4_readBump 6 = .ok (.if_icmp .lt 9, 3) := by decide +kernel
theorem dX4_readBump_9 : decode cX4_readBump 9 = .ok (.aload_n 0, 1) := by decide +kernel
theorem dX4_readBump_10 : decode cX4_readBump 10 = .ok (.iload_n 2, 1) := by decide +kernel
theorem dX4_readBump_11 : decode cX4_readBump 11 = .ok (.invokevirtual 58, 3) := by decide +kernel
theorem dX4_readBump_14 : decode cX4_readBump 14 = .ok (.ireturn, 1) := by decide +kernel
theorem dX4_readBump_15 : decode cX4_readBump 15 = .ok (.iload_n 2, 1) := by decide +kernel
theorem dX4_readBump_16 : decode cX4_readBump 16 = .ok (.iconst 1, 1) := by decide +kernel
theorem dX4_readBump_17 : decode cX4_readBump 17 = .ok (.iadd, 1) := by decide +kernel
theorem dX4_readBump_18 : decode cX4_readBump 18 = .ok (.istore_n 3, 1) := by decide +kernel
theorem dX4_readBump_19 : decode cX4_readBump 19 = .ok (.aload_n 1, 1) := by decide +kernel
theorem dX4_readBump_20 : decode cX4_readBump 20 = .ok (.iload_n 3, 1) := by decide +kernel
theorem dX4_readBump_21 : decode cX4_readBump 21 = .ok (.invokevirtual 68, 3) := by decide +kernel
theorem dX4_readBump_24 : decode cX4_readBump 24 = .ok (.istore 4, 2) := by decide +kernel
theorem dX4_readBump_26 : decode cX4_readBump 26 = .ok (.iload 4, 2) := by decide +kernel
theorem dX4_readBump_28 : decode cX4_readBump 28 = .ok (.ifCond .ge 9, 3) := by decide +kernel
theorem dX4_readBump_31 : decode cX4_readBump 31 = .ok (.aload_n 0, 1) := by decide +kernel
theorem dX4_readBump_32 : decode cX4_readBump 32 = .ok (.iload_n 3, 1) := by decide +kernel
theorem dX4_readBump_33 : decode cX4_readBump 33 = .ok (.invokevirtual 58, 3) := by decide +kernel
theorem dX4_readBump_36 : decode cX4_readBump 36 = .ok (.ireturn, 1) := by decide +kernel
theorem dX4_readBump_37 : decode cX4_readBump 37 = .ok (.iinc 3 1, 3) := by decide +kernel
theorem dX4_readBump_40 : decode cX4_readBump 40 = .ok (.aload_n 1, 1) := by decide +kernel
theorem dX4_readBump_41 : decode cX4_readBump 41 = .ok (.iload_n 3, 1) := by decide +kernel
theorem dX4_readBump_42 : decode cX4_readBump 42 = .ok (.invokevirtual 68, 3) := by decide +kernel
theorem dX4_readBump_45 : decode cX4_readBump 45 = .ok (.ifCond .lt 19, 3) := by decide +kernel
theorem dX4_readBump_48 : decode cX4_readBump 48 = .ok (.bipush 10, 2) := by decide +kernel
theorem dX4_readBump_50 : decode cX4_readBump 50 = .ok (.iload 4, 2) := by decide +kernel
theorem dX4_readBump_52 : decode cX4_readBump 52 = .ok (.imul, 1) := by decide +kernel
theorem dX4_readBump_53 : decode cX4_readBump 53 = .ok (.aload_n 1, 1) := by decide +kernel
theorem dX4_readBump_54 : decode cX4_readBump 54 = .ok (.iload_n 3, 1) := by decide +kernel
theorem dX4_readBump_55 : decode cX4_readBump 55 = .ok (.invokevirtual 68, 3) := by decide +kernel
theorem dX4_readBump_58 : decode cX4_readBump 58 = .ok (.iadd, 1) := by decide +kernel
theorem dX4_readBump_59 : decode cX4_readBump 59 = .ok (.istore 4, 2) := by decide +kernel
theorem dX4_readBump_61 : decode cX4_readBump 61 = .ok (.iinc 3 1, 3) := by decide +kernel
theorem dX4_readBump_64 : decode cX4_readBump 64 = .ok (.aload_n 1, 1) := by decide +kernel
theorem dX4_readBump_65 : decode cX4_readBump 65 = .ok (.iload_n 3, 1) := by decide +kernel
theorem dX4_readBump_66 : decode cX4_readBump 66 = .ok (.invokevirtual 40, 3) := by decide +kernel
theorem dX4_readBump_69 : decode cX4_readBump 69 = .ok (.bipush 58, 2) := by decide +kernel
theorem dX4_readBump_71 : decode cX4_readBump 71 = .ok (.if_icmp .eq 9, 3) := by decide +kernel
theorem dX4_readBump_74 : decode cX4_readBump 74 = .ok (.aload_n 0, 1) := by decide +kernel
theorem dX4_readBump_75 : decode cX4_readBump 75 = .ok (.iload_n 3, 1) := by decide +kernel
theorem dX4_readBump_76 : decode cX4_readBump 76 = .ok (.invokevirtual 58, 3) := by decide +kernel
theorem dX4_readBump_79 : decode cX4_readBump 79 = .ok (.ireturn, 1) := by decide +kernel
theorem dX4_readBump_80 : decode cX4_readBump 80 = .ok (.iinc 3 1, 3) := by decide +kernel
theorem dX4_readBump_83 : decode cX4_readBump 83 = .ok (.aload_n 1, 1) := by decide +kernel
theorem dX4_readBump_84 : decode cX4_readBump 84 = .ok (.iload_n 3, 1) := by decide +kernel
theorem dX4_readBump_85 : decode cX4_readBump 85 = .ok (.invokevirtual 68, 3) := by decide +kernel
theorem dX4_readBump_88 : decode cX4_readBump 88 = .ok (.istore 5, 2) := by decide +kernel
theorem dX4_readBump_90 : decode cX4_readBump 90 = .ok (.iload 5, 2) := by decide +kernel
theorem dX4_readBump_92 : decode cX4_readBump 92 = .ok (.iconst 1, 1) := by decide +kernel
theorem dX4_readBump_93 : decode cX4_readBump 93 = .ok (.if_icmp .ge 9, 3) := by decide +kernel
theorem dX4_readBump_96 : decode cX4_readBump 96 = .ok (.aload_n 0, 1) := by decide +kernel
theorem dX4_readBump_97 : decode cX4_readBump 97 = .ok (.iload_n 3, 1) := by decide +kernel
theorem dX4_readBump_98 : decode cX4_readBump 98 = .ok (.invokevirtual 58, 3) := by decide +kernel
theorem dX4_readBump_101 : decode cX4_readBump 101 = .ok (.ireturn, 1) := by decide +kernel
theorem dX4_readBump_102 : decode cX4_readBump 102 = .ok (.aload_n 0, 1) := by decide +kernel
theorem dX4_readBump_103 : decode cX4_readBump 103 = .ok (.getfield 21, 3) := by decide +kernel
theorem dX4_readBump_106 : decode cX4_readBump 106 = .ok (.getfield 74, 3) := by decide +kernel
theorem dX4_readBump_109 : decode cX4_readBump 109 = .ok (.iload 4, 2) := by decide +kernel
theorem dX4_readBump_111 : decode cX4_readBump 111 = .ok (.dup2, 1) := by decide +kernel
theorem dX4_readBump_112 : decode cX4_readBump 112 = .ok (.iaload, 1) := by decide +kernel
theorem dX4_readBump_113 : decode cX4_readBump 113 = .ok (.iload 5, 2) := by decide +kernel
theorem dX4_readBump_115 : decode cX4_readBump 115 = .ok (.iadd, 1) := by decide +kernel
theorem dX4_readBump_116 : decode cX4_readBump 116 = .ok (.iastore, 1) := by decide +kernel
theorem dX4_readBump_117 : decode cX4_readBump 117 = .ok (.aload_n 0, 1) := by decide +kernel
theorem dX4_readBump_118 : decode cX4_readBump 118 = .ok (.dup, 1) := by decide +kernel
theorem dX4_readBump_119 : decode cX4_readBump 119 = .ok (.getfield 25, 3) := by decide +kernel
theorem dX4_readBump_122 : decode cX4_readBump 122 = .ok (.iconst 1, 1) := by decide +kernel
theorem dX4_readBump_123 : decode cX4_readBump 123 = .ok (.iadd, 1) := by decide +kernel
theorem dX4_readBump_124 : decode cX4_readBump 124 = .ok (.putfield 25, 3) := by decide +kernel
theorem dX4_readBump_127 : decode cX4_readBump 127 = .ok (.iload_n 3, 1) := by decide +kernel
theorem dX4_readBump_128 : decode cX4_readBump 128 = .ok (.iconst 1, 1) := by decide +kernel
theorem dX4_readBump_129 : decode cX4_readBump 129 = .ok (.iadd, 1) := by decide +kernel
theorem dX4_readBump_130 : decode cX4_readBump 130 = .ok (.ireturn, 1) := by decide +kernel
theorem dX5_init_0 : decode cX5_init 0 = .ok (.aload_n 0, 1) := by decide +kernel
theorem dX5_init_1 : decode cX5_init 1 = .ok (.invokespecial 3, 3) := by decide +kernel
theorem dX5_init_4 : decode cX5_init 4 = .ok (.aload_n 0, 1) := by decide +kernel
theorem dX5_init_5 : decode cX5_init 5 = .ok (.bipush 60, 2) := by decide +kernel
theorem dX5_init_7 : decode cX5_init 7 = .ok (.newarray .int, 2) := by decide +kernel
theorem dX5_init_9 : decode cX5_init 9 = .ok (.putfield 9, 3) := by decide +kernel
theorem dX5_init_12 : decode cX5_init 12 = .ok (.aload_n 0, 1) := by decide +kernel
theorem dX5_init_13 : decode cX5_init 13 = .ok (.iconst (-1), 1) := by decide +kernel
theorem dX5_init_14 : decode cX5_init 14 = .ok (.putfield 15, 3) := by decide +kernel
theorem dX5_init_17 : decode cX5_init 17 = .ok (.return_, 1) := by decide +kernel
theorem dX5_isMissing_0 : decode cX5_isMissing 0 = .ok (.aload_n 0, 1) := by decide +kernel
theorem dX5_isMissing_1 : decode cX5_isMissing 1 = .ok (.getfield 15, 3) := by decide +kernel
theorem dX5_isMissing_4 : decode cX5_isMissing 4 = .ok (.ifCond .ge 7, 3) := by decide +kernel
theorem dX5_isMissing_7 : decode cX5_isMissing 7 = .ok (.iconst 1, 1) := by decide +kernel
theorem dX5_isMissing_8 : decode cX5_isMissing 8 = .ok (.goto 4, 3) := by decide +kernel
theorem dX5_isMissing_11 : decode cX5_isMissing 11 = .ok (.iconst 0, 1) := by decide +kernel
theorem dX5_isMissing_12 : decode cX5_isMissing 12 = .ok (.ireturn, 1) := by decide +kernel
theorem dX5_has_0 : decode cX5_has 0 = .ok (.iload_n 1, 1) := by decide +kernel
theorem dX5_has_1 : decode cX5_has 1 = .ok (.ifCond .lt 15, 3) := by decide +kernel
theorem dX5_has_4 : decode cX5_has 4 = .ok (.iload_n 1, 1) := by decide +kernel
theorem dX5_has_5 : decode cX5_has 5 = .ok (.aload_n 0, 1) := by decide +kernel
theorem dX5_has_6 : decode cX5_has 6 = .ok (.getfield 15, 3) := by decide +kernel
theorem dX5_has_9 : decode cX5_has 9 = .ok (.if_icmp .ge 7, 3) := by decide +kernel
theorem dX5_has_12 : decode cX5_has 12 = .ok (.iconst 1, 1) := by decide +kernel
theorem dX5_has_13 : decode cX5_has 13 = .ok (.goto 4, 3) := by decide +kernel
theorem dX5_has_16 : decode cX5_has 16 = .ok (.iconst 0, 1) := by decide +kernel
theorem dX5_has_17 : decode cX5_has 17 = .ok (.ireturn, 1) := by decide +kernel
theorem dX5_hasSpan_0 : decode cX5_hasSpan 0 = .ok (.iload_n 1, 1) := by decide +kernel
theorem dX5_hasSpan_1 : decode cX5_hasSpan 1 = .ok (.ifCond .lt 25, 3) := by decide +kernel
theorem dX5_hasSpan_4 : decode cX5_hasSpan 4 = .ok (.iload_n 1, 1) := by decide +kernel
theorem dX5_hasSpan_5 : decode cX5_hasSpan 5 = .ok (.aload_n 0, 1) := by decide +kernel
theorem dX5_hasSpan_6 : decode cX5_hasSpan 6 = .ok (.getfield 15, 3) := by decide +kernel
theorem dX5_hasSpan_9 : decode cX5_hasSpan 9 = .ok (.if_icmp .gt 17, 3) := by decide +kernel
theorem dX5_hasSpan_12 : decode cX5_hasSpan 12 = .ok (.iload_n 2, 1) := by decide +kernel
theorem dX5_hasSpan_13 : decode cX5_hasSpan 13 = .ok (.aload_n 0, 1) := by decide +kernel
theorem dX5_hasSpan_14 : decode cX5_hasSpan 14 = .ok (.getfield 15, 3) := by decide +kernel
theorem dX5_hasSpan_17 : decode cX5_hasSpan 17 = .ok (.iload_n 1, 1) := by decide +kernel
theorem dX5_hasSpan_18 : decode cX5_hasSpan 18 = .ok (.isub, 1) := by decide +kernel
theorem dX5_hasSpan_19 : decode cX5_hasSpan 19 = .ok (.if_icmp .gt 7, 3) := by decide +kernel
theorem dX5_hasSpan_22 : decode cX5_hasSpan 22 = .ok (.iconst 1, 1) := by decide +kernel
theorem dX5_hasSpan_23 : decode cX5_hasSpan 23 = .ok (.goto 4, 3) := by decide +kernel
theorem dX5_hasSpan_26 : decode cX5_hasSpan 26 = .ok (.iconst 0, 1) := by decide +kernel
theorem dX5_hasSpan_27 : decode cX5_hasSpan 27 = .ok (.ireturn, 1) := by decide +kernel
theorem dX5_renew_0 : decode cX5_renew 0 = .ok (.aload_n 0, 1) := by decide +kernel
theorem dX5_renew_1 : decode cX5_renew 1 = .ok (.getfield 9, 3) := by decide +kernel
theorem dX5_renew_4 : decode cX5_renew 4 = .ok (.iconst 0, 1) := by decide +kernel
theorem dX5_renew_5 : decode cX5_renew 5 = .ok (.invokestatic 19, 3) := by decide +kernel
theorem dX5_renew_8 : decode cX5_renew 8 = .ok (.aload_n 0, 1) := by decide +kernel
theorem dX5_renew_9 : decode cX5_renew 9 = .ok (.iload_n 1, 1) := by decide +kernel
theorem dX5_renew_10 : decode cX5_renew 10 = .ok (.putfield 15, 3) := by decide +kernel
theorem dX5_renew_13 : decode cX5_renew 13 = .ok (.return_, 1) := by decide +kernel
theorem dX5_sum_0 : decode cX5_sum 0 = .ok (.lconst 0, 1) := by decide +kernel
theorem dX5_sum_1 : decode cX5_sum 1 = .ok (.lstore_n 1, 1) := by decide +kernel
theorem dX5_sum_2 : decode cX5_sum 2 = .ok (.iconst 0, 1) := by decide +kernel
theorem dX5_sum_3 : decode cX5_sum 3 = .ok (.istore_n 3, 1) := by decide +kernel
theorem dX5_sum_4 : decode cX5_sum 4 = .ok (.iload_n 3, 1) := by decide +kernel
theorem dX5_sum_5 : decode cX5_sum 5 = .ok (.aload_n 0, 1) := by decide +kernel
theorem dX5_sum_6 : decode cX5_sum 6 = .ok (.getfield 15, 3) := by decide +kernel
theorem dX5_sum_9 : decode cX5_sum 9 = .ok (.if_icmp .ge 19, 3) := by decide +kernel
theorem dX5_sum_12 : decode cX5_sum 12 = .ok (.lload_n 1, 1) := by decide +kernel
theorem dX5_sum_13 : decode cX5_sum 13 = .ok (.aload_n 0, 1) := by decide +kernel
theorem dX5_sum_14 : decode cX5_sum 14 = .ok (.getfield 9, 3) := by decide +kernel
theorem dX5_sum_17 : decode cX5_sum 17 = .ok (.iload_n 3, 1) := by decide +kernel
theorem dX5_sum_18 : decode cX5_sum 18 = .ok (.iaload, 1) := by decide +kernel
theorem dX5_sum_19 : decode cX5_sum 19 = .ok (.i2l, 1) := by decide +kernel
theorem dX5_sum_20 : decode cX5_sum 20 = .ok (.ladd, 1) := by decide +kernel
theorem dX5_sum_21 : decode cX5_sum 21 = .ok (.lstore_n 1, 1) := by decide +kernel
theorem dX5_sum_22 : decode cX5_sum 22 = .ok (.iinc 3 1, 3) := by decide +kernel
theorem dX5_sum_25 : decode cX5_sum 25 = .ok (.goto (-21), 3) := by decide +kernel
theorem dX5_sum_28 : decode cX5_sum 28 = .ok (.lload_n 1, 1) := by decide +kernel
theorem dX5_sum_29 : decode cX5_sum 29 = .ok (.lreturn, 1) := by decide +kernel
theorem dX5_digestOn_0 : decode cX5_digestOn 0 = .ok (.ldc2_w 25, 3) := by decide +kernel
theorem dX5_digestOn_3 : decode cX5_digestOn 3 = .ok (.lload_n 1, 1) := by decide +kernel
theorem dX5_digestOn_4 : decode cX5_digestOn 4 = .ok (.lmul, 1) := by decide +kernel
theorem dX5_digestOn_5 : decode cX5_digestOn 5 = .ok (.aload_n 0, 1) := by decide +kernel
theorem dX5_digestOn_6 : decode cX5_digestOn 6 = .ok (.getfield 15, 3) := by decide +kernel
theorem dX5_digestOn_9 : decode cX5_digestOn 9 = .ok (.i2l, 1) := by decide +kernel
theorem dX5_digestOn_10 : decode cX5_digestOn 10 = .ok (.ladd, 1) := by decide +kernel
theorem dX5_digestOn_11 : decode cX5_digestOn 11 = .ok (.lstore_n 3, 1) := by decide +kernel
theorem dX5_digestOn_12 : decode cX5_digestOn 12 = .ok (.iconst 0, 1) := by decide +kernel
theorem dX5_digestOn_13 : decode cX5_digestOn 13 = .ok (.istore 5, 2) := by decide +kernel
theorem dX5_digestOn_15 : decode cX5_digestOn 15 = .ok (.iload 5, 2) := by decide +kernel
theorem dX5_digestOn_17 : decode cX5_digestOn 17 = .ok (.aload_n 0, 1) := by decide +kernel
theorem dX5_digestOn_18 : decode cX5_digestOn 18 = .ok (.getfield 15, 3) := by decide +kernel
theorem dX5_digestOn_21 : decode cX5_digestOn 21 = .ok (.if_icmp .ge 24, 3) := by decide +kernel
theorem dX5_digestOn_24 : decode cX5_digestOn 24 = .ok (.ldc2_w 25, 3) := by decide +kernel
theorem dX5_digestOn_27 : decode cX5_digestOn 27 = .ok (.lload_n 3, 1) := by decide +kernel
theorem dX5_digestOn_28 : decode cX5_digestOn 28 = .ok (.lmul, 1) := by decide +kernel
theorem dX5_digestOn_29 : decode cX5_digestOn 29 = .ok (.aload_n 0, 1) := by decide +kernel
theorem dX5_digestOn_30 : decode cX5_digestOn 30 = .ok (.getfield 9, 3) := by decide +kernel
theorem dX5_digestOn_33 : decode cX5_digestOn 33 = .ok (.iload 5, 2) := by decide +kernel
theorem dX5_digestOn_35 : decode cX5_digestOn 35 = .ok (.iaload, 1) := by decide +kernel
theorem dX5_digestOn_36 : decode cX5_digestOn 36 = .ok (.i2l, 1) := by decide +kernel
theorem dX5_digestOn_37 : decode cX5_digestOn 37 = .ok (.ladd, 1) := by decide +kernel
theorem dX5_digestOn_38 : decode cX5_digestOn 38 = .ok (.lstore_n 3, 1) := by decide +kernel
theorem dX5_digestOn_39 : decode cX5_digestOn 39 = .ok (.iinc 5 1, 3) := by decide +kernel
theorem dX5_digestOn_42 : decode cX5_digestOn 42 = .ok (.goto (-27), 3) := by decide +kernel
theorem dX5_digestOn_45 : decode cX5_digestOn 45 = .ok (.lload_n 3, 1) := by decide +kernel
theorem dX5_digestOn_46 : decode cX5_digestOn 46 = .ok (.lreturn, 1) := by decide +kernel
theorem dX6_init_0 : decode cX6_init 0 = .ok (.aload_n 0, 1) := by decide +kernel
theorem dX6_init_1 : decode cX6_init 1 = .ok (.invokespecial 3, 3) := by decide +kernel
theorem dX6_init_4 : decode cX6_init 4 = .ok (.aload_n 0, 1) := by decide +kernel
theorem dX6_init_5 : decode cX6_init 5 = .ok (.bipush 80, 2) := by decide +kernel
theorem dX6_init_7 : decode cX6_init 7 = .ok (.newarray .byte, 2) := by decide +kernel
theorem dX6_init_9 : decode cX6_init 9 = .ok (.putfield 9, 3) := by decide +kernel
theorem dX6_init_12 : decode cX6_init 12 = .ok (.aload_n 0, 1) := by decide +kernel
theorem dX6_init_13 : decode cX6_init 13 = .ok (.iconst (-1), 1) := by decide +kernel
theorem dX6_init_14 : decode cX6_init 14 = .ok (.putfield 15, 3) := by decide +kernel
theorem dX6_init_17 : decode cX6_init 17 = .ok (.return_, 1) := by decide +kernel
theorem dX6_isMissing_0 : decode cX6_isMissing 0 = .ok (.aload_n 0, 1) := by decide +kernel
theorem dX6_isMissing_1 : decode cX6_isMissing 1 = .ok (.getfield 15, 3) := by decide +kernel
theorem dX6_isMissing_4 : decode cX6_isMissing 4 = .ok (.ifCond .ge 7, 3) := by decide +kernel
theorem dX6_isMissing_7 : decode cX6_isMissing 7 = .ok (.iconst 1, 1) := by decide +kernel
theorem dX6_isMissing_8 : decode cX6_isMissing 8 = .ok (.goto 4, 3) := by decide +kernel
theorem dX6_isMissing_11 : decode cX6_isMissing 11 = .ok (.iconst 0, 1) := by decide +kernel
theorem dX6_isMissing_12 : decode cX6_isMissing 12 = .ok (.ireturn, 1) := by decide +kernel
theorem dX6_has_0 : decode cX6_has 0 = .ok (.iload_n 1, 1) := by decide +kernel
theorem dX6_has_1 : decode cX6_has 1 = .ok (.ifCond .lt 15, 3) := by decide +kernel
theorem dX6_has_4 : decode cX6_has 4 = .ok (.iload_n 1, 1) := by decide +kernel
theorem dX6_has_5 : decode cX6_has 5 = .ok (.aload_n 0, 1) := by decide +kernel
theorem dX6_has_6 : decode cX6_has 6 = .ok (.getfield 15, 3) := by decide +kernel
theorem dX6_has_9 : decode cX6_has 9 = .ok (.if_icmp .ge 7, 3) := by decide +kernel
theorem dX6_has_12 : decode cX6_has 12 = .ok (.iconst 1, 1) := by decide +kernel
theorem dX6_has_13 : decode cX6_has 13 = .ok (.goto 4, 3) := by decide +kernel
theorem dX6_has_16 : decode cX6_has 16 = .ok (.iconst 0, 1) := by decide +kernel
theorem dX6_has_17 : decode cX6_has 17 = .ok (.ireturn, 1) := by decide +kernel
theorem dX6_renew_0 : decode cX6_renew 0 = .ok (.aload_n 0, 1) := by decide +kernel
theorem dX6_renew_1 : decode cX6_renew 1 = .ok (.getfield 9, 3) := by decide +kernel
theorem dX6_renew_4 : decode cX6_renew 4 = .ok (.bipush 32, 2) := by decide +kernel
theorem dX6_renew_6 : decode cX6_renew 6 = .ok (.invokestatic 19, 3) := by decide +kernel
theorem dX6_renew_9 : decode cX6_renew 9 = .ok (.aload_n 0, 1) := by decide +kernel
theorem dX6_renew_10 : decode cX6_renew 10 = .ok (.iload_n 1, 1) := by decide +kernel
theorem dX6_renew_11 : decode cX6_renew 11 = .ok (.putfield 15, 3) := by decide +kernel
theorem dX6_renew_14 : decode cX6_renew 14 = .ok (.return_, 1) := by decide +kernel
theorem dX6_sign_0 : decode cX6_sign 0 = .ok (.aload_n 0, 1) := by decide +kernel
theorem dX6_sign_1 : decode cX6_sign 1 = .ok (.iload_n 1, 1) := by decide +kernel
theorem dX6_sign_2 : decode cX6_sign 2 = .ok (.invokevirtual 25, 3) := by decide +kernel
theorem dX6_sign_5 : decode cX6_sign 5 = .ok (.ifCond .eq 12, 3) := by decide +kernel
theorem dX6_sign_8 : decode cX6_sign 8 = .ok (.aload_n 0, 1) := by decide +kernel
theorem dX6_sign_9 : decode cX6_sign 9 = .ok (.getfield 9, 3) := by decide +kernel
theorem dX6_sign_12 : decode cX6_sign 12 = .ok (.iload_n 1, 1) := by decide +kernel
theorem dX6_sign_13 : decode cX6_sign 13 = .ok (.baload, 1) := by decide +kernel
theorem dX6_sign_14 : decode cX6_sign 14 = .ok (.goto 6, 3) := by decide +kernel
theorem dX6_sign_17 : decode cX6_sign 17 = .ok (.sipush 1000, 3) := by decide +kernel
theorem dX6_sign_20 : decode cX6_sign 20 = .ok (.ireturn, 1) := by decide +kernel
theorem dX6_figure_0 : decode cX6_figure 0 = .ok (.aload_n 0, 1) := by decide +kernel
theorem dX6_figure_1 : decode cX6_figure 1 = .ok (.iload_n 1, 1) := by decide +kernel
theorem dX6_figure_2 : decode cX6_figure 2 = .ok (.invokevirtual 29, 3) := by decide +kernel
theorem dX6_figure_5 : decode cX6_figure 5 = .ok (.istore_n 2, 1) := by decide +kernel
theorem dX6_figure_6 : decode cX6_figure 6 = .ok (.iload_n 2, 1) := by decide +kernel
theorem dX6_figure_7 : decode cX6_figure 7 = .ok (.bipush 48, 2) := by decide +kernel
theorem dX6_figure_9 : decode cX6_figure 9 = .ok (.bipush 57, 2) := by decide +kernel
theorem dX6_figure_11 : decode cX6_figure 11 = .ok (.invokestatic 33, 3) := by decide +kernel
theorem dX6_figure_14 : decode cX6_figure 14 = .ok (.ifCond .eq 7, 3) := by decide +kernel
theorem dX6_figure_17 : decode cX6_figure 17 = .ok (.iconst (-1), 1) := by decide +kernel
theorem dX6_figure_18 : decode cX6_figure 18 = .ok (.goto 7, 3) := by decide +kernel
theorem dX6_figure_21 : decode cX6_figure 21 = .ok (.iload_n 2, 1) := by decide +kernel
theorem dX6_figure_22 : decode cX6_figure 22 = .ok (.bipush 48, 2) := by decide +kernel
theorem dX6_figure_24 : decode cX6_figure 24 = .ok (.isub, 1) := by decide +kernel
theorem dX6_figure_25 : decode cX6_figure 25 = .ok (.ireturn, 1) := by decide +kernel
theorem dX6_digestOn_0 : decode cX6_digestOn 0 = .ok (.ldc2_w 37, 3) := by decide +kernel
theorem dX6_digestOn_3 : decode cX6_digestOn 3 = .ok (.lload_n 1, 1) := by decide +kernel
theorem dX6_digestOn_4 : decode cX6_digestOn 4 = .ok (.lmul, 1) := by decide +kernel
theorem dX6_digestOn_5 : decode cX6_digestOn 5 = .ok (.aload_n 0, 1) := by decide +kernel
theorem dX6_digestOn_6 : decode cX6_digestOn 6 = .ok (.getfield 15, 3) := by decide +kernel
theorem dX6_digestOn_9 : decode cX6_digestOn 9 = .ok (.i2l, 1) := by decide +kernel
theorem dX6_digestOn_10 : decode cX6_digestOn 10 = .ok (.ladd, 1) := by decide +kernel
theorem dX6_digestOn_11 : decode cX6_digestOn 11 = .ok (.lstore_n 3, 1) := by decide +kernel
theorem dX6_digestOn_12 : decode cX6_digestOn 12 = .ok (.iconst 0, 1) := by decide +kernel
theorem dX6_digestOn_13 : decode cX6_digestOn 13 = .ok (.istore 5, 2) := by decide +kernel
theorem dX6_digestOn_15 : decode cX6_digestOn 15 = .ok (.iload 5, 2) := by decide +kernel
theorem dX6_digestOn_17 : decode cX6_digestOn 17 = .ok (.aload_n 0, 1) := by decide +kernel
theorem dX6_digestOn_18 : decode cX6_digestOn 18 = .ok (.getfield 15, 3) := by decide +kernel
theorem dX6_digestOn_21 : decode cX6_digestOn 21 = .ok (.if_icmp .ge 24, 3) := by decide +kernel
theorem dX6_digestOn_24 : decode cX6_digestOn 24 = .ok (.ldc2_w 37, 3) := by decide +kernel
theorem dX6_digestOn_27 : decode cX6_digestOn 27 = .ok (.lload_n 3, 1) := by decide +kernel
theorem dX6_digestOn_28 : decode cX6_digestOn 28 = .ok (.lmul, 1) := by decide +kernel
theorem dX6_digestOn_29 : decode cX6_digestOn 29 = .ok (.aload_n 0, 1) := by decide +kernel
theorem dX6_digestOn_30 : decode cX6_digestOn 30 = .ok (.getfield 9, 3) := by decide +kernel
theorem dX6_digestOn_33 : decode cX6_digestOn 33 = .ok (.iload 5, 2) := by decide +kernel
theorem dX6_digestOn_35 : decode cX6_digestOn 35 = .ok (.baload, 1) := by decide +kernel
theorem dX6_digestOn_36 : decode cX6_digestOn 36 = .ok (.i2l, 1) := by decide +kernel
theorem dX6_digestOn_37 : decode cX6_digestOn 37 = .ok (.ladd, 1) := by decide +kernel
theorem dX6_digestOn_38 : decode cX6_digestOn 38 = .ok (.lstore_n 3, 1) := by decide +kernel
theorem dX6_digestOn_39 : decode cX6_digestOn 39 = .ok (.iinc 5 1, 3) := by decide +kernel
theorem dX6_digestOn_42 : decode cX6_digestOn 42 = .ok (.goto (-27), 3) := by decide +kernel
theorem dX6_digestOn_45 : decode cX6_digestOn 45 = .ok (.lload_n 3, 1) := by decide +kernel
theorem dX6_digestOn_46 : decode cX6_digestOn 46 = .ok (.lreturn, 1) := by decide +kernel
theorem dX7_init_0 : decode cX7_init 0 = .ok (.aload_n 0, 1) := by decide +kernel
theorem dX7_init_1 : decode cX7_init 1 = .ok (.invokespecial 3, 3) := by decide +kernel
theorem dX7_init_4 : decode cX7_init 4 = .ok (.aload_n 0, 1) := by decide +kernel
theorem dX7_init_5 : decode cX7_init 5 = .ok (.new 9, 3) := by decide +kernel
theorem dX7_init_8 : decode cX7_init 8 = .ok (.dup, 1) := by decide +kernel
theorem dX7_init_9 : decode cX7_init 9 = .ok (.invokespecial 11, 3) := by decide +kernel
theorem dX7_init_12 : decode cX7_init 12 = .ok (.putfield 12, 3) := by decide +kernel
theorem dX7_init_15 : decode cX7_init 15 = .ok (.aload_n 0, 1) := by decide +kernel
theorem dX7_init_16 : decode cX7_init 16 = .ok (.iconst 0, 1) := by decide +kernel
theorem dX7_init_17 : decode cX7_init 17 = .ok (.putfield 18, 3) := by decide +kernel
theorem dX7_init_20 : decode cX7_init 20 = .ok (.aload_n 0, 1) := by decide +kernel
theorem dX7_init_21 : decode cX7_init 21 = .ok (.iconst 0, 1) := by decide +kernel
theorem dX7_init_22 : decode cX7_init 22 = .ok (.putfield 22, 3) := by decide +kernel
theorem dX7_init_25 : decode cX7_init 25 = .ok (.aload_n 0, 1) := by decide +kernel
theorem dX7_init_26 : decode cX7_init 26 = .ok (.iconst 0, 1) := by decide +kernel
theorem dX7_init_27 : decode cX7_init 27 = .ok (.putfield 25, 3) := by decide +kernel
theorem dX7_init_30 : decode cX7_init 30 = .ok (.aload_n 0, 1) := by decide +kernel
theorem dX7_init_31 : decode cX7_init 31 = .ok (.iconst 0, 1) := by decide +kernel
theorem dX7_init_32 : decode cX7_init 32 = .ok (.putfield 28, 3) := by decide +kernel
theorem dX7_init_35 : decode cX7_init 35 = .ok (.aload_n 0, 1) := by decide +kernel
theorem dX7_init_36 : decode cX7_init 36 = .ok (.sipush 401, 3) := by decide +kernel
theorem dX7_init_39 : decode cX7_init 39 = .ok (.newarray .int, 2) := by decide +kernel
theorem dX7_init_41 : decode cX7_init 41 = .ok (.putfield 31, 3) := by decide +kernel
theorem dX7_init_44 : decode cX7_init 44 = .ok (.aload_n 0, 1) := by decide +kernel
theorem dX7_init_45 : decode cX7_init 45 = .ok (.sipush 200, 3) := by decide +kernel
theorem dX7_init_48 : decode cX7_init 48 = .ok (.newarray .long, 2) := by decide +kernel
theorem dX7_init_50 : decode cX7_init 50 = .ok (.putfield 35, 3) := by decide +kernel
theorem dX7_init_53 : decode cX7_init 53 = .ok (.aload_n 0, 1) := by decide +kernel
theorem dX7_init_54 : decode cX7_init 54 = .ok (.lconst 0, 1) := by decide +kernel
theorem dX7_init_55 : decode cX7_init 55 = .ok (.putfield 39, 3) := by decide +kernel
theorem dX7_init_58 : decode cX7_init 58 = .ok (.return_, 1) := by decide +kernel
theorem dX7_find_0 : decode cX7_find 0 = .ok (.aload_n 0, 1) := by decide +kernel
theorem dX7_find_1 : decode cX7_find 1 = .ok (.getfield 12, 3) := by decide +kernel
theorem dX7_find_4 : decode cX7_find 4 = .ok (.iload_n 1, 1) := by decide +kernel
theorem dX7_find_5 : decode cX7_find 5 = .ok (.iload_n 2, 1) := by decide +kernel
theorem dX7_find_6 : decode cX7_find 6 = .ok (.iconst 0, 1) := by decide +kernel
theorem dX7_find_7 : decode cX7_find 7 = .ok (.invokevirtual 43, 3) := by decide +kernel
theorem dX7_find_10 : decode cX7_find 10 = .ok (.aload_n 0, 1) := by decide +kernel
theorem dX7_find_11 : decode cX7_find 11 = .ok (.dup, 1) := by decide +kernel
theorem dX7_find_12 : decode cX7_find 12 = .ok (.getfield 39, 3) := by decide +kernel
theorem dX7_find_15 : decode cX7_find 15 = .ok (.ldc2_w 47, 3) := by decide +kernel
theorem dX7_find_18 : decode cX7_find 18 = .ok (.ladd, 1) := by decide +kernel
theorem dX7_find_19 : decode cX7_find 19 = .ok (.putfield 39, 3) := by decide +kernel
theorem dX7_find_22 : decode cX7_find 22 = .ok (.aload_n 0, 1) := by decide +kernel
theorem dX7_find_23 : decode cX7_find 23 = .ok (.iconst 3, 1) := by decide +kernel
theorem dX7_find_24 : decode cX7_find 24 = .ok (.putfield 18, 3) := by decide +kernel
theorem dX7_find_27 : decode cX7_find 27 = .ok (.aload_n 0, 1) := by decide +kernel
theorem dX7_find_28 : decode cX7_find 28 = .ok (.iconst 0, 1) := by decide +kernel
theorem dX7_find_29 : decode cX7_find 29 = .ok (.putfield 22, 3) := by decide +kernel
theorem dX7_find_32 : decode cX7_find 32 = .ok (.iconst 0, 1) := by decide +kernel
theorem dX7_find_33 : decode cX7_find 33 = .ok (.istore_n 3, 1) := by decide +kernel
theorem dX7_find_34 : decode cX7_find 34 = .ok (.iload_n 3, 1) := by decide +kernel
theorem dX7_find_35 : decode cX7_find 35 = .ok (.sipush 400, 3) := by decide +kernel
theorem dX7_find_38 : decode cX7_find 38 = .ok (.if_icmp .gt 145, 3) := by decide +kernel
theorem dX7_find_41 : decode cX7_find 41 = .ok (.iload_n 3, 1) := by decide +kernel
theorem dX7_find_42 : decode cX7_find 42 = .ok (.ifCond .le 11, 3) := by decide +kernel
theorem dX7_find_45 : decode cX7_find 45 = .ok (.aload_n 0, 1) := by decide +kernel
theorem dX7_find_46 : decode cX7_find 46 = .ok (.getfield 12, 3) := by decide +kernel
theorem dX7_find_49 : decode cX7_find 49 = .ok (.invokevirtual 49, 3) := by decide +kernel
theorem dX7_find_52 : decode cX7_find 52 = .ok (.pop, 1) := by decide +kernel
theorem dX7_find_53 : decode cX7_find 53 = .ok (.aload_n 0, 1) := by decide +kernel
theorem dX7_find_54 : decode cX7_find 54 = .ok (.getfield 12, 3) := by decide +kernel
theorem dX7_find_57 : decode cX7_find 57 = .ok (.getfield 53, 3) := by decide +kernel
theorem dX7_find_60 : decode cX7_find 60 = .ok (.ifCond .eq 24, 3) := by decide +kernel
theorem dX7_find_63 : decode cX7_find 63 = .ok (.aload_n 0, 1) := by decide +kernel
theorem dX7_find_64 : decode cX7_find 64 = .ok (.aload_n 0, 1) := by decide +kernel
theorem dX7_find_65 : decode cX7_find 65 = .ok (.getfield 12, 3) := by decide +kernel
theorem dX7_find_68 : decode cX7_find 68 = .ok (.getfield 53, 3) := by decide +kernel
theorem dX7_find_71 : decode cX7_find 71 = .ok (.iconst 1, 1) := by decide +kernel
theorem dX7_find_72 : decode cX7_find 72 = .ok (.if_icmp .ne 7, 3) := by decide +kernel
theorem dX7_find_75 : decode cX7_find 75 = .ok (.iconst 4, 1) := by decide +kernel
theorem dX7_find_76 : decode cX7_find 76 = .ok (.goto 4, 3) := by decide +kernel
theorem dX7_find_79 : decode cX7_find 79 = .ok (.iconst 5, 1) := by decide +kernel
theorem dX7_find_80 : decode cX7_find 80 = .ok (.putfield 18, 3) := by decide +kernel
theorem dX7_find_83 : decode cX7_find 83 = .ok (.return_, 1) := by decide +kernel
theorem dX7_find_84 : decode cX7_find 84 = .ok (.iconst 2, 1) := by decide +kernel
theorem dX7_find_85 : decode cX7_find 85 = .ok (.aload_n 0, 1) := by decide +kernel
theorem dX7_find_86 : decode cX7_find 86 = .ok (.getfield 12, 3) := by decide +kernel
theorem dX7_find_89 : decode cX7_find 89 = .ok (.getfield 56, 3) := by decide +kernel
theorem dX7_find_92 : decode cX7_find 92 = .ok (.imul, 1) := by decide +kernel
theorem dX7_find_93 : decode cX7_find 93 = .ok (.aload_n 0, 1) := by decide +kernel
theorem dX7_find_94 : decode cX7_find 94 = .ok (.getfield 12, 3) := by decide +kernel
theorem dX7_find_97 : decode cX7_find 97 = .ok (.getfield 59, 3) := by decide +kernel
theorem dX7_find_100 : decode cX7_find 100 = .ok (.iadd, 1) := by decide +kernel
theorem dX7_find_101 : decode cX7_find 101 = .ok (.istore 4, 2) := by decide +kernel
theorem dX7_find_103 : decode cX7_find 103 = .ok (.iload 4, 2) := by decide +kernel
theorem dX7_find_105 : decode cX7_find 105 = .ok (.iconst 0, 1) := by decide +kernel
theorem dX7_find_106 : decode cX7_find 106 = .ok (.sipush 199, 3) := by decide +kernel
theorem dX7_find_109 : decode cX7_find 109 = .ok (.invokestatic 62, 3) := by decide +kernel
theorem dX7_find_112 : decode cX7_find 112 = .ok (.ifCond .eq 4, 3) := by decide +kernel
theorem dX7_find_115 : decode cX7_find 115 = .ok (.return_, 1) := by decide +kernel
theorem dX7_find_116 : decode cX7_find 116 = .ok (.aload_n 0, 1) := by decide +kernel
theorem dX7_find_117 : decode cX7_find 117 = .ok (.getfield 35, 3) := by decide +kernel
theorem dX7_find_120 : decode cX7_find 120 = .ok (.iload 4, 2) := by decide +kernel
theorem dX7_find_122 : decode cX7_find 122 = .ok (.laload, 1) := by decide +kernel
theorem dX7_find_123 : decode cX7_find 123 = .ok (.aload_n 0, 1) := by decide +kernel
theorem dX7_find_124 : decode cX7_find 124 = .ok (.getfield 39, 3) := by decide +kernel
theorem dX7_find_127 : decode cX7_find 127 = .ok (.lcmp, 1) := by decide +kernel
theorem dX7_find_128 : decode cX7_find 128 = .ok (.ifCond .lt 22, 3) := by decide +kernel
theorem dX7_find_131 : decode cX7_find 131 = .ok (.aload_n 0, 1) := by decide +kernel
theorem dX7_find_132 : decode cX7_find 132 = .ok (.aload_n 0, 1) := by decide +kernel
theorem dX7_find_133 : decode cX7_find 133 = .ok (.getfield 35, 3) := by decide +kernel
theorem dX7_find_136 : decode cX7_find 136 = .ok (.iload 4, 2) := by decide +kernel
theorem dX7_find_138 : decode cX7_find 138 = .ok (.laload, 1) := by decide +kernel
theorem dX7_find_139 : decode cX7_find 139 = .ok (.aload_n 0, 1) := by decide +kernel
theorem dX7_find_140 : decode cX7_find 140 = .ok (.getfield 39, 3) := by decide +kernel
theorem dX7_find_143 : decode cX7_find 143 = .ok (.lsub, 1) := by decide +kernel
theorem dX7_find_144 : decode cX7_find 144 = .ok (.l2i, 1) := by decide +kernel
theorem dX7_find_145 : decode cX7_find 145 = .ok (.iload_n 3, 1) := by decide +kernel
theorem dX7_find_146 : decode cX7_find 146 = .ok (.invokevirtual 66, 3) := by decide +kernel
theorem dX7_find_149 : decode cX7_find 149 = .ok (.return_, 1) := by decide +kernel
theorem dX7_find_150 : decode cX7_find 150 = .ok (.aload_n 0, 1) := by decide +kernel
theorem dX7_find_151 : decode cX7_find 151 = .ok (.getfield 35, 3) := by decide +kernel
theorem dX7_find_154 : decode cX7_find 154 = .ok (.iload 4, 2) := by decide +kernel
theorem dX7_find_156 : decode cX7_find 156 = .ok (.aload_n 0, 1) := by decide +kernel
theorem dX7_find_157 : decode cX7_find 157 = .ok (.getfield 39, 3) := by decide +kernel
theorem dX7_find_160 : decode cX7_find 160 = .ok (.iload_n 3, 1) := by decide +kernel
theorem dX7_find_161 : decode cX7_find 161 = .ok (.i2l, 1) := by decide +kernel
theorem dX7_find_162 : decode cX7_find 162 = .ok (.ladd, 1) := by decide +kernel
theorem dX7_find_163 : decode cX7_find 163 = .ok (.lastore, 1) := by decide +kernel
theorem dX7_find_164 : decode cX7_find 164 = .ok (.aload_n 0, 1) := by decide +kernel
theorem dX7_find_165 : decode cX7_find 165 = .ok (.getfield 31, 3) := by decide +kernel
theorem dX7_find_168 : decode cX7_find 168 = .ok (.iload_n 3, 1) := by decide +kernel
theorem dX7_find_169 : decode cX7_find 169 = .ok (.aload_n 0, 1) := by decide +kernel
theorem dX7_find_170 : decode cX7_find 170 = .ok (.getfield 12, 3) := by decide +kernel
theorem dX7_find_173 : decode cX7_find 173 = .ok (.getfield 56, 3) := by decide +kernel
theorem dX7_find_176 : decode cX7_find 176 = .ok (.iastore, 1) := by decide +kernel
theorem dX7_find_177 : decode cX7_find 177 = .ok (.iinc 3 1, 3) := by decide +kernel
theorem dX7_find_180 : decode cX7_find 180 = .ok (.goto (-146), 3) := by decide +kernel
theorem dX7_find_183 : decode cX7_find 183 = .ok (.return_, 1) := by decide +kernel
theorem dX7_closeTrip_0 : decode cX7_closeTrip 0 = .ok (.aload_n 0, 1) := by decide +kernel
theorem dX7_closeTrip_1 : decode cX7_closeTrip 1 = .ok (.iload_n 2, 1) := by decide +kernel
theorem dX7_closeTrip_2 : decode cX7_closeTrip 2 = .ok (.iload_n 1, 1) := by decide +kernel
theorem dX7_closeTrip_3 : decode cX7_closeTrip 3 = .ok (.isub, 1) := by decide +kernel
theorem dX7_closeTrip_4 : decode cX7_closeTrip 4 = .ok (.putfield 22, 3) := by decide +kernel
theorem dX7_closeTrip_7 : decode cX7_closeTrip 7 = .ok (.aload_n 0, 1) := by decide +kernel
theorem dX7_closeTrip_8 : decode cX7_closeTrip 8 = .ok (.aload_n 0, 1) := by decide +kernel
theorem dX7_closeTrip_9 : decode cX7_closeTrip 9 = .ok (.getfield 31, 3) := by decide +kernel
theorem dX7_closeTrip_12 : decode cX7_closeTrip 12 = .ok (.iload_n 1, 1) := by decide +kernel
theorem dX7_closeTrip_13 : decode cX7_closeTrip 13 = .ok (.iaload, 1) := by decide +kernel
theorem dX7_closeTrip_14 : decode cX7_closeTrip 14 = .ok (.putfield 25, 3) := by decide +kernel
theorem dX7_closeTrip_17 : decode cX7_closeTrip 17 = .ok (.aload_n 0, 1) := by decide +kernel
theorem dX7_closeTrip_18 : decode cX7_closeTrip 18 = .ok (.aload_n 0, 1) := by decide +kernel
theorem dX7_closeTrip_19 : decode cX7_closeTrip 19 = .ok (.getfield 31, 3) := by decide +kernel
theorem dX7_closeTrip_22 : decode cX7_closeTrip 22 = .ok (.iload_n 1, 1) := by decide +kernel
theorem dX7_closeTrip_23 : decode cX7_closeTrip 23 = .ok (.iaload, 1) := by decide +kernel
theorem dX7_closeTrip_24 : decode cX7_closeTrip 24 = .ok (.putfield 28, 3) := by decide +kernel
theorem dX7_closeTrip_27 : decode cX7_closeTrip 27 = .ok (.iload_n 1, 1) := by decide +kernel
theorem dX7_closeTrip_28 : decode cX7_closeTrip 28 = .ok (.iconst 1, 1) := by decide +kernel
theorem dX7_closeTrip_29 : decode cX7_closeTrip 29 = .ok (.iadd, 1) := by decide +kernel
theorem dX7_closeTrip_30 : decode cX7_closeTrip 30 = .ok (.istore_n 3, 1) := by decide +kernel
theorem dX7_closeTrip_31 : decode cX7_closeTrip 31 = .ok (.iload_n 3, 1) := by decide +kernel
theorem dX7_closeTrip_32 : decode cX7_closeTrip 32 = .ok (.iload_n 2, 1) := by decide +kernel
theorem dX7_closeTrip_33 : decode cX7_closeTrip 33 = .ok (.if_icmp .ge 43, 3) := by decide +kernel
theorem dX7_closeTrip_36 : decode cX7_closeTrip 36 = .ok (.aload_n 0, 1) := by decide +kernel
theorem dX7_closeTrip_37 : decode cX7_closeTrip 37 = .ok (.aload_n 0, 1) := by decide +kernel
theorem dX7_closeTrip_38 : decode cX7_closeTrip 38 = .ok (.getfield 25, 3) := by decide +kernel
theorem dX7_closeTrip_41 : decode cX7_closeTrip 41 = .ok (.aload_n 0, 1) := by decide +kernel
theorem dX7_closeTrip_42 : decode cX7_closeTrip 42 = .ok (.getfield 31, 3) := by decide +kernel
theorem dX7_closeTrip_45 : decode cX7_closeTrip 45 = .ok (.iload_n 3, 1) := by decide +kernel
theorem dX7_closeTrip_46 : decode cX7_closeTrip 46 = .ok (.iaload, 1) := by decide +kernel
theorem dX7_closeTrip_47 : decode cX7_closeTrip 47 = .ok (.invokestatic 70, 3) := by decide +kernel
theorem dX7_closeTrip_50 : decode cX7_closeTrip 50 = .ok (.putfield 25, 3) := by decide +kernel
theorem dX7_closeTrip_53 : decode cX7_closeTrip 53 = .ok (.aload_n 0, 1) := by decide +kernel
theorem dX7_closeTrip_54 : decode cX7_closeTrip 54 = .ok (.aload_n 0, 1) := by decide +kernel
theorem dX7_closeTrip_55 : decode cX7_closeTrip 55 = .ok (.getfield 28, 3) := by decide +kernel
theorem dX7_closeTrip_58 : decode cX7_closeTrip 58 = .ok (.aload_n 0, 1) := by decide +kernel
theorem dX7_closeTrip_59 : decode cX7_closeTrip 59 = .ok (.getfield 31, 3) := by decide +kernel
theorem dX7_closeTrip_62 : decode cX7_closeTrip 62 = .ok (.iload_n 3, 1) := by decide +kernel
theorem dX7_closeTrip_63 : decode cX7_closeTrip 63 = .ok (.iaload, 1) := by decide +kernel
theorem dX7_closeTrip_64 : decode cX7_closeTrip 64 = .ok (.invokestatic 76, 3) := by decide +kernel
theorem dX7_closeTrip_67 : decode cX7_closeTrip 67 = .ok (.putfield 28, 3) := by decide +kernel
theorem dX7_closeTrip_70 : decode cX7_closeTrip 70 = .ok (.iinc 3 1, 3) := by decide +kernel
theorem dX7_closeTrip_73 : decode cX7_closeTrip 73 = .ok (.goto (-42), 3) := by decide +kernel
theorem dX7_closeTrip_76 : decode cX7_closeTrip 76 = .ok (.aload_n 0, 1) := by decide +kernel
theorem dX7_closeTrip_77 : decode cX7_closeTrip 77 = .ok (.getfield 25, 3) := by decide +kernel
theorem dX7_closeTrip_80 : decode cX7_closeTrip 80 = .ok (.aload_n 0, 1) := by decide +kernel
theorem dX7_closeTrip_81 : decode cX7_closeTrip 81 = .ok (.getfield 28, 3) := by decide +kernel
theorem dX7_closeTrip_84 : decode cX7_closeTrip 84 = .ok (.if_icmp .ne 35, 3) := by decide +kernel
theorem dX7_closeTrip_87 : decode cX7_closeTrip 87 = .ok (.aload_n 0, 1) := by decide +kernel
theorem dX7_closeTrip_88 : decode cX7_closeTrip 88 = .ok (.aload_n 0, 1) := by decide +kernel
theorem dX7_closeTrip_89 : decode cX7_closeTrip 89 = .ok (.getfield 25, 3) := by decide +kernel
theorem dX7_closeTrip_92 : decode cX7_closeTrip 92 = .ok (.aload_n 0, 1) := by decide +kernel
theorem dX7_closeTrip_93 : decode cX7_closeTrip 93 = .ok (.getfield 12, 3) := by decide +kernel
theorem dX7_closeTrip_96 : decode cX7_closeTrip 96 = .ok (.getfield 79, 3) := by decide +kernel
theorem dX7_closeTrip_99 : decode cX7_closeTrip 99 = .ok (.invokevirtual 83, 3) := by decide +kernel
theorem dX7_closeTrip_102 : decode cX7_closeTrip 102 = .ok (.iconst 2, 1) := by decide +kernel
theorem dX7_closeTrip_103 : decode cX7_closeTrip 103 = .ok (.idiv, 1) := by decide +kernel
theorem dX7_closeTrip_104 : decode cX7_closeTrip 104 = .ok (.if_icmp .le 8, 3) := by decide +kernel
theorem dX7_closeTrip_107 : decode cX7_closeTrip 107 = .ok (.bipush 6, 2) := by decide +kernel
theorem dX7_closeTrip_109 : decode cX7_closeTrip 109 = .ok (.goto 4, 3) := by decide +kernel
theorem dX7_closeTrip_112 : decode cX7_closeTrip 112 = .ok (.iconst 1, 1) := by decide +kernel
theorem dX7_closeTrip_113 : decode cX7_closeTrip 113 = .ok (.putfield 18, 3) := by decide +kernel
theorem dX7_closeTrip_116 : decode cX7_closeTrip 116 = .ok (.goto 29, 3) := by decide +kernel
theorem dX7_closeTrip_119 : decode cX7_closeTrip 119 = .ok (.aload_n 0, 1) := by decide +kernel
theorem dX7_closeTrip_120 : decode cX7_closeTrip 120 = .ok (.getfield 22, 3) := by decide +kernel
theorem dX7_closeTrip_123 : decode cX7_closeTrip 123 = .ok (.iconst 4, 1) := by decide +kernel
theorem dX7_closeTrip_124 : decode cX7_closeTrip 124 = .ok (.if_icmp .gt 21, 3) := by decide +kernel
theorem dX7_closeTrip_127 : decode cX7_closeTrip 127 = .ok (.aload_n 0, 1) := by decide +kernel
theorem dX7_closeTrip_128 : decode cX7_closeTrip 128 = .ok (.aload_n 0, 1) := by decide +kernel
theorem dX7_closeTrip_129 : decode cX7_closeTrip 129 = .ok (.getfield 22, 3) := by decide +kernel
theorem dX7_closeTrip_132 : decode cX7_closeTrip 132 = .ok (.iconst 4, 1) := by decide +kernel
theorem dX7_closeTrip_133 : decode cX7_closeTrip 133 = .ok (.if_icmp .ne 8, 3) := by decide +kernel
theorem dX7_closeTrip_136 : decode cX7_closeTrip 136 = .ok (.bipush 7, 2) := by decide +kernel
theorem dX7_closeTrip_138 : decode cX7_closeTrip 138 = .ok (.goto 4, 3) := by decide +kernel
theorem dX7_closeTrip_141 : decode cX7_closeTrip 141 = .ok (.iconst 2, 1) := by decide +kernel
theorem dX7_closeTrip_142 : decode cX7_closeTrip 142 = .ok (.putfield 18, 3) := by decide +kernel
theorem dX7_closeTrip_145 : decode cX7_closeTrip 145 = .ok (.return_, 1) := by decide +kernel
theorem dX7_isOf_0 : decode cX7_isOf 0 = .ok (.iload_n 1, 1) := by decide +kernel
theorem dX7_isOf_1 : decode cX7_isOf 1 = .ok (.ifCond .eq 39, 3) := by decide +kernel
theorem dX7_isOf_4 : decode cX7_isOf 4 = .ok (.iload_n 1, 1) := by decide +kernel
theorem dX7_isOf_5 : decode cX7_isOf 5 = .ok (.aload_n 0, 1) := by decide +kernel
theorem dX7_isOf_6 : decode cX7_isOf 6 = .ok (.getfield 18, 3) := by decide +kernel
theorem dX7_isOf_9 : decode cX7_isOf 9 = .ok (.if_icmp .eq 31, 3) := by decide +kernel
theorem dX7_isOf_12 : decode cX7_isOf 12 = .ok (.iload_n 1, 1) := by decide +kernel
theorem dX7_isOf_13 : decode cX7_isOf 13 = .ok (.iconst 1, 1) := by decide +kernel
theorem dX7_isOf_14 : decode cX7_isOf 14 = .ok (.if_icmp .ne 12, 3) := by decide +kernel
theorem dX7_isOf_17 : decode cX7_isOf 17 = .ok (.aload_n 0, 1) := by decide +kernel
theorem dX7_isOf_18 : decode cX7_isOf 18 = .ok (.getfield 18, 3) := by decide +kernel
theorem dX7_isOf_21 : decode cX7_isOf 21 = .ok (.bipush 6, 2) := by decide +kernel
theorem dX7_isOf_23 : decode cX7_isOf 23 = .ok (.if_icmp .eq 17, 3) := by decide +kernel
theorem dX7_isOf_26 : decode cX7_isOf 26 = .ok (.iload_n 1, 1) := by decide +kernel
theorem dX7_isOf_27 : decode cX7_isOf 27 = .ok (.iconst 2, 1) := by decide +kernel
theorem dX7_isOf_28 : decode cX7_isOf 28 = .ok (.if_icmp .ne 16, 3) := by decide +kernel
theorem dX7_isOf_31 : decode cX7_isOf 31 = .ok (.aload_n 0, 1) := by decide +kernel
theorem dX7_isOf_32 : decode cX7_isOf 32 = .ok (.getfield 18, 3) := by decide +kernel
theorem dX7_isOf_35 : decode cX7_isOf 35 = .ok (.bipush 7, 2) := by decide +kernel
theorem dX7_isOf_37 : decode cX7_isOf 37 = .ok (.if_icmp .ne 7, 3) := by decide +kernel
theorem dX7_isOf_40 : decode cX7_isOf 40 = .ok (.iconst 1, 1) := by decide +kernel
theorem dX7_isOf_41 : decode cX7_isOf 41 = .ok (.goto 4, 3) := by decide +kernel
theorem dX7_isOf_44 : decode cX7_isOf 44 = .ok (.iconst 0, 1) := by decide +kernel
theorem dX7_isOf_45 : decode cX7_isOf 45 = .ok (.ireturn, 1) := by decide +kernel
theorem dX7_walksWell_0 : decode cX7_walksWell 0 = .ok (.aload_n 0, 1) := by decide +kernel
theorem dX7_walksWell_1 : decode cX7_walksWell 1 = .ok (.iload_n 1, 1) := by decide +kernel
theorem dX7_walksWell_2 : decode cX7_walksWell 2 = .ok (.iload_n 2, 1) := by decide +kernel
theorem dX7_walksWell_3 : decode cX7_walksWell 3 = .ok (.invokevirtual 89, 3) := by decide +kernel
theorem dX7_walksWell_6 : decode cX7_walksWell 6 = .ok (.aload_n 0, 1) := by decide +kernel
theorem dX7_walksWell_7 : decode cX7_walksWell 7 = .ok (.iconst 1, 1) := by decide +kernel
theorem dX7_walksWell_8 : decode cX7_walksWell 8 = .ok (.invokevirtual 92, 3) := by decide +kernel
theorem dX7_walksWell_11 : decode cX7_walksWell 11 = .ok (.ireturn, 1) := by decide +kernel
theorem dX7_tells_0 : decode cX7_tells 0 = .ok (.iload_n 1, 1) := by decide +kernel
theorem dX7_tells_1 : decode cX7_tells 1 = .ok (.tableswitch 74 1 7 #[43, 48, 74, 74, 74, 58, 43], 43) := by decide +kernel
theorem dX7_tells_44 : decode cX7_tells 44 = .ok (.aload_n 0, 1) := by decide +kernel
theorem dX7_tells_45 : decode cX7_tells 45 = .ok (.getfield 25, 3) := by decide +kernel
theorem dX7_tells_48 : decode cX7_tells 48 = .ok (.ireturn, 1) := by decide +kernel
theorem dX7_tells_49 : decode cX7_tells 49 = .ok (.aload_n 0, 1) := by decide +kernel
theorem dX7_tells_50 : decode cX7_tells 50 = .ok (.getfield 28, 3) := by decide +kernel
theorem dX7_tells_53 : decode cX7_tells 53 = .ok (.aload_n 0, 1) := by decide +kernel
theorem dX7_tells_54 : decode cX7_tells 54 = .ok (.getfield 25, 3) := by decide +kernel
theorem dX7_tells_57 : decode cX7_tells 57 = .ok (.isub, 1) := by decide +kernel
theorem dX7_tells_58 : decode cX7_tells 58 = .ok (.ireturn, 1) := by decide +kernel
theorem dX7_tells_59 : decode cX7_tells 59 = .ok (.aload_n 0, 1) := by decide +kernel
theorem dX7_tells_60 : decode cX7_tells 60 = .ok (.getfield 12, 3) := by decide +kernel
theorem dX7_tells_63 : decode cX7_tells 63 = .ok (.getfield 79, 3) := by decide +kernel
theorem dX7_tells_66 : decode cX7_tells 66 = .ok (.invokevirtual 83, 3) := by decide +kernel
theorem dX7_tells_69 : decode cX7_tells 69 = .ok (.aload_n 0, 1) := by decide +kernel
theorem dX7_tells_70 : decode cX7_tells 70 = .ok (.getfield 25, 3) := by decide +kernel
theorem dX7_tells_73 : decode cX7_tells 73 = .ok (.isub, 1) := by decide +kernel
theorem dX7_tells_74 : decode cX7_tells 74 = .ok (.ireturn, 1) := by decide +kernel
theorem dX7_tells_75 : decode cX7_tells 75 = .ok (.aload_n 0, 1) := by decide +kernel
theorem dX7_tells_76 : decode cX7_tells 76 = .ok (.getfield 12, 3) := by decide +kernel
theorem dX7_tells_79 : decode cX7_tells 79 = .ok (.getfield 96, 3) := by decide +kernel
theorem dX7_tells_82 : decode cX7_tells 82 = .ok (.ireturn, 1) := by decide +kernel
theorem dX7_unlikePaces_0 : decode cX7_unlikePaces 0 = .ok (.lconst 0, 1) := by decide +kernel
theorem dX7_unlikePaces_1 : decode cX7_unlikePaces 1 = .ok (.lstore_n 3, 1) := by decide +kernel
theorem dX7_unlikePaces_2 : decode cX7_unlikePaces 2 = .ok (.lconst 0, 1) := by decide +kernel
theorem dX7_unlikePaces_3 : decode cX7_unlikePaces 3 = .ok (.lstore 5, 2) := by decide +kernel
theorem dX7_unlikePaces_5 : decode cX7_unlikePaces 5 = .ok (.aload_n 0, 1) := by decide +kernel
theorem dX7_unlikePaces_6 : decode cX7_unlikePaces 6 = .ok (.getfield 12, 3) := by decide +kernel
theorem dX7_unlikePaces_9 : decode cX7_unlikePaces 9 = .ok (.iload_n 1, 1) := by decide +kernel
theorem dX7_unlikePaces_10 : decode cX7_unlikePaces 10 = .ok (.iload_n 2, 1) := by decide +kernel
theorem dX7_unlikePaces_11 : decode cX7_unlikePaces 11 = .ok (.iconst 0, 1) := by decide +kernel
theorem dX7_unlikePaces_12 : decode cX7_unlikePaces 12 = .ok (.invokevirtual 43, 3) := by decide +kernel
theorem dX7_unlikePaces_15 : decode cX7_unlikePaces 15 = .ok (.iconst 0, 1) := by decide +kernel
theorem dX7_unlikePaces_16 : decode cX7_unlikePaces 16 = .ok (.istore 7, 2) := by decide +kernel
theorem dX7_unlikePaces_18 : decode cX7_unlikePaces 18 = .ok (.iload 7, 2) := by decide +kernel
theorem dX7_unlikePaces_20 : decode cX7_unlikePaces 20 = .ok (.sipush 400, 3) := by decide +kernel
theorem dX7_unlikePaces_23 : decode cX7_unlikePaces 23 = .ok (.if_icmp .ge 63, 3) := by decide +kernel
theorem dX7_unlikePaces_26 : decode cX7_unlikePaces 26 = .ok (.aload_n 0, 1) := by decide +kernel
theorem dX7_unlikePaces_27 : decode cX7_unlikePaces 27 = .ok (.getfield 12, 3) := by decide +kernel
theorem dX7_unlikePaces_30 : decode cX7_unlikePaces 30 = .ok (.invokevirtual 49, 3) := by decide +kernel
theorem dX7_unlikePaces_33 : decode cX7_unlikePaces 33 = .ok (.ifCond .eq 53, 3) := by decide +kernel
theorem dX7_unlikePaces_36 : decode cX7_unlikePaces 36 = .ok (.aload_n 0, 1) := by decide +kernel
theorem dX7_unlikePaces_37 : decode cX7_unlikePaces 37 = .ok (.getfield 12, 3) := by decide +kernel
theorem dX7_unlikePaces_40 : decode cX7_unlikePaces 40 = .ok (.getfield 56, 3) := by decide +kernel
theorem dX7_unlikePaces_43 : decode cX7_unlikePaces 43 = .ok (.bipush 64, 2) := by decide +kernel
theorem dX7_unlikePaces_45 : decode cX7_unlikePaces 45 = .ok (.if_icmp .ge 18, 3) := by decide +kernel
theorem dX7_unlikePaces_48 : decode cX7_unlikePaces 48 = .ok (.lload_n 3, 1) := by decide +kernel
theorem dX7_unlikePaces_49 : decode cX7_unlikePaces 49 = .ok (.lconst 1, 1) := by decide +kernel
theorem dX7_unlikePaces_50 : decode cX7_unlikePaces 50 = .ok (.aload_n 0, 1) := by decide +kernel
theorem dX7_unlikePaces_51 : decode cX7_unlikePaces 51 = .ok (.getfield 12, 3) := by decide +kernel
theorem dX7_unlikePaces_54 : decode cX7_unlikePaces 54 = .ok (.getfield 56, 3) := by decide +kernel
theorem dX7_unlikePaces_57 : decode cX7_unlikePaces 57 = .ok (.lshl, 1) := by decide +kernel
theorem dX7_unlikePaces_58 : decode cX7_unlikePaces 58 = .ok (.lor, 1) := by decide +kernel
theorem dX7_unlikePaces_59 : decode cX7_unlikePaces 59 = .ok (.lstore_n 3, 1) := by decide +kernel
theorem dX7_unlikePaces_60 : decode cX7_unlikePaces 60 = .ok (.goto 20, 3) := by decide +kernel
theorem dX7_unlikePaces_63 : decode cX7_unlikePaces 63 = .ok (.lload 5, 2) := by decide +kernel
theorem dX7_unlikePaces_65 : decode cX7_unlikePaces 65 = .ok (.lconst 1, 1) := by decide +kernel
theorem dX7_unlikePaces_66 : decode cX7_unlikePaces 66 = .ok (.aload_n 0, 1) := by decide +kernel
theorem dX7_unlikePaces_67 : decode cX7_unlikePaces 67 = .ok (.getfield 12, 3) := by decide +kernel
theorem dX7_unlikePaces_70 : decode cX7_unlikePaces 70 = .ok (.getfield 56, 3) := by decide +kernel
theorem dX7_unlikePaces_73 : decode cX7_unlikePaces 73 = .ok (.bipush 64, 2) := by decide +kernel
theorem dX7_unlikePaces_75 : decode cX7_unlikePaces 75 = .ok (.isub, 1) := by decide +kernel
theorem dX7_unlikePaces_76 : decode cX7_unlikePaces 76 = .ok (.lshl, 1) := by decide +kernel
theorem dX7_unlikePaces_77 : decode cX7_unlikePaces 77 = .ok (.lor, 1) := by decide +kernel
theorem dX7_unlikePaces_78 : decode cX7_unlikePaces 78 = .ok (.lstore 5, 2) := by decide +kernel
theorem dX7_unlikePaces_80 : decode cX7_unlikePaces 80 = .ok (.iinc 7 1, 3) := by decide +kernel
theorem dX7_unlikePaces_83 : decode cX7_unlikePaces 83 = .ok (.goto (-65), 3) := by decide +kernel
theorem dX7_unlikePaces_86 : decode cX7_unlikePaces 86 = .ok (.lload_n 3, 1) := by decide +kernel
theorem dX7_unlikePaces_87 : decode cX7_unlikePaces 87 = .ok (.invokestatic 99, 3) := by decide +kernel
theorem dX7_unlikePaces_90 : decode cX7_unlikePaces 90 = .ok (.lload 5, 2) := by decide +kernel
theorem dX7_unlikePaces_92 : decode cX7_unlikePaces 92 = .ok (.invokestatic 99, 3) := by decide +kernel
theorem dX7_unlikePaces_95 : decode cX7_unlikePaces 95 = .ok (.iadd, 1) := by decide +kernel
theorem dX7_unlikePaces_96 : decode cX7_unlikePaces 96 = .ok (.ireturn, 1) := by decide +kernel
theorem dX7_span_0 : decode cX7_span 0 = .ok (.iconst 0, 1) := by decide +kernel
theorem dX7_span_1 : decode cX7_span 1 = .ok (.istore_n 2, 1) := by decide +kernel
theorem dX7_span_2 : decode cX7_span 2 = .ok (.iconst 0, 1) := by decide +kernel
theorem dX7_span_3 : decode cX7_span 3 = .ok (.istore_n 3, 1) := by decide +kernel
theorem dX7_span_4 : decode cX7_span 4 = .ok (.iload_n 3, 1) := by decide +kernel
theorem dX7_span_5 : decode cX7_span 5 = .ok (.bipush 100, 2) := by decide +kernel
theorem dX7_span_7 : decode cX7_span 7 = .ok (.if_icmp .ge 26, 3) := by decide +kernel
theorem dX7_span_10 : decode cX7_span 10 = .ok (.iload_n 2, 1) := by decide +kernel
theorem dX7_span_11 : decode cX7_span 11 = .ok (.aload_n 0, 1) := by decide +kernel
theorem dX7_span_12 : decode cX7_span 12 = .ok (.iload_n 3, 1) := by decide +kernel
theorem dX7_span_13 : decode cX7_span 13 = .ok (.iload_n 1, 1) := by decide +kernel
theorem dX7_span_14 : decode cX7_span 14 = .ok (.invokevirtual 105, 3) := by decide +kernel
theorem dX7_span_17 : decode cX7_span 17 = .ok (.ifCond .eq 7, 3) := by decide +kernel
theorem dX7_span_20 : decode cX7_span 20 = .ok (.iconst 1, 1) := by decide +kernel
theorem dX7_span_21 : decode cX7_span 21 = .ok (.goto 4, 3) := by decide +kernel
theorem dX7_span_24 : decode cX7_span 24 = .ok (.iconst 0, 1) := by decide +kernel
theorem dX7_span_25 : decode cX7_span 25 = .ok (.iadd, 1) := by decide +kernel
theorem dX7_span_26 : decode cX7_span 26 = .ok (.istore_n 2, 1) := by decide +kernel
theorem dX7_span_27 : decode cX7_span 27 = .ok (.iinc 3 1, 3) := by decide +kernel
theorem dX7_span_30 : decode cX7_span 30 = .ok (.goto (-26), 3) := by decide +kernel
theorem dX7_span_33 : decode cX7_span 33 = .ok (.iload_n 2, 1) := by decide +kernel
theorem dX7_span_34 : decode cX7_span 34 = .ok (.ireturn, 1) := by decide +kernel
theorem dX8_init_0 : decode cX8_init 0 = .ok (.aload_n 0, 1) := by decide +kernel
theorem dX8_init_1 : decode cX8_init 1 = .ok (.invokespecial 1, 3) := by decide +kernel
theorem dX8_init_4 : decode cX8_init 4 = .ok (.aload_n 0, 1) := by decide +kernel
theorem dX8_init_5 : decode cX8_init 5 = .ok (.bipush 6, 2) := by decide +kernel
theorem dX8_init_7 : decode cX8_init 7 = .ok (.anewarray 9, 3) := by decide +kernel
theorem dX8_init_10 : decode cX8_init 10 = .ok (.putfield 11, 3) := by decide +kernel
theorem dX8_init_13 : decode cX8_init 13 = .ok (.aload_n 0, 1) := by decide +kernel
theorem dX8_init_14 : decode cX8_init 14 = .ok (.iconst 4, 1) := by decide +kernel
theorem dX8_init_15 : decode cX8_init 15 = .ok (.anewarray 15, 3) := by decide +kernel
theorem dX8_init_18 : decode cX8_init 18 = .ok (.putfield 17, 3) := by decide +kernel
theorem dX8_init_21 : decode cX8_init 21 = .ok (.aload_n 0, 1) := by decide +kernel
theorem dX8_init_22 : decode cX8_init 22 = .ok (.iconst 4, 1) := by decide +kernel
theorem dX8_init_23 : decode cX8_init 23 = .ok (.anewarray 21, 3) := by decide +kernel
theorem dX8_init_26 : decode cX8_init 26 = .ok (.putfield 23, 3) := by decide +kernel
theorem dX8_init_29 : decode cX8_init 29 = .ok (.aload_n 0, 1) := by decide +kernel
theorem dX8_init_30 : decode cX8_init 30 = .ok (.iconst 4, 1) := by decide +kernel
theorem dX8_init_31 : decode cX8_init 31 = .ok (.anewarray 27, 3) := by decide +kernel
theorem dX8_init_34 : decode cX8_init 34 = .ok (.putfield 29, 3) := by decide +kernel
theorem dX8_init_37 : decode cX8_init 37 = .ok (.aload_n 0, 1) := by decide +kernel
theorem dX8_init_38 : decode cX8_init 38 = .ok (.new 33, 3) := by decide +kernel
theorem dX8_init_41 : decode cX8_init 41 = .ok (.dup, 1) := by decide +kernel
theorem dX8_init_42 : decode cX8_init 42 = .ok (.invokespecial 35, 3) := by decide +kernel
theorem dX8_init_45 : decode cX8_init 45 = .ok (.putfield 36, 3) := by decide +kernel
theorem dX8_init_48 : decode cX8_init 48 = .ok (.aload_n 0, 1) := by decide +kernel
theorem dX8_init_49 : decode cX8_init 49 = .ok (.iconst 3, 1) := by decide +kernel
theorem dX8_init_50 : decode cX8_init 50 = .ok (.anewarray 33, 3) := by decide +kernel
theorem dX8_init_53 : decode cX8_init 53 = .ok (.putfield 40, 3) := by decide +kernel
theorem dX8_init_56 : decode cX8_init 56 = .ok (.aload_n 0, 1) := by decide +kernel
theorem dX8_init_57 : decode cX8_init 57 = .ok (.new 44, 3) := by decide +kernel
theorem dX8_init_60 : decode cX8_init 60 = .ok (.dup, 1) := by decide +kernel
theorem dX8_init_61 : decode cX8_init 61 = .ok (.invokespecial 46, 3) := by decide +kernel
theorem dX8_init_64 : decode cX8_init 64 = .ok (.putfield 47, 3) := by decide +kernel
theorem dX8_init_67 : decode cX8_init 67 = .ok (.aload_n 0, 1) := by decide +kernel
theorem dX8_init_68 : decode cX8_init 68 = .ok (.new 51, 3) := by decide +kernel
theorem dX8_init_71 : decode cX8_init 71 = .ok (.dup, 1) := by decide +kernel
theorem dX8_init_72 : decode cX8_init 72 = .ok (.invokespecial 53, 3) := by decide +kernel
theorem dX8_init_75 : decode cX8_init 75 = .ok (.putfield 54, 3) := by decide +kernel
theorem dX8_init_78 : decode cX8_init 78 = .ok (.aload_n 0, 1) := by decide +kernel
theorem dX8_init_79 : decode cX8_init 79 = .ok (.new 33, 3) := by decide +kernel
theorem dX8_init_82 : decode cX8_init 82 = .ok (.dup, 1) := by decide +kernel
theorem dX8_init_83 : decode cX8_init 83 = .ok (.invokespecial 35, 3) := by decide +kernel
theorem dX8_init_86 : decode cX8_init 86 = .ok (.putfield 58, 3) := by decide +kernel
theorem dX8_init_89 : decode cX8_init 89 = .ok (.aload_n 0, 1) := by decide +kernel
theorem dX8_init_90 : decode cX8_init 90 = .ok (.new 61, 3) := by decide +kernel
theorem dX8_init_93 : decode cX8_init 93 = .ok (.dup, 1) := by decide +kernel
theorem dX8_init_94 : decode cX8_init 94 = .ok (.invokespecial 63, 3) := by decide +kernel
theorem dX8_init_97 : decode cX8_init 97 = .ok (.putfield 64, 3) := by decide +kernel
theorem dX8_init_100 : decode cX8_init 100 = .ok (.aload_n 0, 1) := by decide +kernel
theorem dX8_init_101 : decode cX8_init 101 = .ok (.bipush 6, 2) := by decide +kernel
theorem dX8_init_103 : decode cX8_init 103 = .ok (.newarray .int, 2) := by decide +kernel
theorem dX8_init_105 : decode cX8_init 105 = .ok (.putfield 68, 3) := by decide +kernel
theorem dX8_init_108 : decode cX8_init 108 = .ok (.aload_n 0, 1) := by decide +kernel
theorem dX8_init_109 : decode cX8_init 109 = .ok (.iconst 0, 1) := by decide +kernel
theorem dX8_init_110 : decode cX8_init 110 = .ok (.putfield 72, 3) := by decide +kernel
theorem dX8_init_113 : decode cX8_init 113 = .ok (.aload_n 0, 1) := by decide +kernel
theorem dX8_init_114 : decode cX8_init 114 = .ok (.iconst 0, 1) := by decide +kernel
theorem dX8_init_115 : decode cX8_init 115 = .ok (.putfield 76, 3) := by decide +kernel
theorem dX8_init_118 : decode cX8_init 118 = .ok (.aload_n 0, 1) := by decide +kernel
theorem dX8_init_119 : decode cX8_init 119 = .ok (.lconst 0, 1) := by decide +kernel
theorem dX8_init_120 : decode cX8_init 120 = .ok (.putfield 79, 3) := by decide +kernel
theorem dX8_init_123 : decode cX8_init 123 = .ok (.aload_n 0, 1) := by decide +kernel
theorem dX8_init_124 : decode cX8_init 124 = .ok (.lconst 1, 1) := by decide +kernel
theorem dX8_init_125 : decode cX8_init 125 = .ok (.putfield 83, 3) := by decide +kernel
theorem dX8_init_128 : decode cX8_init 128 = .ok (.iconst 0, 1) := by decide +kernel
theorem dX8_init_129 : decode cX8_init 129 = .ok (.istore_n 1, 1) := by decide +kernel
theorem dX8_init_130 : decode cX8_init 130 = .ok (.iload_n 1, 1) := by decide +kernel
theorem dX8_init_131 : decode cX8_init 131 = .ok (.bipush 6, 2) := by decide +kernel
theorem dX8_init_133 : decode cX8_init 133 = .ok (.if_icmp .ge 22, 3) := by decide +kernel
theorem dX8_init_136 : decode cX8_init 136 = .ok (.aload_n 0, 1) := by decide +kernel
theorem dX8_init_137 : decode cX8_init 137 = .ok (.getfield 11, 3) := by decide +kernel
theorem dX8_init_140 : decode cX8_init 140 = .ok (.iload_n 1, 1) := by decide +kernel
theorem dX8_init_141 : decode cX8_init 141 = .ok (.new 9, 3) := by decide +kernel
theorem dX8_init_144 : decode cX8_init 144 = .ok (.dup, 1) := by decide +kernel
theorem dX8_init_145 : decode cX8_init 145 = .ok (.invokespecial 86, 3) := by decide +kernel
theorem dX8_init_148 : decode cX8_init 148 = .ok (.aastore, 1) := by decide +kernel
theorem dX8_init_149 : decode cX8_init 149 = .ok (.iinc 1 1, 3) := by decide +kernel
theorem dX8_init_152 : decode cX8_init 152 = .ok (.goto (-22), 3) := by decide +kernel
theorem dX8_init_155 : decode cX8_init 155 = .ok (.iconst 0, 1) := by decide +kernel
theorem dX8_init_156 : decode cX8_init 156 = .ok (.istore_n 1, 1) := by decide +kernel
theorem dX8_init_157 : decode cX8_init 157 = .ok (.iload_n 1, 1) := by decide +kernel
theorem dX8_init_158 : decode cX8_init 158 = .ok (.iconst 4, 1) := by decide +kernel
theorem dX8_init_159 : decode cX8_init 159 = .ok (.if_icmp .ge 22, 3) := by decide +kernel
theorem dX8_init_162 : decode cX8_init 162 = .ok (.aload_n 0, 1) := by decide +kernel
theorem dX8_init_163 : decode cX8_init 163 = .ok (.getfield 17, 3) := by decide +kernel
theorem dX8_init_166 : decode cX8_init 166 = .ok (.iload_n 1, 1) := by decide +kernel
theorem dX8_init_167 : decode cX8_init 167 = .ok (.new 15, 3) := by decide +kernel
theorem dX8_init_170 : decode cX8_init 170 = .ok (.dup, 1) := by decide +kernel
theorem dX8_init_171 : decode cX8_init 171 = .ok (.invokespecial 87, 3) := by decide +kernel
theorem dX8_init_174 : decode cX8_init 174 = .ok (.aastore, 1) := by decide +kernel
theorem dX8_init_175 : decode cX8_init 175 = .ok (.iinc 1 1, 3) := by decide +kernel
theorem dX8_init_178 : decode cX8_init 178 = .ok (.goto (-21), 3) := by decide +kernel
theorem dX8_init_181 : decode cX8_init 181 = .ok (.iconst 0, 1) := by decide +kernel
theorem dX8_init_182 : decode cX8_init 182 = .ok (.istore_n 1, 1) := by decide +kernel
theorem dX8_init_183 : decode cX8_init 183 = .ok (.iload_n 1, 1) := by decide +kernel
theorem dX8_init_184 : decode cX8_init 184 = .ok (.iconst 4, 1) := by decide +kernel
theorem dX8_init_185 : decode cX8_init 185 = .ok (.if_icmp .ge 22, 3) := by decide +kernel
theorem dX8_init_188 : decode cX8_init 188 = .ok (.aload_n 0, 1) := by decide +kernel
theorem dX8_init_189 : decode cX8_init 189 = .ok (.getfield 23, 3) := by decide +kernel
theorem dX8_init_192 : decode cX8_init 192 = .ok (.iload_n 1, 1) := by decide +kernel
theorem dX8_init_193 : decode cX8_init 193 = .ok (.new 21, 3) := by decide +kernel
theorem dX8_init_196 : decode cX8_init 196 = .ok (.dup, 1) := by decide +kernel
theorem dX8_init_197 : decode cX8_init 197 = .ok (.invokespecial 88, 3) := by decide +kernel
theorem dX8_init_200 : decode cX8_init 200 = .ok (.aastore, 1) := by decide +kernel
theorem dX8_init_201 : decode cX8_init 201 = .ok (.iinc 1 1, 3) := by decide +kernel
theorem dX8_init_204 : decode cX8_init 204 = .ok (.goto (-21), 3) := by decide +kernel
theorem dX8_init_207 : decode cX8_init 207 = .ok (.iconst 0, 1) := by decide +kernel
theorem dX8_init_208 : decode cX8_init 208 = .ok (.istore_n 1, 1) := by decide +kernel
theorem dX8_init_209 : decode cX8_init 209 = .ok (.iload_n 1, 1) := by decide +kernel
theorem dX8_init_210 : decode cX8_init 210 = .ok (.iconst 4, 1) := by decide +kernel
theorem dX8_init_211 : decode cX8_init 211 = .ok (.if_icmp .ge 22, 3) := by decide +kernel
theorem dX8_init_214 : decode cX8_init 214 = .ok (.aload_n 0, 1) := by decide +kernel
theorem dX8_init_215 : decode cX8_init 215 = .ok (.getfield 29, 3) := by decide +kernel
theorem dX8_init_218 : decode cX8_init 218 = .ok (.iload_n 1, 1) := by decide +kernel
theorem dX8_init_219 : decode cX8_init 219 = .ok (.new 27, 3) := by decide +kernel
theorem dX8_init_222 : decode cX8_init 222 = .ok (.dup, 1) := by decide +kernel
theorem dX8_init_223 : decode cX8_init 223 = .ok (.invokespecial 89, 3) := by decide +kernel
theorem dX8_init_226 : decode cX8_init 226 = .ok (.aastore, 1) := by decide +kernel
theorem dX8_init_227 : decode cX8_init 227 = .ok (.iinc 1 1, 3) := by decide +kernel
theorem dX8_init_230 : decode cX8_init 230 = .ok (.goto (-21), 3) := by decide +kernel
theorem dX8_init_233 : decode cX8_init 233 = .ok (.iconst 0, 1) := by decide +kernel
theorem dX8_init_234 : decode cX8_init 234 = .ok (.istore_n 1, 1) := by decide +kernel
theorem dX8_init_235 : decode cX8_init 235 = .ok (.iload_n 1, 1) := by decide +kernel
theorem dX8_init_236 : decode cX8_init 236 = .ok (.iconst 3, 1) := by decide +kernel
theorem dX8_init_237 : decode cX8_init 237 = .ok (.if_icmp .ge 22, 3) := by decide +kernel
theorem dX8_init_240 : decode cX8_init 240 = .ok (.aload_n 0, 1) := by decide +kernel
theorem dX8_init_241 : decode cX8_init 241 = .ok (.getfield 40, 3) := by decide +kernel
theorem dX8_init_244 : decode cX8_init 244 = .ok (.iload_n 1, 1) := by decide +kernel
theorem dX8_init_245 : decode cX8_init 245 = .ok (.new 33, 3) := by decide +kernel
theorem dX8_init_248 : decode cX8_init 248 = .ok (.dup, 1) := by decide +kernel
theorem dX8_init_249 : decode cX8_init 249 = .ok (.invokespecial 35, 3) := by decide +kernel
theorem dX8_init_252 : decode cX8_init 252 = .ok (.aastore, 1) := by decide +kernel
theorem dX8_init_253 : decode cX8_init 253 = .ok (.iinc 1 1, 3) := by decide +kernel
theorem dX8_init_256 : decode cX8_init 256 = .ok (.goto (-21), 3) := by decide +kernel
theorem dX8_init_259 : decode cX8_init 259 = .ok (.return_, 1) := by decide +kernel
theorem dX8_isOutside_0 : decode cX8_isOutside 0 = .ok (.iload_n 0, 1) := by decide +kernel
theorem dX8_isOutside_1 : decode cX8_isOutside 1 = .ok (.iload_n 1, 1) := by decide +kernel
theorem dX8_isOutside_2 : decode cX8_isOutside 2 = .ok (.if_icmp .lt 8, 3) := by decide +kernel
theorem dX8_isOutside_5 : decode cX8_isOutside 5 = .ok (.iload_n 0, 1) := by decide +kernel
theorem dX8_isOutside_6 : decode cX8_isOutside 6 = .ok (.iload_n 2, 1) := by decide +kernel
theorem dX8_isOutside_7 : decode cX8_isOutside 7 = .ok (.if_icmp .le 7, 3) := by decide +kernel
theorem dX8_isOutside_10 : decode cX8_isOutside 10 = .ok (.iconst 1, 1) := by decide +kernel
theorem dX8_isOutside_11 : decode cX8_isOutside 11 = .ok (.goto 4, 3) := by decide +kernel
theorem dX8_isOutside_14 : decode cX8_isOutside 14 = .ok (.iconst 0, 1) := by decide +kernel
theorem dX8_isOutside_15 : decode cX8_isOutside 15 = .ok (.ireturn, 1) := by decide +kernel
theorem dX8_noRow_0 : decode cX8_noRow 0 = .ok (.iload_n 0, 1) := by decide +kernel
theorem dX8_noRow_1 : decode cX8_noRow 1 = .ok (.iconst 0, 1) := by decide +kernel
theorem dX8_noRow_2 : decode cX8_noRow 2 = .ok (.iconst 5, 1) := by decide +kernel
theorem dX8_noRow_3 : decode cX8_noRow 3 = .ok (.invokestatic 90, 3) := by decide +kernel
theorem dX8_noRow_6 : decode cX8_noRow 6 = .ok (.ireturn, 1) := by decide +kernel
theorem dX8_noText_0 : decode cX8_noText 0 = .ok (.iload_n 0, 1) := by decide +kernel
theorem dX8_noText_1 : decode cX8_noText 1 = .ok (.iconst 0, 1) := by decide +kernel
theorem dX8_noText_2 : decode cX8_noText 2 = .ok (.iconst 3, 1) := by decide +kernel
theorem dX8_noText_3 : decode cX8_noText 3 = .ok (.invokestatic 90, 3) := by decide +kernel
theorem dX8_noText_6 : decode cX8_noText 6 = .ok (.ireturn, 1) := by decide +kernel
theorem dX8_noWalker_0 : decode cX8_noWalker 0 = .ok (.iload_n 0, 1) := by decide +kernel
theorem dX8_noWalker_1 : decode cX8_noWalker 1 = .ok (.iconst 0, 1) := by decide +kernel
theorem dX8_noWalker_2 : decode cX8_noWalker 2 = .ok (.iconst 3, 1) := by decide +kernel
theorem dX8_noWalker_3 : decode cX8_noWalker 3 = .ok (.invokestatic 90, 3) := by decide +kernel
theorem dX8_noWalker_6 : decode cX8_noWalker 6 = .ok (.ireturn, 1) := by decide +kernel
theorem dX8_noBoard_0 : decode cX8_noBoard 0 = .ok (.iload_n 0, 1) := by decide +kernel
theorem dX8_noBoard_1 : decode cX8_noBoard 1 = .ok (.iconst 0, 1) := by decide +kernel
theorem dX8_noBoard_2 : decode cX8_noBoard 2 = .ok (.iconst 3, 1) := by decide +kernel
theorem dX8_noBoard_3 : decode cX8_noBoard 3 = .ok (.invokestatic 90, 3) := by decide +kernel
theorem dX8_noBoard_6 : decode cX8_noBoard 6 = .ok (.ireturn, 1) := by decide +kernel
theorem dX8_noSlope_0 : decode cX8_noSlope 0 = .ok (.iload_n 0, 1) := by decide +kernel
theorem dX8_noSlope_1 : decode cX8_noSlope 1 = .ok (.iconst 0, 1) := by decide +kernel
theorem dX8_noSlope_2 : decode cX8_noSlope 2 = .ok (.bipush 99, 2) := by decide +kernel
theorem dX8_noSlope_4 : decode cX8_noSlope 4 = .ok (.invokestatic 90, 3) := by decide +kernel
theorem dX8_noSlope_7 : decode cX8_noSlope 7 = .ok (.ireturn, 1) := by decide +kernel
theorem dX8_noPace_0 : decode cX8_noPace 0 = .ok (.iload_n 0, 1) := by decide +kernel
theorem dX8_noPace_1 : decode cX8_noPace 1 = .ok (.iconst 0, 1) := by decide +kernel
theorem dX8_noPace_2 : decode cX8_noPace 2 = .ok (.bipush 99, 2) := by decide +kernel
theorem dX8_noPace_4 : decode cX8_noPace 4 = .ok (.invokestatic 90, 3) := by decide +kernel
theorem dX8_noPace_7 : decode cX8_noPace 7 = .ok (.ireturn, 1) := by decide +kernel
theorem dX8_noPair_0 : decode cX8_noPair 0 = .ok (.iload_n 0, 1) := by decide +kernel
theorem dX8_noPair_1 : decode cX8_noPair 1 = .ok (.invokestatic 94, 3) := by decide +kernel
theorem dX8_noPair_4 : decode cX8_noPair 4 = .ok (.ifCond .ne 17, 3) := by decide +kernel
theorem dX8_noPair_7 : decode cX8_noPair 7 = .ok (.iload_n 1, 1) := by decide +kernel
theorem dX8_noPair_8 : decode cX8_noPair 8 = .ok (.invokestatic 98, 3) := by decide +kernel
theorem dX8_noPair_11 : decode cX8_noPair 11 = .ok (.ifCond .ne 10, 3) := by decide +kernel
theorem dX8_noPair_14 : decode cX8_noPair 14 = .ok (.iload_n 2, 1) := by decide +kernel
theorem dX8_noPair_15 : decode cX8_noPair 15 = .ok (.invokestatic 101, 3) := by decide +kernel
theorem dX8_noPair_18 : decode cX8_noPair 18 = .ok (.ifCond .eq 7, 3) := by decide +kernel
theorem dX8_noPair_21 : decode cX8_noPair 21 = .ok (.iconst 1, 1) := by decide +kernel
theorem dX8_noPair_22 : decode cX8_noPair 22 = .ok (.goto 4, 3) := by decide +kernel
theorem dX8_noPair_25 : decode cX8_noPair 25 = .ok (.iconst 0, 1) := by decide +kernel
theorem dX8_noPair_26 : decode cX8_noPair 26 = .ok (.ireturn, 1) := by decide +kernel
theorem dX8_noGoing_0 : decode cX8_noGoing 0 = .ok (.iload_n 0, 1) := by decide +kernel
theorem dX8_noGoing_1 : decode cX8_noGoing 1 = .ok (.iload_n 1, 1) := by decide +kernel
theorem dX8_noGoing_2 : decode cX8_noGoing 2 = .ok (.iload_n 3, 1) := by decide +kernel
theorem dX8_noGoing_3 : decode cX8_noGoing 3 = .ok (.invokestatic 104, 3) := by decide +kernel
theorem dX8_noGoing_6 : decode cX8_noGoing 6 = .ok (.ifCond .ne 10, 3) := by decide +kernel
theorem dX8_noGoing_9 : decode cX8_noGoing 9 = .ok (.iload_n 2, 1) := by decide +kernel
theorem dX8_noGoing_10 : decode cX8_noGoing 10 = .ok (.invokestatic 107, 3) := by decide +kernel
theorem dX8_noGoing_13 : decode cX8_noGoing 13 = .ok (.ifCond .eq 7, 3) := by decide +kernel
theorem dX8_noGoing_16 : decode cX8_noGoing 16 = .ok (.iconst 1, 1) := by decide +kernel
theorem dX8_noGoing_17 : decode cX8_noGoing 17 = .ok (.goto 4, 3) := by decide +kernel
theorem dX8_noGoing_20 : decode cX8_noGoing 20 = .ok (.iconst 0, 1) := by decide +kernel
theorem dX8_noGoing_21 : decode cX8_noGoing 21 = .ok (.ireturn, 1) := by decide +kernel
theorem dX8_found_0 : decode cX8_found 0 = .ok (.aload_n 0, 1) := by decide +kernel
theorem dX8_found_1 : decode cX8_found 1 = .ok (.iload_n 1, 1) := by decide +kernel
theorem dX8_found_2 : decode cX8_found 2 = .ok (.putfield 72, 3) := by decide +kernel
theorem dX8_found_5 : decode cX8_found 5 = .ok (.aload_n 0, 1) := by decide +kernel
theorem dX8_found_6 : decode cX8_found 6 = .ok (.getfield 68, 3) := by decide +kernel
theorem dX8_found_9 : decode cX8_found 9 = .ok (.iload_n 1, 1) := by decide +kernel
theorem dX8_found_10 : decode cX8_found 10 = .ok (.dup2, 1) := by decide +kernel
theorem dX8_found_11 : decode cX8_found 11 = .ok (.iaload, 1) := by decide +kernel
theorem dX8_found_12 : decode cX8_found 12 = .ok (.iconst 1, 1) := by decide +kernel
theorem dX8_found_13 : decode cX8_found 13 = .ok (.iadd, 1) := by decide +kernel
theorem dX8_found_14 : decode cX8_found 14 = .ok (.iastore, 1) := by decide +kernel
theorem dX8_found_15 : decode cX8_found 15 = .ok (.bipush (-3), 2) := by decide +kernel
theorem dX8_found_17 : decode cX8_found 17 = .ok (.ireturn, 1) := by decide +kernel
theorem dX8_tell_0 : decode cX8_tell 0 = .ok (.aload_n 0, 1) := by decide +kernel
theorem dX8_tell_1 : decode cX8_tell 1 = .ok (.iload_n 1, 1) := by decide +kernel
theorem dX8_tell_2 : decode cX8_tell 2 = .ok (.putfield 76, 3) := by decide +kernel
theorem dX8_tell_5 : decode cX8_tell 5 = .ok (.iconst 1, 1) := by decide +kernel
theorem dX8_tell_6 : decode cX8_tell 6 = .ok (.ireturn, 1) := by decide +kernel
theorem dX8_isReady_0 : decode cX8_isReady 0 = .ok (.aload_n 0, 1) := by decide +kernel
theorem dX8_isReady_1 : decode cX8_isReady 1 = .ok (.getfield 23, 3) := by decide +kernel
theorem dX8_isReady_4 : decode cX8_isReady 4 = .ok (.iload_n 1, 1) := by decide +kernel
theorem dX8_isReady_5 : decode cX8_isReady 5 = .ok (.aaload, 1) := by decide +kernel
theorem dX8_isReady_6 : decode cX8_isReady 6 = .ok (.getfield 110, 3) := by decide +kernel
theorem dX8_isReady_9 : decode cX8_isReady 9 = .ok (.ifCond .eq 15, 3) := by decide +kernel
theorem dX8_isReady_12 : decode cX8_isReady 12 = .ok (.aload_n 0, 1) := by decide +kernel
theorem dX8_isReady_13 : decode cX8_isReady 13 = .ok (.getfield 29, 3) := by decide +kernel
theorem dX8_isReady_16 : decode cX8_isReady 16 = .ok (.iload_n 2, 1) := by decide +kernel
theorem dX8_isReady_17 : decode cX8_isReady 17 = .ok (.aaload, 1) := by decide +kernel
theorem dX8_isReady_18 : decode cX8_isReady 18 = .ok (.getfield 114, 3) := by decide +kernel
theorem dX8_isReady_21 : decode cX8_isReady 21 = .ok (.ifCond .ne 5, 3) := by decide +kernel
theorem dX8_isReady_24 : decode cX8_isReady 24 = .ok (.iconst 0, 1) := by decide +kernel
theorem dX8_isReady_25 : decode cX8_isReady 25 = .ok (.ireturn, 1) := by decide +kernel
theorem dX8_isReady_26 : decode cX8_isReady 26 = .ok (.aload_n 0, 1) := by decide +kernel
theorem dX8_isReady_27 : decode cX8_isReady 27 = .ok (.getfield 54, 3) := by decide +kernel
theorem dX8_isReady_30 : decode cX8_isReady 30 = .ok (.getfield 115, 3) := by decide +kernel
theorem dX8_isReady_33 : decode cX8_isReady 33 = .ok (.getfield 116, 3) := by decide +kernel
theorem dX8_isReady_36 : decode cX8_isReady 36 = .ok (.aload_n 0, 1) := by decide +kernel
theorem dX8_isReady_37 : decode cX8_isReady 37 = .ok (.getfield 23, 3) := by decide +kernel
theorem dX8_isReady_40 : decode cX8_isReady 40 = .ok (.iload_n 1, 1) := by decide +kernel
theorem dX8_isReady_41 : decode cX8_isReady 41 = .ok (.aaload, 1) := by decide +kernel
theorem dX8_isReady_42 : decode cX8_isReady 42 = .ok (.invokevirtual 120, 3) := by decide +kernel
theorem dX8_isReady_45 : decode cX8_isReady 45 = .ok (.aload_n 0, 1) := by decide +kernel
theorem dX8_isReady_46 : decode cX8_isReady 46 = .ok (.getfield 54, 3) := by decide +kernel
theorem dX8_isReady_49 : decode cX8_isReady 49 = .ok (.getfield 115, 3) := by decide +kernel
theorem dX8_isReady_52 : decode cX8_isReady 52 = .ok (.getfield 124, 3) := by decide +kernel
theorem dX8_isReady_55 : decode cX8_isReady 55 = .ok (.invokevirtual 128, 3) := by decide +kernel
theorem dX8_isReady_58 : decode cX8_isReady 58 = .ok (.aload_n 0, 1) := by decide +kernel
theorem dX8_isReady_59 : decode cX8_isReady 59 = .ok (.getfield 54, 3) := by decide +kernel
theorem dX8_isReady_62 : decode cX8_isReady 62 = .ok (.getfield 115, 3) := by decide +kernel
theorem dX8_isReady_65 : decode cX8_isReady 65 = .ok (.getfield 124, 3) := by decide +kernel
theorem dX8_isReady_68 : decode cX8_isReady 68 = .ok (.aload_n 0, 1) := by decide +kernel
theorem dX8_isReady_69 : decode cX8_isReady 69 = .ok (.getfield 29, 3) := by decide +kernel
theorem dX8_isReady_72 : decode cX8_isReady 72 = .ok (.iload_n 2, 1) := by decide +kernel
theorem dX8_isReady_73 : decode cX8_isReady 73 = .ok (.aaload, 1) := by decide +kernel
theorem dX8_isReady_74 : decode cX8_isReady 74 = .ok (.getfield 131, 3) := by decide +kernel
theorem dX8_isReady_77 : decode cX8_isReady 77 = .ok (.putfield 131, 3) := by decide +kernel
theorem dX8_isReady_80 : decode cX8_isReady 80 = .ok (.iconst 1, 1) := by decide +kernel
theorem dX8_isReady_81 : decode cX8_isReady 81 = .ok (.ireturn, 1) := by decide +kernel
theorem dX8_tellFraction_0 : decode cX8_tellFraction 0 = .ok (.iconst 1, 1) := by decide +kernel
theorem dX8_tellFraction_1 : decode cX8_tellFraction 1 = .ok (.iload_n 1, 1) := by decide +kernel
theorem dX8_tellFraction_2 : decode cX8_tellFraction 2 = .ok (.iload_n 2, 1) := by decide +kernel
theorem dX8_tellFraction_3 : decode cX8_tellFraction 3 = .ok (.invokestatic 134, 3) := by decide +kernel
theorem dX8_tellFraction_6 : decode cX8_tellFraction 6 = .ok (.invokestatic 138, 3) := by decide +kernel
theorem dX8_tellFraction_9 : decode cX8_tellFraction 9 = .ok (.istore_n 3, 1) := by decide +kernel
theorem dX8_tellFraction_10 : decode cX8_tellFraction 10 = .ok (.aload_n 0, 1) := by decide +kernel
theorem dX8_tellFraction_11 : decode cX8_tellFraction 11 = .ok (.iload_n 1, 1) := by decide +kernel
theorem dX8_tellFraction_12 : decode cX8_tellFraction 12 = .ok (.iload_n 3, 1) := by decide +kernel
theorem dX8_tellFraction_13 : decode cX8_tellFraction 13 = .ok (.idiv, 1) := by decide +kernel
theorem dX8_tellFraction_14 : decode cX8_tellFraction 14 = .ok (.i2l, 1) := by decide +kernel
theorem dX8_tellFraction_15 : decode cX8_tellFraction 15 = .ok (.putfield 79, 3) := by decide +kernel
theorem dX8_tellFraction_18 : decode cX8_tellFraction 18 = .ok (.aload_n 0, 1) := by decide +kernel
theorem dX8_tellFraction_19 : decode cX8_tellFraction 19 = .ok (.iconst 1, 1) := by decide +kernel
theorem dX8_tellFraction_20 : decode cX8_tellFraction 20 = .ok (.iload_n 2, 1) := by decide +kernel
theorem dX8_tellFraction_21 : decode cX8_tellFraction 21 = .ok (.iload_n 3, 1) := by decide +kernel
theorem dX8_tellFraction_22 : decode cX8_tellFraction 22 = .ok (.idiv, 1) := by decide +kernel
theorem dX8_tellFraction_23 : decode cX8_tellFraction 23 = .ok (.invokestatic 138, 3) := by decide +kernel
theorem dX8_tellFraction_26 : decode cX8_tellFraction 26 = .ok (.i2l, 1) := by decide +kernel
theorem dX8_tellFraction_27 : decode cX8_tellFraction 27 = .ok (.putfield 83, 3) := by decide +kernel
theorem dX8_tellFraction_30 : decode cX8_tellFraction 30 = .ok (.return_, 1) := by decide +kernel
theorem dX8_divisor_0 : decode cX8_divisor 0 = .ok (.iload_n 0, 1) := by decide +kernel
theorem dX8_divisor_1 : decode cX8_divisor 1 = .ok (.invokestatic 143, 3) := by decide +kernel
theorem dX8_divisor_4 : decode cX8_divisor 4 = .ok (.istore_n 2, 1) := by decide +kernel
theorem dX8_divisor_5 : decode cX8_divisor 5 = .ok (.iload_n 1, 1) := by decide +kernel
theorem dX8_divisor_6 : decode cX8_divisor 6 = .ok (.invokestatic 143, 3) := by decide +kernel
theorem dX8_divisor_9 : decode cX8_divisor 9 = .ok (.istore_n 3, 1) := by decide +kernel
theorem dX8_divisor_10 : decode cX8_divisor 10 = .ok (.iconst 0, 1) := by decide +kernel
theorem dX8_divisor_11 : decode cX8_divisor 11 = .ok (.istore 4, 2) := by decide +kernel
theorem dX8_divisor_13 : decode cX8_divisor 13 = .ok (.iload 4, 2) := by decide +kernel
theorem dX8_divisor_15 : decode cX8_divisor 15 = .ok (.bipush 64, 2) := by decide +kernel
theorem dX8_divisor_17 : decode cX8_divisor 17 = .ok (.if_icmp .ge 23, 3) := by decide +kernel
theorem dX8_divisor_20 : decode cX8_divisor 20 = .ok (.iload_n 3, 1) := by decide +kernel
theorem dX8_divisor_21 : decode cX8_divisor 21 = .ok (.ifCond .eq 19, 3) := by decide +kernel
theorem dX8_divisor_24 : decode cX8_divisor 24 = .ok (.iload_n 2, 1) := by decide +kernel
theorem dX8_divisor_25 : decode cX8_divisor 25 = .ok (.iload_n 3, 1) := by decide +kernel
theorem dX8_divisor_26 : decode cX8_divisor 26 = .ok (.irem, 1) := by decide +kernel
theorem dX8_divisor_27 : decode cX8_divisor 27 = .ok (.istore 5, 2) := by decide +kernel
theorem dX8_divisor_29 : decode cX8_divisor 29 = .ok (.iload_n 3, 1) := by decide +kernel
theorem dX8_divisor_30 : decode cX8_divisor 30 = .ok (.istore_n 2, 1) := by decide +kernel
theorem dX8_divisor_31 : decode cX8_divisor 31 = .ok (.iload 5, 2) := by decide +kernel
theorem dX8_divisor_33 : decode cX8_divisor 33 = .ok (.istore_n 3, 1) := by decide +kernel
theorem dX8_divisor_34 : decode cX8_divisor 34 = .ok (.iinc 4 1, 3) := by decide +kernel
theorem dX8_divisor_37 : decode cX8_divisor 37 = .ok (.goto (-24), 3) := by decide +kernel
theorem dX8_divisor_40 : decode cX8_divisor 40 = .ok (.iload_n 2, 1) := by decide +kernel
theorem dX8_divisor_41 : decode cX8_divisor 41 = .ok (.ireturn, 1) := by decide +kernel
theorem dX8_row_0 : decode cX8_row 0 = .ok (.iload_n 1, 1) := by decide +kernel
theorem dX8_row_1 : decode cX8_row 1 = .ok (.invokestatic 147, 3) := by decide +kernel
theorem dX8_row_4 : decode cX8_row 4 = .ok (.ifCond .ne 9, 3) := by decide +kernel
theorem dX8_row_7 : decode cX8_row 7 = .ok (.iload_n 2, 1) := by decide +kernel
theorem dX8_row_8 : decode cX8_row 8 = .ok (.bipush 60, 2) := by decide +kernel
theorem dX8_row_10 : decode cX8_row 10 = .ok (.if_icmp .le 5, 3) := by decide +kernel
theorem dX8_row_13 : decode cX8_row 13 = .ok (.iconst (-1), 1) := by decide +kernel
theorem dX8_row_14 : decode cX8_row 14 = .ok (.ireturn, 1) := by decide +kernel
theorem dX8_row_15 : decode cX8_row 15 = .ok (.iload_n 2, 1) := by decide +kernel
theorem dX8_row_16 : decode cX8_row 16 = .ok (.ifCond .ge 9, 3) := by decide +kernel
theorem dX8_row_19 : decode cX8_row 19 = .ok (.aload_n 0, 1) := by decide +kernel
theorem dX8_row_20 : decode cX8_row 20 = .ok (.iconst 5, 1) := by decide +kernel
theorem dX8_row_21 : decode cX8_row 21 = .ok (.invokevirtual 150, 3) := by decide +kernel
theorem dX8_row_24 : decode cX8_row 24 = .ok (.ireturn, 1) := by decide +kernel
theorem dX8_row_25 : decode cX8_row 25 = .ok (.aload_n 0, 1) := by decide +kernel
theorem dX8_row_26 : decode cX8_row 26 = .ok (.getfield 11, 3) := by decide +kernel
theorem dX8_row_29 : decode cX8_row 29 = .ok (.iload_n 1, 1) := by decide +kernel
theorem dX8_row_30 : decode cX8_row 30 = .ok (.aaload, 1) := by decide +kernel
theorem dX8_row_31 : decode cX8_row 31 = .ok (.iload_n 2, 1) := by decide +kernel
theorem dX8_row_32 : decode cX8_row 32 = .ok (.invokevirtual 153, 3) := by decide +kernel
theorem dX8_row_35 : decode cX8_row 35 = .ok (.iload_n 2, 1) := by decide +kernel
theorem dX8_row_36 : decode cX8_row 36 = .ok (.ireturn, 1) := by decide +kernel
theorem dX8_lay_0 : decode cX8_lay 0 = .ok (.iload_n 1, 1) := by decide +kernel
theorem dX8_lay_1 : decode cX8_lay 1 = .ok (.invokestatic 147, 3) := by decide +kernel
theorem dX8_lay_4 : decode cX8_lay 4 = .ok (.ifCond .eq 5, 3) := by decide +kernel
theorem dX8_lay_7 : decode cX8_lay 7 = .ok (.iconst (-1), 1) := by decide +kernel
theorem dX8_lay_8 : decode cX8_lay 8 = .ok (.ireturn, 1) := by decide +kernel
theorem dX8_lay_9 : decode cX8_lay 9 = .ok (.aload_n 0, 1) := by decide +kernel
theorem dX8_lay_10 : decode cX8_lay 10 = .ok (.getfield 11, 3) := by decide +kernel
theorem dX8_lay_13 : decode cX8_lay 13 = .ok (.iload_n 1, 1) := by decide +kernel
theorem dX8_lay_14 : decode cX8_lay 14 = .ok (.aaload, 1) := by decide +kernel
theorem dX8_lay_15 : decode cX8_lay 15 = .ok (.astore 4, 2) := by decide +kernel
theorem dX8_lay_17 : decode cX8_lay 17 = .ok (.aload 4, 2) := by decide +kernel
theorem dX8_lay_19 : decode cX8_lay 19 = .ok (.invokevirtual 157, 3) := by decide +kernel
theorem dX8_lay_22 : decode cX8_lay 22 = .ok (.ifCond .eq 9, 3) := by decide +kernel
theorem dX8_lay_25 : decode cX8_lay 25 = .ok (.aload_n 0, 1) := by decide +kernel
theorem dX8_lay_26 : decode cX8_lay 26 = .ok (.iconst 1, 1) := by decide +kernel
theorem dX8_lay_27 : decode cX8_lay 27 = .ok (.invokevirtual 150, 3) := by decide +kernel
theorem dX8_lay_30 : decode cX8_lay 30 = .ok (.ireturn, 1) := by decide +kernel
theorem dX8_lay_31 : decode cX8_lay 31 = .ok (.aload 4, 2) := by decide +kernel
theorem dX8_lay_33 : decode cX8_lay 33 = .ok (.iload_n 2, 1) := by decide +kernel
theorem dX8_lay_34 : decode cX8_lay 34 = .ok (.invokevirtual 161, 3) := by decide +kernel
theorem dX8_lay_37 : decode cX8_lay 37 = .ok (.ifCond .ne 9, 3) := by decide +kernel
theorem dX8_lay_40 : decode cX8_lay 40 = .ok (.aload_n 0, 1) := by decide +kernel
theorem dX8_lay_41 : decode cX8_lay 41 = .ok (.iconst 2, 1) := by decide +kernel
theorem dX8_lay_42 : decode cX8_lay 42 = .ok (.invokevirtual 150, 3) := by decide +kernel
theorem dX8_lay_45 : decode cX8_lay 45 = .ok (.ireturn, 1) := by decide +kernel
theorem dX8_lay_46 : decode cX8_lay 46 = .ok (.aload 4, 2) := by decide +kernel
theorem dX8_lay_48 : decode cX8_lay 48 = .ok (.getfield 164, 3) := by decide +kernel
theorem dX8_lay_51 : decode cX8_lay 51 = .ok (.iload_n 2, 1) := by decide +kernel
theorem dX8_lay_52 : decode cX8_lay 52 = .ok (.iaload, 1) := by decide +kernel
theorem dX8_lay_53 : decode cX8_lay 53 = .ok (.istore 5, 2) := by decide +kernel
theorem dX8_lay_55 : decode cX8_lay 55 = .ok (.aload 4, 2) := by decide +kernel
theorem dX8_lay_57 : decode cX8_lay 57 = .ok (.getfield 164, 3) := by decide +kernel
theorem dX8_lay_60 : decode cX8_lay 60 = .ok (.iload_n 2, 1) := by decide +kernel
theorem dX8_lay_61 : decode cX8_lay 61 = .ok (.iload_n 3, 1) := by decide +kernel
theorem dX8_lay_62 : decode cX8_lay 62 = .ok (.iastore, 1) := by decide +kernel
theorem dX8_lay_63 : decode cX8_lay 63 = .ok (.aload_n 0, 1) := by decide +kernel
theorem dX8_lay_64 : decode cX8_lay 64 = .ok (.iload 5, 2) := by decide +kernel
theorem dX8_lay_66 : decode cX8_lay 66 = .ok (.invokevirtual 167, 3) := by decide +kernel
theorem dX8_lay_69 : decode cX8_lay 69 = .ok (.ireturn, 1) := by decide +kernel
theorem dX8_at_0 : decode cX8_at 0 = .ok (.iload_n 1, 1) := by decide +kernel
theorem dX8_at_1 : decode cX8_at 1 = .ok (.invokestatic 147, 3) := by decide +kernel
theorem dX8_at_4 : decode cX8_at 4 = .ok (.ifCond .eq 5, 3) := by decide +kernel
theorem dX8_at_7 : decode cX8_at 7 = .ok (.iconst (-1), 1) := by decide +kernel
theorem dX8_at_8 : decode cX8_at 8 = .ok (.ireturn, 1) := by decide +kernel
theorem dX8_at_9 : decode cX8_at 9 = .ok (.aload_n 0, 1) := by decide +kernel
theorem dX8_at_10 : decode cX8_at 10 = .ok (.getfield 11, 3) := by decide +kernel
theorem dX8_at_13 : decode cX8_at 13 = .ok (.iload_n 1, 1) := by decide +kernel
theorem dX8_at_14 : decode cX8_at 14 = .ok (.aaload, 1) := by decide +kernel
theorem dX8_at_15 : decode cX8_at 15 = .ok (.astore_n 3, 1) := by decide +kernel
theorem dX8_at_16 : decode cX8_at 16 = .ok (.aload_n 3, 1) := by decide +kernel
theorem dX8_at_17 : decode cX8_at 17 = .ok (.invokevirtual 157, 3) := by decide +kernel
theorem dX8_at_20 : decode cX8_at 20 = .ok (.ifCond .eq 9, 3) := by decide +kernel
theorem dX8_at_23 : decode cX8_at 23 = .ok (.aload_n 0, 1) := by decide +kernel
theorem dX8_at_24 : decode cX8_at 24 = .ok (.iconst 1, 1) := by decide +kernel
theorem dX8_at_25 : decode cX8_at 25 = .ok (.invokevirtual 150, 3) := by decide +kernel
theorem dX8_at_28 : decode cX8_at 28 = .ok (.ireturn, 1) := by decide +kernel
theorem dX8_at_29 : decode cX8_at 29 = .ok (.aload_n 3, 1) := by decide +kernel
theorem dX8_at_30 : decode cX8_at 30 = .ok (.iload_n 2, 1) := by decide +kernel
theorem dX8_at_31 : decode cX8_at 31 = .ok (.invokevirtual 161, 3) := by decide +kernel
theorem dX8_at_34 : decode cX8_at 34 = .ok (.ifCond .ne 9, 3) := by decide +kernel
theorem dX8_at_37 : decode cX8_at 37 = .ok (.aload_n 0, 1) := by decide +kernel
theorem dX8_at_38 : decode cX8_at 38 = .ok (.iconst 2, 1) := by decide +kernel
theorem dX8_at_39 : decode cX8_at 39 = .ok (.invokevirtual 150, 3) := by decide +kernel
theorem dX8_at_42 : decode cX8_at 42 = .ok (.ireturn, 1) := by decide +kernel
theorem dX8_at_43 : decode cX8_at 43 = .ok (.aload_n 0, 1) := by decide +kernel
theorem dX8_at_44 : decode cX8_at 44 = .ok (.aload_n 3, 1) := by decide +kernel
theorem dX8_at_45 : decode cX8_at 45 = .ok (.getfield 164, 3) := by decide +kernel
theorem dX8_at_48 : decode cX8_at 48 = .ok (.iload_n 2, 1) := by decide +kernel
theorem dX8_at_49 : decode cX8_at 49 = .ok (.iaload, 1) := by decide +kernel
theorem dX8_at_50 : decode cX8_at 50 = .ok (.invokevirtual 167, 3) := by decide +kernel
theorem dX8_at_53 : decode cX8_at 53 = .ok (.ireturn, 1) := by decide +kernel
theorem dX8_tear_0 : decode cX8_tear 0 = .ok (.iload_n 1, 1) := by decide +kernel
theorem dX8_tear_1 : decode cX8_tear 1 = .ok (.invokestatic 147, 3) := by decide +kernel
theorem dX8_tear_4 : decode cX8_tear 4 = .ok (.ifCond .eq 5, 3) := by decide +kernel
theorem dX8_tear_7 : decode cX8_tear 7 = .ok (.iconst (-1), 1) := by decide +kernel
theorem dX8_tear_8 : decode cX8_tear 8 = .ok (.ireturn, 1) := by decide +kernel
theorem dX8_tear_9 : decode cX8_tear 9 = .ok (.aload_n 0, 1) := by decide +kernel
theorem dX8_tear_10 : decode cX8_tear 10 = .ok (.getfield 11, 3) := by decide +kernel
theorem dX8_tear_13 : decode cX8_tear 13 = .ok (.iload_n 1, 1) := by decide +kernel
theorem dX8_tear_14 : decode cX8_tear 14 = .ok (.aaload, 1) := by decide +kernel
theorem dX8_tear_15 : decode cX8_tear 15 = .ok (.invokevirtual 157, 3) := by decide +kernel
theorem dX8_tear_18 : decode cX8_tear 18 = .ok (.ifCond .eq 9, 3) := by decide +kernel
theorem dX8_tear_21 : decode cX8_tear 21 = .ok (.aload_n 0, 1) := by decide +kernel
theorem dX8_tear_22 : decode cX8_tear 22 = .ok (.iconst 1, 1) := by decide +kernel
theorem dX8_tear_23 : decode cX8_tear 23 = .ok (.invokevirtual 150, 3) := by decide +kernel
theorem dX8_tear_26 : decode cX8_tear 26 = .ok (.ireturn, 1) := by decide +kernel
theorem dX8_tear_27 : decode cX8_tear 27 = .ok (.aload_n 0, 1) := by decide +kernel
theorem dX8_tear_28 : decode cX8_tear 28 = .ok (.getfield 11, 3) := by decide +kernel
theorem dX8_tear_31 : decode cX8_tear 31 = .ok (.iload_n 1, 1) := by decide +kernel
theorem dX8_tear_32 : decode cX8_tear 32 = .ok (.aaload, 1) := by decide +kernel
theorem dX8_tear_33 : decode cX8_tear 33 = .ok (.iconst (-1), 1) := by decide +kernel
theorem dX8_tear_34 : decode cX8_tear 34 = .ok (.putfield 170, 3) := by decide +kernel
theorem dX8_tear_37 : decode cX8_tear 37 = .ok (.iconst 1, 1) := by decide +kernel
theorem dX8_tear_38 : decode cX8_tear 38 = .ok (.ireturn, 1) := by decide +kernel
theorem dX8_copy_0 : decode cX8_copy 0 = .ok (.iload_n 1, 1) := by decide +kernel
theorem dX8_copy_1 : decode cX8_copy 1 = .ok (.invokestatic 147, 3) := by decide +kernel
theorem dX8_copy_4 : decode cX8_copy 4 = .ok (.ifCond .ne 10, 3) := by decide +kernel
theorem dX8_copy_7 : decode cX8_copy 7 = .ok (.iload_n 3, 1) := by decide +kernel
theorem dX8_copy_8 : decode cX8_copy 8 = .ok (.invokestatic 147, 3) := by decide +kernel
theorem dX8_copy_11 : decode cX8_copy 11 = .ok (.ifCond .eq 5, 3) := by decide +kernel
theorem dX8_copy_14 : decode cX8_copy 14 = .ok (.iconst (-1), 1) := by decide +kernel
theorem dX8_copy_15 : decode cX8_copy 15 = .ok (.ireturn, 1) := by decide +kernel
theorem dX8_copy_16 : decode cX8_copy 16 = .ok (.iload 5, 2) := by decide +kernel
theorem dX8_copy_18 : decode cX8_copy 18 = .ok (.ifCond .ge 9, 3) := by decide +kernel
theorem dX8_copy_21 : decode cX8_copy 21 = .ok (.aload_n 0, 1) := by decide +kernel
theorem dX8_copy_22 : decode cX8_copy 22 = .ok (.iconst 5, 1) := by decide +kernel
theorem dX8_copy_23 : decode cX8_copy 23 = .ok (.invokevirtual 150, 3) := by decide +kernel
theorem dX8_copy_26 : decode cX8_copy 26 = .ok (.ireturn, 1) := by decide +kernel
theorem dX8_copy_27 : decode cX8_copy 27 = .ok (.aload_n 0, 1) := by decide +kernel
theorem dX8_copy_28 : decode cX8_copy 28 = .ok (.getfield 11, 3) := by decide +kernel
theorem dX8_copy_31 : decode cX8_copy 31 = .ok (.iload_n 1, 1) := by decide +kernel
theorem dX8_copy_32 : decode cX8_copy 32 = .ok (.aaload, 1) := by decide +kernel
theorem dX8_copy_33 : decode cX8_copy 33 = .ok (.invokevirtual 157, 3) := by decide +kernel
theorem dX8_copy_36 : decode cX8_copy 36 = .ok (.ifCond .ne 15, 3) := by decide +kernel
theorem dX8_copy_39 : decode cX8_copy 39 = .ok (.aload_n 0, 1) := by decide +kernel
theorem dX8_copy_40 : decode cX8_copy 40 = .ok (.getfield 11, 3) := by decide +kernel
theorem dX8_copy_43 : decode cX8_copy 43 = .ok (.iload_n 3, 1) := by decide +kernel
theorem dX8_copy_44 : decode cX8_copy 44 = .ok (.aaload, 1) := by decide +kernel
theorem dX8_copy_45 : decode cX8_copy 45 = .ok (.invokevirtual 157, 3) := by decide +kernel
theorem dX8_copy_48 : decode cX8_copy 48 = .ok (.ifCond .eq 9, 3) := by decide +kernel
theorem dX8_copy_51 : decode cX8_copy 51 = .ok (.aload_n 0, 1) := by decide +kernel
theorem dX8_copy_52 : decode cX8_copy 52 = .ok (.iconst 1, 1) := by decide +kernel
theorem dX8_copy_53 : decode cX8_copy 53 = .ok (.invokevirtual 150, 3) := by decide +kernel
theorem dX8_copy_56 : decode cX8_copy 56 = .ok (.ireturn, 1) := by decide +kernel
theorem dX8_copy_57 : decode cX8_copy 57 = .ok (.aload_n 0, 1) := by decide +kernel
theorem dX8_copy_58 : decode cX8_copy 58 = .ok (.getfield 11, 3) := by decide +kernel
theorem dX8_copy_61 : decode cX8_copy 61 = .ok (.iload_n 1, 1) := by decide +kernel
theorem dX8_copy_62 : decode cX8_copy 62 = .ok (.aaload, 1) := by decide +kernel
theorem dX8_copy_63 : decode cX8_copy 63 = .ok (.iload_n 2, 1) := by decide +kernel
theorem dX8_copy_64 : decode cX8_copy 64 = .ok (.iload 5, 2) := by decide +kernel
theorem dX8_copy_66 : decode cX8_copy 66 = .ok (.invokevirtual 173, 3) := by decide +kernel
theorem dX8_copy_69 : decode cX8_copy 69 = .ok (.ifCond .eq 19, 3) := by decide +kernel
theorem dX8_copy_72 : decode cX8_copy 72 = .ok (.aload_n 0, 1) := by decide +kernel
theorem dX8_copy_73 : decode cX8_copy 73 = .ok (.getfield 11, 3) := by decide +kernel
theorem dX8_copy_76 : decode cX8_copy 76 = .ok (.iload_n 3, 1) := by decide +kernel
theorem dX8_copy_77 : decode cX8_copy 77 = .ok (.aaload, 1) := by decide +kernel
theorem dX8_copy_78 : decode cX8_copy 78 = .ok (.iload 4, 2) := by decide +kernel
theorem dX8_copy_80 : decode cX8_copy 80 = .ok (.iload 5, 2) := by decide +kernel
theorem dX8_copy_82 : decode cX8_copy 82 = .ok (.invokevirtual 173, 3) := by decide +kernel
theorem dX8_copy_85 : decode cX8_copy 85 = .ok (.ifCond .ne 9, 3) := by decide +kernel
theorem dX8_copy_88 : decode cX8_copy 88 = .ok (.aload_n 0, 1) := by decide +kernel
theorem dX8_copy_89 : decode cX8_copy 89 = .ok (.iconst 2, 1) := by decide +kernel
theorem dX8_copy_90 : decode cX8_copy 90 = .ok (.invokevirtual 150, 3) := by decide +kernel
theorem dX8_copy_93 : decode cX8_copy 93 = .ok (.ireturn, 1) := by decide +kernel
theorem dX8_copy_94 : decode cX8_copy 94 = .ok (.aload_n 0, 1) := by decide +kernel
theorem dX8_copy_95 : decode cX8_copy 95 = .ok (.getfield 11, 3) := by decide +kernel
theorem dX8_copy_98 : decode cX8_copy 98 = .ok (.iload_n 1, 1) := by decide +kernel
theorem dX8_copy_99 : decode cX8_copy 99 = .ok (.aaload, 1) := by decide +kernel
theorem dX8_copy_100 : decode cX8_copy 100 = .ok (.getfield 164, 3) := by decide +kernel
theorem dX8_copy_103 : decode cX8_copy 103 = .ok (.iload_n 2, 1) := by decide +kernel
theorem dX8_copy_104 : decode cX8_copy 104 = .ok (.aload_n 0, 1) := by decide +kernel
theorem dX8_copy_105 : decode cX8_copy 105 = .ok (.getfield 11, 3) := by decide +kernel
theorem dX8_copy_108 : decode cX8_copy 108 = .ok (.iload_n 3, 1) := by decide +kernel
theorem dX8_copy_109 : decode cX8_copy 109 = .ok (.aaload, 1) := by decide +kernel
theorem dX8_copy_110 : decode cX8_copy 110 = .ok (.getfield 164, 3) := by decide +kernel
theorem dX8_copy_113 : decode cX8_copy 113 = .ok (.iload 4, 2) := by decide +kernel
theorem dX8_copy_115 : decode cX8_copy 115 = .ok (.iload 5, 2) := by decide +kernel
theorem dX8_copy_117 : decode cX8_copy 117 = .ok (.invokestatic 177, 3) := by decide +kernel
theorem dX8_copy_120 : decode cX8_copy 120 = .ok (.iconst 1, 1) := by decide +kernel
theorem dX8_copy_121 : decode cX8_copy 121 = .ok (.ireturn, 1) := by decide +kernel
theorem dX8_mean_0 : decode cX8_mean 0 = .ok (.iload_n 1, 1) := by decide +kernel
theorem dX8_mean_1 : decode cX8_mean 1 = .ok (.invokestatic 147, 3) := by decide +kernel
theorem dX8_mean_4 : decode cX8_mean 4 = .ok (.ifCond .eq 5, 3) := by decide +kernel
theorem dX8_mean_7 : decode cX8_mean 7 = .ok (.iconst (-1), 1) := by decide +kernel
theorem dX8_mean_8 : decode cX8_mean 8 = .ok (.ireturn, 1) := by decide +kernel
theorem dX8_mean_9 : decode cX8_mean 9 = .ok (.aload_n 0, 1) := by decide +kernel
theorem dX8_mean_10 : decode cX8_mean 10 = .ok (.getfield 11, 3) := by decide +kernel
theorem dX8_mean_13 : decode cX8_mean 13 = .ok (.iload_n 1, 1) := by decide +kernel
theorem dX8_mean_14 : decode cX8_mean 14 = .ok (.aaload, 1) := by decide +kernel
theorem dX8_mean_15 : decode cX8_mean 15 = .ok (.astore_n 2, 1) := by decide +kernel
theorem dX8_mean_16 : decode cX8_mean 16 = .ok (.aload_n 2, 1) := by decide +kernel
theorem dX8_mean_17 : decode cX8_mean 17 = .ok (.invokevirtual 157, 3) := by decide +kernel
theorem dX8_mean_20 : decode cX8_mean 20 = .ok (.ifCond .eq 9, 3) := by decide +kernel
theorem dX8_mean_23 : decode cX8_mean 23 = .ok (.aload_n 0, 1) := by decide +kernel
theorem dX8_mean_24 : decode cX8_mean 24 = .ok (.iconst 1, 1) := by decide +kernel
theorem dX8_mean_25 : decode cX8_mean 25 = .ok (.invokevirtual 150, 3) := by decide +kernel
theorem dX8_mean_28 : decode cX8_mean 28 = .ok (.ireturn, 1) := by decide +kernel
theorem dX8_mean_29 : decode cX8_mean 29 = .ok (.aload_n 2, 1) := by decide +kernel
theorem dX8_mean_30 : decode cX8_mean 30 = .ok (.getfield 170, 3) := by decide +kernel
theorem dX8_mean_33 : decode cX8_mean 33 = .ok (.ifCond .ne 9, 3) := by decide +kernel
theorem dX8_mean_36 : decode cX8_mean 36 = .ok (.aload_n 0, 1) := by decide +kernel
theorem dX8_mean_37 : decode cX8_mean 37 = .ok (.iconst 4, 1) := by decide +kernel
theorem dX8_mean_38 : decode cX8_mean 38 = .ok (.invokevirtual 150, 3) := by decide +kernel
theorem dX8_mean_41 : decode cX8_mean 41 = .ok (.ireturn, 1) := by decide +kernel
theorem dX8_mean_42 : decode cX8_mean 42 = .ok (.aload_n 0, 1) := by decide +kernel
theorem dX8_mean_43 : decode cX8_mean 43 = .ok (.aload_n 2, 1) := by decide +kernel
theorem dX8_mean_44 : decode cX8_mean 44 = .ok (.invokevirtual 183, 3) := by decide +kernel
theorem dX8_mean_47 : decode cX8_mean 47 = .ok (.aload_n 2, 1) := by decide +kernel
theorem dX8_mean_48 : decode cX8_mean 48 = .ok (.getfield 170, 3) := by decide +kernel
theorem dX8_mean_51 : decode cX8_mean 51 = .ok (.i2l, 1) := by decide +kernel
theorem dX8_mean_52 : decode cX8_mean 52 = .ok (.ldiv, 1) := by decide +kernel
theorem dX8_mean_53 : decode cX8_mean 53 = .ok (.l2i, 1) := by decide +kernel
theorem dX8_mean_54 : decode cX8_mean 54 = .ok (.invokevirtual 167, 3) := by decide +kernel
theorem dX8_mean_57 : decode cX8_mean 57 = .ok (.ireturn, 1) := by decide +kernel
theorem dX8_text_0 : decode cX8_text 0 = .ok (.iload_n 1, 1) := by decide +kernel
theorem dX8_text_1 : decode cX8_text 1 = .ok (.invokestatic 187, 3) := by decide +kernel
theorem dX8_text_4 : decode cX8_text 4 = .ok (.ifCond .ne 9, 3) := by decide +kernel
theorem dX8_text_7 : decode cX8_text 7 = .ok (.iload_n 2, 1) := by decide +kernel
theorem dX8_text_8 : decode cX8_text 8 = .ok (.bipush 80, 2) := by decide +kernel
theorem dX8_text_10 : decode cX8_text 10 = .ok (.if_icmp .le 5, 3) := by decide +kernel
theorem dX8_text_13 : decode cX8_text 13 = .ok (.iconst (-1), 1) := by decide +kernel
theorem dX8_text_14 : decode cX8_text 14 = .ok (.ireturn, 1) := by decide +kernel
theorem dX8_text_15 : decode cX8_text 15 = .ok (.iload_n 2, 1) := by decide +kernel
theorem dX8_text_16 : decode cX8_text 16 = .ok (.ifCond .ge 9, 3) := by decide +kernel
theorem dX8_text_19 : decode cX8_text 19 = .ok (.aload_n 0, 1) := by decide +kernel
theorem dX8_text_20 : decode cX8_text 20 = .ok (.iconst 5, 1) := by decide +kernel
theorem dX8_text_21 : decode cX8_text 21 = .ok (.invokevirtual 150, 3) := by decide +kernel
theorem dX8_text_24 : decode cX8_text 24 = .ok (.ireturn, 1) := by decide +kernel
theorem dX8_text_25 : decode cX8_text 25 = .ok (.aload_n 0, 1) := by decide +kernel
theorem dX8_text_26 : decode cX8_text 26 = .ok (.getfield 17, 3) := by decide +kernel
theorem dX8_text_29 : decode cX8_text 29 = .ok (.iload_n 1, 1) := by decide +kernel
theorem dX8_text_30 : decode cX8_text 30 = .ok (.aaload, 1) := by decide +kernel
theorem dX8_text_31 : decode cX8_text 31 = .ok (.iload_n 2, 1) := by decide +kernel
theorem dX8_text_32 : decode cX8_text 32 = .ok (.invokevirtual 190, 3) := by decide +kernel
theorem dX8_text_35 : decode cX8_text 35 = .ok (.iload_n 2, 1) := by decide +kernel
theorem dX8_text_36 : decode cX8_text 36 = .ok (.ireturn, 1) := by decide +kernel
theorem dX8_put_0 : decode cX8_put 0 = .ok (.iload_n 1, 1) := by decide +kernel
theorem dX8_put_1 : decode cX8_put 1 = .ok (.invokestatic 187, 3) := by decide +kernel
theorem dX8_put_4 : decode cX8_put 4 = .ok (.ifCond .eq 5, 3) := by decide +kernel
theorem dX8_put_7 : decode cX8_put 7 = .ok (.iconst (-1), 1) := by decide +kernel
theorem dX8_put_8 : decode cX8_put 8 = .ok (.ireturn, 1) := by decide +kernel
theorem dX8_put_9 : decode cX8_put 9 = .ok (.aload_n 0, 1) := by decide +kernel
theorem dX8_put_10 : decode cX8_put 10 = .ok (.getfield 17, 3) := by decide +kernel
theorem dX8_put_13 : decode cX8_put 13 = .ok (.iload_n 1, 1) := by decide +kernel
theorem dX8_put_14 : decode cX8_put 14 = .ok (.aaload, 1) := by decide +kernel
theorem dX8_put_15 : decode cX8_put 15 = .ok (.astore 4, 2) := by decide +kernel
theorem dX8_put_17 : decode cX8_put 17 = .ok (.aload 4, 2) := by decide +kernel
theorem dX8_put_19 : decode cX8_put 19 = .ok (.invokevirtual 191, 3) := by decide +kernel
theorem dX8_put_22 : decode cX8_put 22 = .ok (.ifCond .eq 9, 3) := by decide +kernel
theorem dX8_put_25 : decode cX8_put 25 = .ok (.aload_n 0, 1) := by decide +kernel
theorem dX8_put_26 : decode cX8_put 26 = .ok (.iconst 1, 1) := by decide +kernel
theorem dX8_put_27 : decode cX8_put 27 = .ok (.invokevirtual 150, 3) := by decide +kernel
theorem dX8_put_30 : decode cX8_put 30 = .ok (.ireturn, 1) := by decide +kernel
theorem dX8_put_31 : decode cX8_put 31 = .ok (.aload 4, 2) := by decide +kernel
theorem dX8_put_33 : decode cX8_put 33 = .ok (.iload_n 2, 1) := by decide +kernel
theorem dX8_put_34 : decode cX8_put 34 = .ok (.invokevirtual 192, 3) := by decide +kernel
theorem dX8_put_37 : decode cX8_put 37 = .ok (.ifCond .ne 9, 3) := by decide +kernel
theorem dX8_put_40 : decode cX8_put 40 = .ok (.aload_n 0, 1) := by decide +kernel
theorem dX8_put_41 : decode cX8_put 41 = .ok (.iconst 2, 1) := by decide +kernel
theorem dX8_put_42 : decode cX8_put 42 = .ok (.invokevirtual 150, 3) := by decide +kernel
theorem dX8_put_45 : decode cX8_put 45 = .ok (.ireturn, 1) := by decide +kernel
theorem dX8_put_46 : decode cX8_put 46 = .ok (.aload 4, 2) := by decide +kernel
theorem dX8_put_48 : decode cX8_put 48 = .ok (.getfield 193, 3) := by decide +kernel
theorem dX8_put_51 : decode cX8_put 51 = .ok (.iload_n 2, 1) := by decide +kernel
theorem dX8_put_52 : decode cX8_put 52 = .ok (.baload, 1) := by decide +kernel
theorem dX8_put_53 : decode cX8_put 53 = .ok (.istore 5, 2) := by decide +kernel
theorem dX8_put_55 : decode cX8_put 55 = .ok (.aload 4, 2) := by decide +kernel
theorem dX8_put_57 : decode cX8_put 57 = .ok (.getfield 193, 3) := by decide +kernel
theorem dX8_put_60 : decode cX8_put 60 = .ok (.iload_n 2, 1) := by decide +kernel
theorem dX8_put_61 : decode cX8_put 61 = .ok (.iload_n 3, 1) := by decide +kernel
theorem dX8_put_62 : decode cX8_put 62 = .ok (.i2b, 1) := by decide +kernel
theorem dX8_put_63 : decode cX8_put 63 = .ok (.bastore, 1) := by decide +kernel
theorem dX8_put_64 : decode cX8_put 64 = .ok (.iload 5, 2) := by decide +kernel
theorem dX8_put_66 : decode cX8_put 66 = .ok (.sipush 1000, 3) := by decide +kernel
theorem dX8_put_69 : decode cX8_put 69 = .ok (.iadd, 1) := by decide +kernel
theorem dX8_put_70 : decode cX8_put 70 = .ok (.ireturn, 1) := by decide +kernel
theorem dX8_fault_0 : decode cX8_fault 0 = .ok (.iload_n 1, 1) := by decide +kernel
theorem dX8_fault_1 : decode cX8_fault 1 = .ok (.invokestatic 187, 3) := by decide +kernel
theorem dX8_fault_4 : decode cX8_fault 4 = .ok (.ifCond .eq 5, 3) := by decide +kernel
theorem dX8_fault_7 : decode cX8_fault 7 = .ok (.iconst (-1), 1) := by decide +kernel
theorem dX8_fault_8 : decode cX8_fault 8 = .ok (.ireturn, 1) := by decide +kernel
theorem dX8_fault_9 : decode cX8_fault 9 = .ok (.aload_n 0, 1) := by decide +kernel
theorem dX8_fault_10 : decode cX8_fault 10 = .ok (.getfield 17, 3) := by decide +kernel
theorem dX8_fault_13 : decode cX8_fault 13 = .ok (.iload_n 1, 1) := by decide +kernel
theorem dX8_fault_14 : decode cX8_fault 14 = .ok (.aaload, 1) := by decide +kernel
theorem dX8_fault_15 : decode cX8_fault 15 = .ok (.invokevirtual 191, 3) := by decide +kernel
theorem dX8_fault_18 : decode cX8_fault 18 = .ok (.ifCond .eq 9, 3) := by decide +kernel
theorem dX8_fault_21 : decode cX8_fault 21 = .ok (.aload_n 0, 1) := by decide +kernel
theorem dX8_fault_22 : decode cX8_fault 22 = .ok (.iconst 1, 1) := by decide +kernel
theorem dX8_fault_23 : decode cX8_fault 23 = .ok (.invokevirtual 150, 3) := by decide +kernel
theorem dX8_fault_26 : decode cX8_fault 26 = .ok (.ireturn, 1) := by decide +kernel
theorem dX8_fault_27 : decode cX8_fault 27 = .ok (.iload_n 2, 1) := by decide +kernel
theorem dX8_fault_28 : decode cX8_fault 28 = .ok (.ifCond .eq 19, 3) := by decide +kernel
theorem dX8_fault_31 : decode cX8_fault 31 = .ok (.aload_n 0, 1) := by decide +kernel
theorem dX8_fault_32 : decode cX8_fault 32 = .ok (.getfield 47, 3) := by decide +kernel
theorem dX8_fault_35 : decode cX8_fault 35 = .ok (.aload_n 0, 1) := by decide +kernel
theorem dX8_fault_36 : decode cX8_fault 36 = .ok (.getfield 17, 3) := by decide +kernel
theorem dX8_fault_39 : decode cX8_fault 39 = .ok (.iload_n 1, 1) := by decide +kernel
theorem dX8_fault_40 : decode cX8_fault 40 = .ok (.aaload, 1) := by decide +kernel
theorem dX8_fault_41 : decode cX8_fault 41 = .ok (.invokevirtual 197, 3) := by decide +kernel
theorem dX8_fault_44 : decode cX8_fault 44 = .ok (.goto 16, 3) := by decide +kernel
theorem dX8_fault_47 : decode cX8_fault 47 = .ok (.aload_n 0, 1) := by decide +kernel
theorem dX8_fault_48 : decode cX8_fault 48 = .ok (.getfield 47, 3) := by decide +kernel
theorem dX8_fault_51 : decode cX8_fault 51 = .ok (.aload_n 0, 1) := by decide +kernel
theorem dX8_fault_52 : decode cX8_fault 52 = .ok (.getfield 17, 3) := by decide +kernel
theorem dX8_fault_55 : decode cX8_fault 55 = .ok (.iload_n 1, 1) := by decide +kernel
theorem dX8_fault_56 : decode cX8_fault 56 = .ok (.aaload, 1) := by decide +kernel
theorem dX8_fault_57 : decode cX8_fault 57 = .ok (.invokevirtual 201, 3) := by decide +kernel
theorem dX8_fault_60 : decode cX8_fault 60 = .ok (.ireturn, 1) := by decide +kernel
theorem dX8_walker_0 : decode cX8_walker 0 = .ok (.iload_n 1, 1) := by decide +kernel
theorem dX8_walker_1 : decode cX8_walker 1 = .ok (.invokestatic 94, 3) := by decide +kernel
theorem dX8_walker_4 : decode cX8_walker 4 = .ok (.ifCond .ne 10, 3) := by decide +kernel
theorem dX8_walker_7 : decode cX8_walker 7 = .ok (.iload_n 2, 1) := by decide +kernel
theorem dX8_walker_8 : decode cX8_walker 8 = .ok (.invokestatic 187, 3) := by decide +kernel
theorem dX8_walker_11 : decode cX8_walker 11 = .ok (.ifCond .eq 5, 3) := by decide +kernel
theorem dX8_walker_14 : decode cX8_walker 14 = .ok (.iconst (-1), 1) := by decide +kernel
theorem dX8_walker_15 : decode cX8_walker 15 = .ok (.ireturn, 1) := by decide +kernel
theorem dX8_walker_16 : decode cX8_walker 16 = .ok (.aload_n 0, 1) := by decide +kernel
theorem dX8_walker_17 : decode cX8_walker 17 = .ok (.getfield 17, 3) := by decide +kernel
theorem dX8_walker_20 : decode cX8_walker 20 = .ok (.iload_n 2, 1) := by decide +kernel
theorem dX8_walker_21 : decode cX8_walker 21 = .ok (.aaload, 1) := by decide +kernel
theorem dX8_walker_22 : decode cX8_walker 22 = .ok (.invokevirtual 191, 3) := by decide +kernel
theorem dX8_walker_25 : decode cX8_walker 25 = .ok (.ifCond .eq 9, 3) := by decide +kernel
theorem dX8_walker_28 : decode cX8_walker 28 = .ok (.aload_n 0, 1) := by decide +kernel
theorem dX8_walker_29 : decode cX8_walker 29 = .ok (.iconst 1, 1) := by decide +kernel
theorem dX8_walker_30 : decode cX8_walker 30 = .ok (.invokevirtual 150, 3) := by decide +kernel
theorem dX8_walker_33 : decode cX8_walker 33 = .ok (.ireturn, 1) := by decide +kernel
theorem dX8_walker_34 : decode cX8_walker 34 = .ok (.aload_n 0, 1) := by decide +kernel
theorem dX8_walker_35 : decode cX8_walker 35 = .ok (.getfield 47, 3) := by decide +kernel
theorem dX8_walker_38 : decode cX8_walker 38 = .ok (.aload_n 0, 1) := by decide +kernel
theorem dX8_walker_39 : decode cX8_walker 39 = .ok (.getfield 17, 3) := by decide +kernel
theorem dX8_walker_42 : decode cX8_walker 42 = .ok (.iload_n 2, 1) := by decide +kernel
theorem dX8_walker_43 : decode cX8_walker 43 = .ok (.aaload, 1) := by decide +kernel
theorem dX8_walker_44 : decode cX8_walker 44 = .ok (.invokevirtual 201, 3) := by decide +kernel
theorem dX8_walker_47 : decode cX8_walker 47 = .ok (.bipush (-9), 2) := by decide +kernel
theorem dX8_walker_49 : decode cX8_walker 49 = .ok (.if_icmp .eq 6, 3) := by decide +kernel
theorem dX8_walker_52 : decode cX8_walker 52 = .ok (.bipush (-4), 2) := by decide +kernel
theorem dX8_walker_54 : decode cX8_walker 54 = .ok (.ireturn, 1) := by decide +kernel
theorem dX8_walker_55 : decode cX8_walker 55 = .ok (.aload_n 0, 1) := by decide +kernel
theorem dX8_walker_56 : decode cX8_walker 56 = .ok (.getfield 23, 3) := by decide +kernel
theorem dX8_walker_59 : decode cX8_walker 59 = .ok (.iload_n 1, 1) := by decide +kernel
theorem dX8_walker_60 : decode cX8_walker 60 = .ok (.aaload, 1) := by decide +kernel
theorem dX8_walker_61 : decode cX8_walker 61 = .ok (.aload_n 0, 1) := by decide +kernel
theorem dX8_walker_62 : decode cX8_walker 62 = .ok (.getfield 47, 3) := by decide +kernel
theorem dX8_walker_65 : decode cX8_walker 65 = .ok (.getfield 204, 3) := by decide +kernel
theorem dX8_walker_68 : decode cX8_walker 68 = .ok (.invokevirtual 120, 3) := by decide +kernel
theorem dX8_walker_71 : decode cX8_walker 71 = .ok (.aload_n 0, 1) := by decide +kernel
theorem dX8_walker_72 : decode cX8_walker 72 = .ok (.getfield 23, 3) := by decide +kernel
theorem dX8_walker_75 : decode cX8_walker 75 = .ok (.iload_n 1, 1) := by decide +kernel
theorem dX8_walker_76 : decode cX8_walker 76 = .ok (.aaload, 1) := by decide +kernel
theorem dX8_walker_77 : decode cX8_walker 77 = .ok (.iconst 1, 1) := by decide +kernel
theorem dX8_walker_78 : decode cX8_walker 78 = .ok (.putfield 110, 3) := by decide +kernel
theorem dX8_walker_81 : decode cX8_walker 81 = .ok (.aload_n 0, 1) := by decide +kernel
theorem dX8_walker_82 : decode cX8_walker 82 = .ok (.getfield 23, 3) := by decide +kernel
theorem dX8_walker_85 : decode cX8_walker 85 = .ok (.iload_n 1, 1) := by decide +kernel
theorem dX8_walker_86 : decode cX8_walker 86 = .ok (.aaload, 1) := by decide +kernel
theorem dX8_walker_87 : decode cX8_walker 87 = .ok (.getfield 205, 3) := by decide +kernel
theorem dX8_walker_90 : decode cX8_walker 90 = .ok (.invokestatic 208, 3) := by decide +kernel
theorem dX8_walker_93 : decode cX8_walker 93 = .ok (.ireturn, 1) := by decide +kernel
theorem dX8_board_0 : decode cX8_board 0 = .ok (.iload_n 1, 1) := by decide +kernel
theorem dX8_board_1 : decode cX8_board 1 = .ok (.invokestatic 98, 3) := by decide +kernel
theorem dX8_board_4 : decode cX8_board 4 = .ok (.ifCond .ne 10, 3) := by decide +kernel
theorem dX8_board_7 : decode cX8_board 7 = .ok (.iload_n 2, 1) := by decide +kernel
theorem dX8_board_8 : decode cX8_board 8 = .ok (.invokestatic 187, 3) := by decide +kernel
theorem dX8_board_11 : decode cX8_board 11 = .ok (.ifCond .eq 5, 3) := by decide +kernel
theorem dX8_board_14 : decode cX8_board 14 = .ok (.iconst (-1), 1) := by decide +kernel
theorem dX8_board_15 : decode cX8_board 15 = .ok (.ireturn, 1) := by decide +kernel
theorem dX8_board_16 : decode cX8_board 16 = .ok (.aload_n 0, 1) := by decide +kernel
theorem dX8_board_17 : decode cX8_board 17 = .ok (.getfield 17, 3) := by decide +kernel
theorem dX8_board_20 : decode cX8_board 20 = .ok (.iload_n 2, 1) := by decide +kernel
theorem dX8_board_21 : decode cX8_board 21 = .ok (.aaload, 1) := by decide +kernel
theorem dX8_board_22 : decode cX8_board 22 = .ok (.invokevirtual 191, 3) := by decide +kernel
theorem dX8_board_25 : decode cX8_board 25 = .ok (.ifCond .eq 9, 3) := by decide +kernel
theorem dX8_board_28 : decode cX8_board 28 = .ok (.aload_n 0, 1) := by decide +kernel
theorem dX8_board_29 : decode cX8_board 29 = .ok (.iconst 1, 1) := by decide +kernel
theorem dX8_board_30 : decode cX8_board 30 = .ok (.invokevirtual 150, 3) := by decide +kernel
theorem dX8_board_33 : decode cX8_board 33 = .ok (.ireturn, 1) := by decide +kernel
theorem dX8_board_34 : decode cX8_board 34 = .ok (.aload_n 0, 1) := by decide +kernel
theorem dX8_board_35 : decode cX8_board 35 = .ok (.getfield 47, 3) := by decide +kernel
theorem dX8_board_38 : decode cX8_board 38 = .ok (.aload_n 0, 1) := by decide +kernel
theorem dX8_board_39 : decode cX8_board 39 = .ok (.getfield 17, 3) := by decide +kernel
theorem dX8_board_42 : decode cX8_board 42 = .ok (.iload_n 2, 1) := by decide +kernel
theorem dX8_board_43 : decode cX8_board 43 = .ok (.aaload, 1) := by decide +kernel
theorem dX8_board_44 : decode cX8_board 44 = .ok (.invokevirtual 197, 3) := by decide +kernel
theorem dX8_board_47 : decode cX8_board 47 = .ok (.bipush (-9), 2) := by decide +kernel
theorem dX8_board_49 : decode cX8_board 49 = .ok (.if_icmp .eq 6, 3) := by decide +kernel
theorem dX8_board_52 : decode cX8_board 52 = .ok (.bipush (-4), 2) := by decide +kernel
theorem dX8_board_54 : decode cX8_board 54 = .ok (.ireturn, 1) := by decide +kernel
theorem dX8_board_55 : decode cX8_board 55 = .ok (.aload_n 0, 1) := by decide +kernel
theorem dX8_board_56 : decode cX8_board 56 = .ok (.getfield 29, 3) := by decide +kernel
theorem dX8_board_59 : decode cX8_board 59 = .ok (.iload_n 1, 1) := by decide +kernel
theorem dX8_board_60 : decode cX8_board 60 = .ok (.aaload, 1) := by decide +kernel
theorem dX8_board_61 : decode cX8_board 61 = .ok (.aload_n 0, 1) := by decide +kernel
theorem dX8_board_62 : decode cX8_board 62 = .ok (.getfield 47, 3) := by decide +kernel
theorem dX8_board_65 : decode cX8_board 65 = .ok (.getfield 213, 3) := by decide +kernel
theorem dX8_board_68 : decode cX8_board 68 = .ok (.invokevirtual 214, 3) := by decide +kernel
theorem dX8_board_71 : decode cX8_board 71 = .ok (.aload_n 0, 1) := by decide +kernel
theorem dX8_board_72 : decode cX8_board 72 = .ok (.getfield 29, 3) := by decide +kernel
theorem dX8_board_75 : decode cX8_board 75 = .ok (.iload_n 1, 1) := by decide +kernel
theorem dX8_board_76 : decode cX8_board 76 = .ok (.aaload, 1) := by decide +kernel
theorem dX8_board_77 : decode cX8_board 77 = .ok (.iconst 1, 1) := by decide +kernel
theorem dX8_board_78 : decode cX8_board 78 = .ok (.putfield 114, 3) := by decide +kernel
theorem dX8_board_81 : decode cX8_board 81 = .ok (.aload_n 0, 1) := by decide +kernel
theorem dX8_board_82 : decode cX8_board 82 = .ok (.getfield 47, 3) := by decide +kernel
theorem dX8_board_85 : decode cX8_board 85 = .ok (.getfield 217, 3) := by decide +kernel
theorem dX8_board_88 : decode cX8_board 88 = .ok (.ireturn, 1) := by decide +kernel
theorem dX8_about_0 : decode cX8_about 0 = .ok (.iload_n 1, 1) := by decide +kernel
theorem dX8_about_1 : decode cX8_about 1 = .ok (.invokestatic 94, 3) := by decide +kernel
theorem dX8_about_4 : decode cX8_about 4 = .ok (.ifCond .ne 13, 3) := by decide +kernel
theorem dX8_about_7 : decode cX8_about 7 = .ok (.iload_n 2, 1) := by decide +kernel
theorem dX8_about_8 : decode cX8_about 8 = .ok (.iconst 0, 1) := by decide +kernel
theorem dX8_about_9 : decode cX8_about 9 = .ok (.bipush 6, 2) := by decide +kernel
theorem dX8_about_11 : decode cX8_about 11 = .ok (.invokestatic 90, 3) := by decide +kernel
theorem dX8_about_14 : decode cX8_about 14 = .ok (.ifCond .eq 5, 3) := by decide +kernel
theorem dX8_about_17 : decode cX8_about 17 = .ok (.iconst (-1), 1) := by decide +kernel
theorem dX8_about_18 : decode cX8_about 18 = .ok (.ireturn, 1) := by decide +kernel
theorem dX8_about_19 : decode cX8_about 19 = .ok (.aload_n 0, 1) := by decide +kernel
theorem dX8_about_20 : decode cX8_about 20 = .ok (.getfield 23, 3) := by decide +kernel
theorem dX8_about_23 : decode cX8_about 23 = .ok (.iload_n 1, 1) := by decide +kernel
theorem dX8_about_24 : decode cX8_about 24 = .ok (.aaload, 1) := by decide +kernel
theorem dX8_about_25 : decode cX8_about 25 = .ok (.getfield 110, 3) := by decide +kernel
theorem dX8_about_28 : decode cX8_about 28 = .ok (.ifCond .ne 9, 3) := by decide +kernel
theorem dX8_about_31 : decode cX8_about 31 = .ok (.aload_n 0, 1) := by decide +kernel
theorem dX8_about_32 : decode cX8_about 32 = .ok (.iconst 1, 1) := by decide +kernel
theorem dX8_about_33 : decode cX8_about 33 = .ok (.invokevirtual 150, 3) := by decide +kernel
theorem dX8_about_36 : decode cX8_about 36 = .ok (.ireturn, 1) := by decide +kernel
theorem dX8_about_37 : decode cX8_about 37 = .ok (.aload_n 0, 1) := by decide +kernel
theorem dX8_about_38 : decode cX8_about 38 = .ok (.aload_n 0, 1) := by decide +kernel
theorem dX8_about_39 : decode cX8_about 39 = .ok (.getfield 23, 3) := by decide +kernel
theorem dX8_about_42 : decode cX8_about 42 = .ok (.iload_n 1, 1) := by decide +kernel
theorem dX8_about_43 : decode cX8_about 43 = .ok (.aaload, 1) := by decide +kernel
theorem dX8_about_44 : decode cX8_about 44 = .ok (.iload_n 2, 1) := by decide +kernel
theorem dX8_about_45 : decode cX8_about 45 = .ok (.invokevirtual 220, 3) := by decide +kernel
theorem dX8_about_48 : decode cX8_about 48 = .ok (.invokevirtual 167, 3) := by decide +kernel
theorem dX8_about_51 : decode cX8_about 51 = .ok (.ireturn, 1) := by decide +kernel
theorem dX8_rub_0 : decode cX8_rub 0 = .ok (.iload_n 1, 1) := by decide +kernel
theorem dX8_rub_1 : decode cX8_rub 1 = .ok (.invokestatic 98, 3) := by decide +kernel
theorem dX8_rub_4 : decode cX8_rub 4 = .ok (.ifCond .ne 13, 3) := by decide +kernel
theorem dX8_rub_7 : decode cX8_rub 7 = .ok (.iload_n 2, 1) := by decide +kernel
theorem dX8_rub_8 : decode cX8_rub 8 = .ok (.iconst 0, 1) := by decide +kernel
theorem dX8_rub_9 : decode cX8_rub 9 = .ok (.bipush 99, 2) := by decide +kernel
theorem dX8_rub_11 : decode cX8_rub 11 = .ok (.invokestatic 90, 3) := by decide +kernel
theorem dX8_rub_14 : decode cX8_rub 14 = .ok (.ifCond .eq 5, 3) := by decide +kernel
theorem dX8_rub_17 : decode cX8_rub 17 = .ok (.iconst (-1), 1) := by decide +kernel
theorem dX8_rub_18 : decode cX8_rub 18 = .ok (.ireturn, 1) := by decide +kernel
theorem dX8_rub_19 : decode cX8_rub 19 = .ok (.aload_n 0, 1) := by decide +kernel
theorem dX8_rub_20 : decode cX8_rub 20 = .ok (.getfield 29, 3) := by decide +kernel
theorem dX8_rub_23 : decode cX8_rub 23 = .ok (.iload_n 1, 1) := by decide +kernel
theorem dX8_rub_24 : decode cX8_rub 24 = .ok (.aaload, 1) := by decide +kernel
theorem dX8_rub_25 : decode cX8_rub 25 = .ok (.getfield 114, 3) := by decide +kernel
theorem dX8_rub_28 : decode cX8_rub 28 = .ok (.ifCond .ne 9, 3) := by decide +kernel
theorem dX8_rub_31 : decode cX8_rub 31 = .ok (.aload_n 0, 1) := by decide +kernel
theorem dX8_rub_32 : decode cX8_rub 32 = .ok (.iconst 1, 1) := by decide +kernel
theorem dX8_rub_33 : decode cX8_rub 33 = .ok (.invokevirtual 150, 3) := by decide +kernel
theorem dX8_rub_36 : decode cX8_rub 36 = .ok (.ireturn, 1) := by decide +kernel
theorem dX8_rub_37 : decode cX8_rub 37 = .ok (.aload_n 0, 1) := by decide +kernel
theorem dX8_rub_38 : decode cX8_rub 38 = .ok (.aload_n 0, 1) := by decide +kernel
theorem dX8_rub_39 : decode cX8_rub 39 = .ok (.getfield 29, 3) := by decide +kernel
theorem dX8_rub_42 : decode cX8_rub 42 = .ok (.iload_n 1, 1) := by decide +kernel
theorem dX8_rub_43 : decode cX8_rub 43 = .ok (.aaload, 1) := by decide +kernel
theorem dX8_rub_44 : decode cX8_rub 44 = .ok (.iload_n 2, 1) := by decide +kernel
theorem dX8_rub_45 : decode cX8_rub 45 = .ok (.invokevirtual 223, 3) := by decide +kernel
theorem dX8_rub_48 : decode cX8_rub 48 = .ok (.invokevirtual 167, 3) := by decide +kernel
theorem dX8_rub_51 : decode cX8_rub 51 = .ok (.pop, 1) := by decide +kernel
theorem dX8_rub_52 : decode cX8_rub 52 = .ok (.aload_n 0, 1) := by decide +kernel
theorem dX8_rub_53 : decode cX8_rub 53 = .ok (.getfield 29, 3) := by decide +kernel
theorem dX8_rub_56 : decode cX8_rub 56 = .ok (.iload_n 1, 1) := by decide +kernel
theorem dX8_rub_57 : decode cX8_rub 57 = .ok (.aaload, 1) := by decide +kernel
theorem dX8_rub_58 : decode cX8_rub 58 = .ok (.getfield 131, 3) := by decide +kernel
theorem dX8_rub_61 : decode cX8_rub 61 = .ok (.ireturn, 1) := by decide +kernel
theorem dX8_wax_0 : decode cX8_wax 0 = .ok (.iload_n 1, 1) := by decide +kernel
theorem dX8_wax_1 : decode cX8_wax 1 = .ok (.invokestatic 94, 3) := by decide +kernel
theorem dX8_wax_4 : decode cX8_wax 4 = .ok (.ifCond .ne 22, 3) := by decide +kernel
theorem dX8_wax_7 : decode cX8_wax 7 = .ok (.iload_n 2, 1) := by decide +kernel
theorem dX8_wax_8 : decode cX8_wax 8 = .ok (.iconst 0, 1) := by decide +kernel
theorem dX8_wax_9 : decode cX8_wax 9 = .ok (.iconst 1, 1) := by decide +kernel
theorem dX8_wax_10 : decode cX8_wax 10 = .ok (.invokestatic 90, 3) := by decide +kernel
theorem dX8_wax_13 : decode cX8_wax 13 = .ok (.ifCond .ne 13, 3) := by decide +kernel
theorem dX8_wax_16 : decode cX8_wax 16 = .ok (.iload_n 3, 1) := by decide +kernel
theorem dX8_wax_17 : decode cX8_wax 17 = .ok (.iconst 0, 1) := by decide +kernel
theorem dX8_wax_18 : decode cX8_wax 18 = .ok (.bipush 9, 2) := by decide +kernel
theorem dX8_wax_20 : decode cX8_wax 20 = .ok (.invokestatic 90, 3) := by decide +kernel
theorem dX8_wax_23 : decode cX8_wax 23 = .ok (.ifCond .eq 5, 3) := by decide +kernel
theorem dX8_wax_26 : decode cX8_wax 26 = .ok (.iconst (-1), 1) := by decide +kernel
theorem dX8_wax_27 : decode cX8_wax 27 = .ok (.ireturn, 1) := by decide +kernel
theorem dX8_wax_28 : decode cX8_wax 28 = .ok (.aload_n 0, 1) := by decide +kernel
theorem dX8_wax_29 : decode cX8_wax 29 = .ok (.getfield 23, 3) := by decide +kernel
theorem dX8_wax_32 : decode cX8_wax 32 = .ok (.iload_n 1, 1) := by decide +kernel
theorem dX8_wax_33 : decode cX8_wax 33 = .ok (.aaload, 1) := by decide +kernel
theorem dX8_wax_34 : decode cX8_wax 34 = .ok (.getfield 110, 3) := by decide +kernel
theorem dX8_wax_37 : decode cX8_wax 37 = .ok (.ifCond .ne 9, 3) := by decide +kernel
theorem dX8_wax_40 : decode cX8_wax 40 = .ok (.aload_n 0, 1) := by decide +kernel
theorem dX8_wax_41 : decode cX8_wax 41 = .ok (.iconst 1, 1) := by decide +kernel
theorem dX8_wax_42 : decode cX8_wax 42 = .ok (.invokevirtual 150, 3) := by decide +kernel
theorem dX8_wax_45 : decode cX8_wax 45 = .ok (.ireturn, 1) := by decide +kernel
theorem dX8_wax_46 : decode cX8_wax 46 = .ok (.aload_n 0, 1) := by decide +kernel
theorem dX8_wax_47 : decode cX8_wax 47 = .ok (.getfield 23, 3) := by decide +kernel
theorem dX8_wax_50 : decode cX8_wax 50 = .ok (.iload_n 1, 1) := by decide +kernel
theorem dX8_wax_51 : decode cX8_wax 51 = .ok (.aaload, 1) := by decide +kernel
theorem dX8_wax_52 : decode cX8_wax 52 = .ok (.getfield 226, 3) := by decide +kernel
theorem dX8_wax_55 : decode cX8_wax 55 = .ok (.iconst 4, 1) := by decide +kernel
theorem dX8_wax_56 : decode cX8_wax 56 = .ok (.iload_n 2, 1) := by decide +kernel
theorem dX8_wax_57 : decode cX8_wax 57 = .ok (.iadd, 1) := by decide +kernel
theorem dX8_wax_58 : decode cX8_wax 58 = .ok (.iaload, 1) := by decide +kernel
theorem dX8_wax_59 : decode cX8_wax 59 = .ok (.istore 4, 2) := by decide +kernel
theorem dX8_wax_61 : decode cX8_wax 61 = .ok (.aload_n 0, 1) := by decide +kernel
theorem dX8_wax_62 : decode cX8_wax 62 = .ok (.getfield 23, 3) := by decide +kernel
theorem dX8_wax_65 : decode cX8_wax 65 = .ok (.iload_n 1, 1) := by decide +kernel
theorem dX8_wax_66 : decode cX8_wax 66 = .ok (.aaload, 1) := by decide +kernel
theorem dX8_wax_67 : decode cX8_wax 67 = .ok (.getfield 226, 3) := by decide +kernel
theorem dX8_wax_70 : decode cX8_wax 70 = .ok (.iconst 4, 1) := by decide +kernel
theorem dX8_wax_71 : decode cX8_wax 71 = .ok (.iload_n 2, 1) := by decide +kernel
theorem dX8_wax_72 : decode cX8_wax 72 = .ok (.iadd, 1) := by decide +kernel
theorem dX8_wax_73 : decode cX8_wax 73 = .ok (.iload_n 3, 1) := by decide +kernel
theorem dX8_wax_74 : decode cX8_wax 74 = .ok (.iastore, 1) := by decide +kernel
theorem dX8_wax_75 : decode cX8_wax 75 = .ok (.iload 4, 2) := by decide +kernel
theorem dX8_wax_77 : decode cX8_wax 77 = .ok (.ireturn, 1) := by decide +kernel
theorem dX8_walk_0 : decode cX8_walk 0 = .ok (.iload_n 1, 1) := by decide +kernel
theorem dX8_walk_1 : decode cX8_walk 1 = .ok (.iload_n 2, 1) := by decide +kernel
theorem dX8_walk_2 : decode cX8_walk 2 = .ok (.iload_n 3, 1) := by decide +kernel
theorem dX8_walk_3 : decode cX8_walk 3 = .ok (.iload 4, 2) := by decide +kernel
theorem dX8_walk_5 : decode cX8_walk 5 = .ok (.invokestatic 229, 3) := by decide +kernel
theorem dX8_walk_8 : decode cX8_walk 8 = .ok (.ifCond .ne 13, 3) := by decide +kernel
theorem dX8_walk_11 : decode cX8_walk 11 = .ok (.iload 5, 2) := by decide +kernel
theorem dX8_walk_13 : decode cX8_walk 13 = .ok (.iconst 0, 1) := by decide +kernel
theorem dX8_walk_14 : decode cX8_walk 14 = .ok (.iconst 1, 1) := by decide +kernel
theorem dX8_walk_15 : decode cX8_walk 15 = .ok (.invokestatic 90, 3) := by decide +kernel
theorem dX8_walk_18 : decode cX8_walk 18 = .ok (.ifCond .eq 5, 3) := by decide +kernel
theorem dX8_walk_21 : decode cX8_walk 21 = .ok (.iconst (-1), 1) := by decide +kernel
theorem dX8_walk_22 : decode cX8_walk 22 = .ok (.ireturn, 1) := by decide +kernel
theorem dX8_walk_23 : decode cX8_walk 23 = .ok (.aload_n 0, 1) := by decide +kernel
theorem dX8_walk_24 : decode cX8_walk 24 = .ok (.getfield 23, 3) := by decide +kernel
theorem dX8_walk_27 : decode cX8_walk 27 = .ok (.iload_n 1, 1) := by decide +kernel
theorem dX8_walk_28 : decode cX8_walk 28 = .ok (.aaload, 1) := by decide +kernel
theorem dX8_walk_29 : decode cX8_walk 29 = .ok (.getfield 110, 3) := by decide +kernel
theorem dX8_walk_32 : decode cX8_walk 32 = .ok (.ifCond .eq 15, 3) := by decide +kernel
theorem dX8_walk_35 : decode cX8_walk 35 = .ok (.aload_n 0, 1) := by decide +kernel
theorem dX8_walk_36 : decode cX8_walk 36 = .ok (.getfield 29, 3) := by decide +kernel
theorem dX8_walk_39 : decode cX8_walk 39 = .ok (.iload_n 2, 1) := by decide +kernel
theorem dX8_walk_40 : decode cX8_walk 40 = .ok (.aaload, 1) := by decide +kernel
theorem dX8_walk_41 : decode cX8_walk 41 = .ok (.getfield 114, 3) := by decide +kernel
theorem dX8_walk_44 : decode cX8_walk 44 = .ok (.ifCond .ne 9, 3) := by decide +kernel
theorem dX8_walk_47 : decode cX8_walk 47 = .ok (.aload_n 0, 1) := by decide +kernel
theorem dX8_walk_48 : decode cX8_walk 48 = .ok (.iconst 1, 1) := by decide +kernel
theorem dX8_walk_49 : decode cX8_walk 49 = .ok (.invokevirtual 150, 3) := by decide +kernel
theorem dX8_walk_52 : decode cX8_walk 52 = .ok (.ireturn, 1) := by decide +kernel
theorem dX8_walk_53 : decode cX8_walk 53 = .ok (.aload_n 0, 1) := by decide +kernel
theorem dX8_walk_54 : decode cX8_walk 54 = .ok (.getfield 36, 3) := by decide +kernel
theorem dX8_walk_57 : decode cX8_walk 57 = .ok (.getfield 116, 3) := by decide +kernel
theorem dX8_walk_60 : decode cX8_walk 60 = .ok (.aload_n 0, 1) := by decide +kernel
theorem dX8_walk_61 : decode cX8_walk 61 = .ok (.getfield 23, 3) := by decide +kernel
theorem dX8_walk_64 : decode cX8_walk 64 = .ok (.iload_n 1, 1) := by decide +kernel
theorem dX8_walk_65 : decode cX8_walk 65 = .ok (.aaload, 1) := by decide +kernel
theorem dX8_walk_66 : decode cX8_walk 66 = .ok (.invokevirtual 120, 3) := by decide +kernel
theorem dX8_walk_69 : decode cX8_walk 69 = .ok (.aload_n 0, 1) := by decide +kernel
theorem dX8_walk_70 : decode cX8_walk 70 = .ok (.getfield 36, 3) := by decide +kernel
theorem dX8_walk_73 : decode cX8_walk 73 = .ok (.getfield 124, 3) := by decide +kernel
theorem dX8_walk_76 : decode cX8_walk 76 = .ok (.aload_n 0, 1) := by decide +kernel
theorem dX8_walk_77 : decode cX8_walk 77 = .ok (.getfield 29, 3) := by decide +kernel
theorem dX8_walk_80 : decode cX8_walk 80 = .ok (.iload_n 2, 1) := by decide +kernel
theorem dX8_walk_81 : decode cX8_walk 81 = .ok (.aaload, 1) := by decide +kernel
theorem dX8_walk_82 : decode cX8_walk 82 = .ok (.invokevirtual 214, 3) := by decide +kernel
theorem dX8_walk_85 : decode cX8_walk 85 = .ok (.aload_n 0, 1) := by decide +kernel
theorem dX8_walk_86 : decode cX8_walk 86 = .ok (.getfield 36, 3) := by decide +kernel
theorem dX8_walk_89 : decode cX8_walk 89 = .ok (.iload_n 3, 1) := by decide +kernel
theorem dX8_walk_90 : decode cX8_walk 90 = .ok (.iload 4, 2) := by decide +kernel
theorem dX8_walk_92 : decode cX8_walk 92 = .ok (.iload 5, 2) := by decide +kernel
theorem dX8_walk_94 : decode cX8_walk 94 = .ok (.invokevirtual 233, 3) := by decide +kernel
theorem dX8_walk_97 : decode cX8_walk 97 = .ok (.aload_n 0, 1) := by decide +kernel
theorem dX8_walk_98 : decode cX8_walk 98 = .ok (.getfield 36, 3) := by decide +kernel
theorem dX8_walk_101 : decode cX8_walk 101 = .ok (.iconst 1, 1) := by decide +kernel
theorem dX8_walk_102 : decode cX8_walk 102 = .ok (.putfield 237, 3) := by decide +kernel
theorem dX8_walk_105 : decode cX8_walk 105 = .ok (.aload_n 0, 1) := by decide +kernel
theorem dX8_walk_106 : decode cX8_walk 106 = .ok (.getfield 36, 3) := by decide +kernel
theorem dX8_walk_109 : decode cX8_walk 109 = .ok (.getfield 116, 3) := by decide +kernel
theorem dX8_walk_112 : decode cX8_walk 112 = .ok (.iload_n 3, 1) := by decide +kernel
theorem dX8_walk_113 : decode cX8_walk 113 = .ok (.iload 5, 2) := by decide +kernel
theorem dX8_walk_115 : decode cX8_walk 115 = .ok (.invokevirtual 238, 3) := by decide +kernel
theorem dX8_walk_118 : decode cX8_walk 118 = .ok (.ireturn, 1) := by decide +kernel
theorem dX8_go_0 : decode cX8_go 0 = .ok (.iload_n 1, 1) := by decide +kernel
theorem dX8_go_1 : decode cX8_go 1 = .ok (.iconst 0, 1) := by decide +kernel
theorem dX8_go_2 : decode cX8_go 2 = .ok (.sipush 400, 3) := by decide +kernel
theorem dX8_go_5 : decode cX8_go 5 = .ok (.invokestatic 90, 3) := by decide +kernel
theorem dX8_go_8 : decode cX8_go 8 = .ok (.ifCond .eq 5, 3) := by decide +kernel
theorem dX8_go_11 : decode cX8_go 11 = .ok (.iconst (-1), 1) := by decide +kernel
theorem dX8_go_12 : decode cX8_go 12 = .ok (.ireturn, 1) := by decide +kernel
theorem dX8_go_13 : decode cX8_go 13 = .ok (.aload_n 0, 1) := by decide +kernel
theorem dX8_go_14 : decode cX8_go 14 = .ok (.getfield 36, 3) := by decide +kernel
theorem dX8_go_17 : decode cX8_go 17 = .ok (.getfield 237, 3) := by decide +kernel
theorem dX8_go_20 : decode cX8_go 20 = .ok (.ifCond .ne 6, 3) := by decide +kernel
theorem dX8_go_23 : decode cX8_go 23 = .ok (.bipush (-4), 2) := by decide +kernel
theorem dX8_go_25 : decode cX8_go 25 = .ok (.ireturn, 1) := by decide +kernel
theorem dX8_go_26 : decode cX8_go 26 = .ok (.aload_n 0, 1) := by decide +kernel
theorem dX8_go_27 : decode cX8_go 27 = .ok (.getfield 36, 3) := by decide +kernel
theorem dX8_go_30 : decode cX8_go 30 = .ok (.getfield 241, 3) := by decide +kernel
theorem dX8_go_33 : decode cX8_go 33 = .ok (.iload_n 1, 1) := by decide +kernel
theorem dX8_go_34 : decode cX8_go 34 = .ok (.iadd, 1) := by decide +kernel
theorem dX8_go_35 : decode cX8_go 35 = .ok (.sipush 10000, 3) := by decide +kernel
theorem dX8_go_38 : decode cX8_go 38 = .ok (.if_icmp .le 6, 3) := by decide +kernel
theorem dX8_go_41 : decode cX8_go 41 = .ok (.bipush (-6), 2) := by decide +kernel
theorem dX8_go_43 : decode cX8_go 43 = .ok (.ireturn, 1) := by decide +kernel
theorem dX8_go_44 : decode cX8_go 44 = .ok (.aload_n 0, 1) := by decide +kernel
theorem dX8_go_45 : decode cX8_go 45 = .ok (.getfield 36, 3) := by decide +kernel
theorem dX8_go_48 : decode cX8_go 48 = .ok (.iload_n 1, 1) := by decide +kernel
theorem dX8_go_49 : decode cX8_go 49 = .ok (.invokevirtual 244, 3) := by decide +kernel
theorem dX8_go_52 : decode cX8_go 52 = .ok (.ireturn, 1) := by decide +kernel
theorem dX8_told_0 : decode cX8_told 0 = .ok (.iload_n 1, 1) := by decide +kernel
theorem dX8_told_1 : decode cX8_told 1 = .ok (.iconst 0, 1) := by decide +kernel
theorem dX8_told_2 : decode cX8_told 2 = .ok (.bipush 6, 2) := by decide +kernel
theorem dX8_told_4 : decode cX8_told 4 = .ok (.invokestatic 90, 3) := by decide +kernel
theorem dX8_told_7 : decode cX8_told 7 = .ok (.ifCond .eq 5, 3) := by decide +kernel
theorem dX8_told_10 : decode cX8_told 10 = .ok (.iconst (-1), 1) := by decide +kernel
theorem dX8_told_11 : decode cX8_told 11 = .ok (.ireturn, 1) := by decide +kernel
theorem dX8_told_12 : decode cX8_told 12 = .ok (.aload_n 0, 1) := by decide +kernel
theorem dX8_told_13 : decode cX8_told 13 = .ok (.getfield 36, 3) := by decide +kernel
theorem dX8_told_16 : decode cX8_told 16 = .ok (.getfield 237, 3) := by decide +kernel
theorem dX8_told_19 : decode cX8_told 19 = .ok (.ifCond .ne 6, 3) := by decide +kernel
theorem dX8_told_22 : decode cX8_told 22 = .ok (.bipush (-4), 2) := by decide +kernel
theorem dX8_told_24 : decode cX8_told 24 = .ok (.ireturn, 1) := by decide +kernel
theorem dX8_told_25 : decode cX8_told 25 = .ok (.aload_n 0, 1) := by decide +kernel
theorem dX8_told_26 : decode cX8_told 26 = .ok (.aload_n 0, 1) := by decide +kernel
theorem dX8_told_27 : decode cX8_told 27 = .ok (.getfield 36, 3) := by decide +kernel
theorem dX8_told_30 : decode cX8_told 30 = .ok (.iload_n 1, 1) := by decide +kernel
theorem dX8_told_31 : decode cX8_told 31 = .ok (.invokevirtual 247, 3) := by decide +kernel
theorem dX8_told_34 : decode cX8_told 34 = .ok (.invokevirtual 167, 3) := by decide +kernel
theorem dX8_told_37 : decode cX8_told 37 = .ok (.ireturn, 1) := by decide +kernel
theorem dX8_tocks_0 : decode cX8_tocks 0 = .ok (.iload_n 1, 1) := by decide +kernel
theorem dX8_tocks_1 : decode cX8_tocks 1 = .ok (.iconst 0, 1) := by decide +kernel
theorem dX8_tocks_2 : decode cX8_tocks 2 = .ok (.bipush 60, 2) := by decide +kernel
theorem dX8_tocks_4 : decode cX8_tocks 4 = .ok (.invokestatic 90, 3) := by decide +kernel
theorem dX8_tocks_7 : decode cX8_tocks 7 = .ok (.ifCond .ne 10, 3) := by decide +kernel
theorem dX8_tocks_10 : decode cX8_tocks 10 = .ok (.iload_n 2, 1) := by decide +kernel
theorem dX8_tocks_11 : decode cX8_tocks 11 = .ok (.invokestatic 147, 3) := by decide +kernel
theorem dX8_tocks_14 : decode cX8_tocks 14 = .ok (.ifCond .eq 5, 3) := by decide +kernel
theorem dX8_tocks_17 : decode cX8_tocks 17 = .ok (.iconst (-1), 1) := by decide +kernel
theorem dX8_tocks_18 : decode cX8_tocks 18 = .ok (.ireturn, 1) := by decide +kernel
theorem dX8_tocks_19 : decode cX8_tocks 19 = .ok (.aload_n 0, 1) := by decide +kernel
theorem dX8_tocks_20 : decode cX8_tocks 20 = .ok (.getfield 36, 3) := by decide +kernel
theorem dX8_tocks_23 : decode cX8_tocks 23 = .ok (.getfield 237, 3) := by decide +kernel
theorem dX8_tocks_26 : decode cX8_tocks 26 = .ok (.ifCond .ne 6, 3) := by decide +kernel
theorem dX8_tocks_29 : decode cX8_tocks 29 = .ok (.bipush (-4), 2) := by decide +kernel
theorem dX8_tocks_31 : decode cX8_tocks 31 = .ok (.ireturn, 1) := by decide +kernel
theorem dX8_tocks_32 : decode cX8_tocks 32 = .ok (.aload_n 0, 1) := by decide +kernel
theorem dX8_tocks_33 : decode cX8_tocks 33 = .ok (.getfield 36, 3) := by decide +kernel
theorem dX8_tocks_36 : decode cX8_tocks 36 = .ok (.getfield 241, 3) := by decide +kernel
theorem dX8_tocks_39 : decode cX8_tocks 39 = .ok (.iload_n 1, 1) := by decide +kernel
theorem dX8_tocks_40 : decode cX8_tocks 40 = .ok (.iadd, 1) := by decide +kernel
theorem dX8_tocks_41 : decode cX8_tocks 41 = .ok (.sipush 10000, 3) := by decide +kernel
theorem dX8_tocks_44 : decode cX8_tocks 44 = .ok (.if_icmp .le 6, 3) := by decide +kernel
theorem dX8_tocks_47 : decode cX8_tocks 47 = .ok (.bipush (-6), 2) := by decide +kernel
theorem dX8_tocks_49 : decode cX8_tocks 49 = .ok (.ireturn, 1) := by decide +kernel
theorem dX8_tocks_50 : decode cX8_tocks 50 = .ok (.aload_n 0, 1) := by decide +kernel
theorem dX8_tocks_51 : decode cX8_tocks 51 = .ok (.getfield 11, 3) := by decide +kernel
theorem dX8_tocks_54 : decode cX8_tocks 54 = .ok (.iload_n 2, 1) := by decide +kernel
theorem dX8_tocks_55 : decode cX8_tocks 55 = .ok (.aaload, 1) := by decide +kernel
theorem dX8_tocks_56 : decode cX8_tocks 56 = .ok (.iload_n 1, 1) := by decide +kernel
theorem dX8_tocks_57 : decode cX8_tocks 57 = .ok (.invokevirtual 153, 3) := by decide +kernel
theorem dX8_tocks_60 : decode cX8_tocks 60 = .ok (.iconst 0, 1) := by decide +kernel
theorem dX8_tocks_61 : decode cX8_tocks 61 = .ok (.istore_n 3, 1) := by decide +kernel
theorem dX8_tocks_62 : decode cX8_tocks 62 = .ok (.iload_n 3, 1) := by decide +kernel
theorem dX8_tocks_63 : decode cX8_tocks 63 = .ok (.iload_n 1, 1) := by decide +kernel
theorem dX8_tocks_64 : decode cX8_tocks 64 = .ok (.if_icmp .ge 37, 3) := by decide +kernel
theorem dX8_tocks_67 : decode cX8_tocks 67 = .ok (.aload_n 0, 1) := by decide +kernel
theorem dX8_tocks_68 : decode cX8_tocks 68 = .ok (.getfield 36, 3) := by decide +kernel
theorem dX8_tocks_71 : decode cX8_tocks 71 = .ok (.invokevirtual 248, 3) := by decide +kernel
theorem dX8_tocks_74 : decode cX8_tocks 74 = .ok (.ifCond .eq 27, 3) := by decide +kernel
theorem dX8_tocks_77 : decode cX8_tocks 77 = .ok (.aload_n 0, 1) := by decide +kernel
theorem dX8_tocks_78 : decode cX8_tocks 78 = .ok (.getfield 11, 3) := by decide +kernel
theorem dX8_tocks_81 : decode cX8_tocks 81 = .ok (.iload_n 2, 1) := by decide +kernel
theorem dX8_tocks_82 : decode cX8_tocks 82 = .ok (.aaload, 1) := by decide +kernel
theorem dX8_tocks_83 : decode cX8_tocks 83 = .ok (.getfield 164, 3) := by decide +kernel
theorem dX8_tocks_86 : decode cX8_tocks 86 = .ok (.iload_n 3, 1) := by decide +kernel
theorem dX8_tocks_87 : decode cX8_tocks 87 = .ok (.aload_n 0, 1) := by decide +kernel
theorem dX8_tocks_88 : decode cX8_tocks 88 = .ok (.getfield 36, 3) := by decide +kernel
theorem dX8_tocks_91 : decode cX8_tocks 91 = .ok (.getfield 251, 3) := by decide +kernel
theorem dX8_tocks_94 : decode cX8_tocks 94 = .ok (.iastore, 1) := by decide +kernel
theorem dX8_tocks_95 : decode cX8_tocks 95 = .ok (.iinc 3 1, 3) := by decide +kernel
theorem dX8_tocks_98 : decode cX8_tocks 98 = .ok (.goto (-36), 3) := by decide +kernel
theorem dX8_tocks_101 : decode cX8_tocks 101 = .ok (.iload_n 3, 1) := by decide +kernel
theorem dX8_tocks_102 : decode cX8_tocks 102 = .ok (.ireturn, 1) := by decide +kernel
theorem dX8_tilt_0 : decode cX8_tilt 0 = .ok (.iload_n 1, 1) := by decide +kernel
theorem dX8_tilt_1 : decode cX8_tilt 1 = .ok (.invokestatic 107, 3) := by decide +kernel
theorem dX8_tilt_4 : decode cX8_tilt 4 = .ok (.ifCond .eq 5, 3) := by decide +kernel
theorem dX8_tilt_7 : decode cX8_tilt 7 = .ok (.iconst (-1), 1) := by decide +kernel
theorem dX8_tilt_8 : decode cX8_tilt 8 = .ok (.ireturn, 1) := by decide +kernel
theorem dX8_tilt_9 : decode cX8_tilt 9 = .ok (.aload_n 0, 1) := by decide +kernel
theorem dX8_tilt_10 : decode cX8_tilt 10 = .ok (.getfield 36, 3) := by decide +kernel
theorem dX8_tilt_13 : decode cX8_tilt 13 = .ok (.getfield 237, 3) := by decide +kernel
theorem dX8_tilt_16 : decode cX8_tilt 16 = .ok (.ifCond .ne 6, 3) := by decide +kernel
theorem dX8_tilt_19 : decode cX8_tilt 19 = .ok (.bipush (-4), 2) := by decide +kernel
theorem dX8_tilt_21 : decode cX8_tilt 21 = .ok (.ireturn, 1) := by decide +kernel
theorem dX8_tilt_22 : decode cX8_tilt 22 = .ok (.aload_n 0, 1) := by decide +kernel
theorem dX8_tilt_23 : decode cX8_tilt 23 = .ok (.getfield 36, 3) := by decide +kernel
theorem dX8_tilt_26 : decode cX8_tilt 26 = .ok (.getfield 254, 3) := by decide +kernel
theorem dX8_tilt_29 : decode cX8_tilt 29 = .ok (.istore_n 2, 1) := by decide +kernel
theorem dX8_tilt_30 : decode cX8_tilt 30 = .ok (.aload_n 0, 1) := by decide +kernel
theorem dX8_tilt_31 : decode cX8_tilt 31 = .ok (.getfield 36, 3) := by decide +kernel
theorem dX8_tilt_34 : decode cX8_tilt 34 = .ok (.iload_n 1, 1) := by decide +kernel
theorem dX8_tilt_35 : decode cX8_tilt 35 = .ok (.putfield 254, 3) := by decide +kernel
theorem dX8_tilt_38 : decode cX8_tilt 38 = .ok (.iload_n 2, 1) := by decide +kernel
theorem dX8_tilt_39 : decode cX8_tilt 39 = .ok (.ireturn, 1) := by decide +kernel
theorem dX8_keep_0 : decode cX8_keep 0 = .ok (.iload_n 1, 1) := by decide +kernel
theorem dX8_keep_1 : decode cX8_keep 1 = .ok (.iconst 0, 1) := by decide +kernel
theorem dX8_keep_2 : decode cX8_keep 2 = .ok (.iconst 2, 1) := by decide +kernel
theorem dX8_keep_3 : decode cX8_keep 3 = .ok (.invokestatic 90, 3) := by decide +kernel
theorem dX8_keep_6 : decode cX8_keep 6 = .ok (.ifCond .eq 5, 3) := by decide +kernel
theorem dX8_keep_9 : decode cX8_keep 9 = .ok (.iconst (-1), 1) := by decide +kernel
theorem dX8_keep_10 : decode cX8_keep 10 = .ok (.ireturn, 1) := by decide +kernel
theorem dX8_keep_11 : decode cX8_keep 11 = .ok (.aload_n 0, 1) := by decide +kernel
theorem dX8_keep_12 : decode cX8_keep 12 = .ok (.getfield 36, 3) := by decide +kernel
theorem dX8_keep_15 : decode cX8_keep 15 = .ok (.getfield 237, 3) := by decide +kernel
theorem dX8_keep_18 : decode cX8_keep 18 = .ok (.ifCond .ne 6, 3) := by decide +kernel
theorem dX8_keep_21 : decode cX8_keep 21 = .ok (.bipush (-4), 2) := by decide +kernel
theorem dX8_keep_23 : decode cX8_keep 23 = .ok (.ireturn, 1) := by decide +kernel
theorem dX8_keep_24 : decode cX8_keep 24 = .ok (.aload_n 0, 1) := by decide +kernel
theorem dX8_keep_25 : decode cX8_keep 25 = .ok (.getfield 40, 3) := by decide +kernel
theorem dX8_keep_28 : decode cX8_keep 28 = .ok (.iload_n 1, 1) := by decide +kernel
theorem dX8_keep_29 : decode cX8_keep 29 = .ok (.aaload, 1) := by decide +kernel
theorem dX8_keep_30 : decode cX8_keep 30 = .ok (.aload_n 0, 1) := by decide +kernel
theorem dX8_keep_31 : decode cX8_keep 31 = .ok (.getfield 36, 3) := by decide +kernel
theorem dX8_keep_34 : decode cX8_keep 34 = .ok (.invokevirtual 257, 3) := by decide +kernel
theorem dX8_keep_37 : decode cX8_keep 37 = .ok (.aload_n 0, 1) := by decide +kernel
theorem dX8_keep_38 : decode cX8_keep 38 = .ok (.getfield 36, 3) := by decide +kernel
theorem dX8_keep_41 : decode cX8_keep 41 = .ok (.getfield 241, 3) := by decide +kernel
theorem dX8_keep_44 : decode cX8_keep 44 = .ok (.ireturn, 1) := by decide +kernel
theorem dX8_on_0 : decode cX8_on 0 = .ok (.iload_n 1, 1) := by decide +kernel
theorem dX8_on_1 : decode cX8_on 1 = .ok (.iconst 0, 1) := by decide +kernel
theorem dX8_on_2 : decode cX8_on 2 = .ok (.iconst 2, 1) := by decide +kernel
theorem dX8_on_3 : decode cX8_on 3 = .ok (.invokestatic 90, 3) := by decide +kernel
theorem dX8_on_6 : decode cX8_on 6 = .ok (.ifCond .eq 5, 3) := by decide +kernel
theorem dX8_on_9 : decode cX8_on 9 = .ok (.iconst (-1), 1) := by decide +kernel
theorem dX8_on_10 : decode cX8_on 10 = .ok (.ireturn, 1) := by decide +kernel
theorem dX8_on_11 : decode cX8_on 11 = .ok (.aload_n 0, 1) := by decide +kernel
theorem dX8_on_12 : decode cX8_on 12 = .ok (.getfield 40, 3) := by decide +kernel
theorem dX8_on_15 : decode cX8_on 15 = .ok (.iload_n 1, 1) := by decide +kernel
theorem dX8_on_16 : decode cX8_on 16 = .ok (.aaload, 1) := by decide +kernel
theorem dX8_on_17 : decode cX8_on 17 = .ok (.getfield 237, 3) := by decide +kernel
theorem dX8_on_20 : decode cX8_on 20 = .ok (.ifCond .ne 9, 3) := by decide +kernel
