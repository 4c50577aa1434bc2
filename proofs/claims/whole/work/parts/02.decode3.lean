theorem dX9_wax_52 : decode cX9_wax 52 = .ok (.iadd, 1) := by decide +kernel
theorem dX9_wax_53 : decode cX9_wax 53 = .ok (.iload_n 2, 1) := by decide +kernel
theorem dX9_wax_54 : decode cX9_wax 54 = .ok (.iadd, 1) := by decide +kernel
theorem dX9_wax_55 : decode cX9_wax 55 = .ok (.iaload, 1) := by decide +kernel
theorem dX9_wax_56 : decode cX9_wax 56 = .ok (.istore 4, 2) := by decide +kernel
theorem dX9_wax_58 : decode cX9_wax 58 = .ok (.aload_n 0, 1) := by decide +kernel
theorem dX9_wax_59 : decode cX9_wax 59 = .ok (.getfield 33, 3) := by decide +kernel
theorem dX9_wax_62 : decode cX9_wax 62 = .ok (.bipush 7, 2) := by decide +kernel
theorem dX9_wax_64 : decode cX9_wax 64 = .ok (.iload_n 1, 1) := by decide +kernel
theorem dX9_wax_65 : decode cX9_wax 65 = .ok (.imul, 1) := by decide +kernel
theorem dX9_wax_66 : decode cX9_wax 66 = .ok (.iconst 4, 1) := by decide +kernel
theorem dX9_wax_67 : decode cX9_wax 67 = .ok (.iadd, 1) := by decide +kernel
theorem dX9_wax_68 : decode cX9_wax 68 = .ok (.iload_n 2, 1) := by decide +kernel
theorem dX9_wax_69 : decode cX9_wax 69 = .ok (.iadd, 1) := by decide +kernel
theorem dX9_wax_70 : decode cX9_wax 70 = .ok (.iload_n 3, 1) := by decide +kernel
theorem dX9_wax_71 : decode cX9_wax 71 = .ok (.iastore, 1) := by decide +kernel
theorem dX9_wax_72 : decode cX9_wax 72 = .ok (.iload 4, 2) := by decide +kernel
theorem dX9_wax_74 : decode cX9_wax 74 = .ok (.ireturn, 1) := by decide +kernel
theorem dX9_looksAt_0 : decode cX9_looksAt 0 = .ok (.iconst 0, 1) := by decide +kernel
theorem dX9_looksAt_1 : decode cX9_looksAt 1 = .ok (.istore 4, 2) := by decide +kernel
theorem dX9_looksAt_3 : decode cX9_looksAt 3 = .ok (.iload 4, 2) := by decide +kernel
theorem dX9_looksAt_5 : decode cX9_looksAt 5 = .ok (.bipush 6, 2) := by decide +kernel
theorem dX9_looksAt_7 : decode cX9_looksAt 7 = .ok (.if_icmp .ge 28, 3) := by decide +kernel
theorem dX9_looksAt_10 : decode cX9_looksAt 10 = .ok (.aload_n 0, 1) := by decide +kernel
theorem dX9_looksAt_11 : decode cX9_looksAt 11 = .ok (.getfield 48, 3) := by decide +kernel
theorem dX9_looksAt_14 : decode cX9_looksAt 14 = .ok (.iload 4, 2) := by decide +kernel
theorem dX9_looksAt_16 : decode cX9_looksAt 16 = .ok (.aload_n 0, 1) := by decide +kernel
theorem dX9_looksAt_17 : decode cX9_looksAt 17 = .ok (.getfield 33, 3) := by decide +kernel
theorem dX9_looksAt_20 : decode cX9_looksAt 20 = .ok (.bipush 7, 2) := by decide +kernel
theorem dX9_looksAt_22 : decode cX9_looksAt 22 = .ok (.iload_n 1, 1) := by decide +kernel
theorem dX9_looksAt_23 : decode cX9_looksAt 23 = .ok (.imul, 1) := by decide +kernel
theorem dX9_looksAt_24 : decode cX9_looksAt 24 = .ok (.iload 4, 2) := by decide +kernel
theorem dX9_looksAt_26 : decode cX9_looksAt 26 = .ok (.iadd, 1) := by decide +kernel
theorem dX9_looksAt_27 : decode cX9_looksAt 27 = .ok (.iaload, 1) := by decide +kernel
theorem dX9_looksAt_28 : decode cX9_looksAt 28 = .ok (.iastore, 1) := by decide +kernel
theorem dX9_looksAt_29 : decode cX9_looksAt 29 = .ok (.iinc 4 1, 3) := by decide +kernel
theorem dX9_looksAt_32 : decode cX9_looksAt 32 = .ok (.goto (-29), 3) := by decide +kernel
theorem dX9_looksAt_35 : decode cX9_looksAt 35 = .ok (.aload_n 0, 1) := by decide +kernel
theorem dX9_looksAt_36 : decode cX9_looksAt 36 = .ok (.aload_n 0, 1) := by decide +kernel
theorem dX9_looksAt_37 : decode cX9_looksAt 37 = .ok (.getfield 39, 3) := by decide +kernel
theorem dX9_looksAt_40 : decode cX9_looksAt 40 = .ok (.bipush 101, 2) := by decide +kernel
theorem dX9_looksAt_42 : decode cX9_looksAt 42 = .ok (.iload_n 2, 1) := by decide +kernel
theorem dX9_looksAt_43 : decode cX9_looksAt 43 = .ok (.imul, 1) := by decide +kernel
theorem dX9_looksAt_44 : decode cX9_looksAt 44 = .ok (.iaload, 1) := by decide +kernel
theorem dX9_looksAt_45 : decode cX9_looksAt 45 = .ok (.putfield 145, 3) := by decide +kernel
theorem dX9_looksAt_48 : decode cX9_looksAt 48 = .ok (.aload_n 0, 1) := by decide +kernel
theorem dX9_looksAt_49 : decode cX9_looksAt 49 = .ok (.iload_n 3, 1) := by decide +kernel
theorem dX9_looksAt_50 : decode cX9_looksAt 50 = .ok (.putfield 148, 3) := by decide +kernel
theorem dX9_looksAt_53 : decode cX9_looksAt 53 = .ok (.aload_n 0, 1) := by decide +kernel
theorem dX9_looksAt_54 : decode cX9_looksAt 54 = .ok (.getfield 51, 3) := by decide +kernel
theorem dX9_looksAt_57 : decode cX9_looksAt 57 = .ok (.iconst 0, 1) := by decide +kernel
theorem dX9_looksAt_58 : decode cX9_looksAt 58 = .ok (.iconst 0, 1) := by decide +kernel
theorem dX9_looksAt_59 : decode cX9_looksAt 59 = .ok (.iastore, 1) := by decide +kernel
theorem dX9_looksAt_60 : decode cX9_looksAt 60 = .ok (.aload_n 0, 1) := by decide +kernel
theorem dX9_looksAt_61 : decode cX9_looksAt 61 = .ok (.getfield 51, 3) := by decide +kernel
theorem dX9_looksAt_64 : decode cX9_looksAt 64 = .ok (.iconst 1, 1) := by decide +kernel
theorem dX9_looksAt_65 : decode cX9_looksAt 65 = .ok (.iconst 0, 1) := by decide +kernel
theorem dX9_looksAt_66 : decode cX9_looksAt 66 = .ok (.iastore, 1) := by decide +kernel
theorem dX9_looksAt_67 : decode cX9_looksAt 67 = .ok (.aload_n 0, 1) := by decide +kernel
theorem dX9_looksAt_68 : decode cX9_looksAt 68 = .ok (.bipush (-9), 2) := by decide +kernel
theorem dX9_looksAt_70 : decode cX9_looksAt 70 = .ok (.putfield 151, 3) := by decide +kernel
theorem dX9_looksAt_73 : decode cX9_looksAt 73 = .ok (.return_, 1) := by decide +kernel
theorem dX9_starts_0 : decode cX9_starts 0 = .ok (.aload_n 0, 1) := by decide +kernel
theorem dX9_starts_1 : decode cX9_starts 1 = .ok (.iload_n 1, 1) := by decide +kernel
theorem dX9_starts_2 : decode cX9_starts 2 = .ok (.putfield 154, 3) := by decide +kernel
theorem dX9_starts_5 : decode cX9_starts 5 = .ok (.aload_n 0, 1) := by decide +kernel
theorem dX9_starts_6 : decode cX9_starts 6 = .ok (.iload_n 2, 1) := by decide +kernel
theorem dX9_starts_7 : decode cX9_starts 7 = .ok (.putfield 157, 3) := by decide +kernel
theorem dX9_starts_10 : decode cX9_starts 10 = .ok (.aload_n 0, 1) := by decide +kernel
theorem dX9_starts_11 : decode cX9_starts 11 = .ok (.iconst 0, 1) := by decide +kernel
theorem dX9_starts_12 : decode cX9_starts 12 = .ok (.putfield 160, 3) := by decide +kernel
theorem dX9_starts_15 : decode cX9_starts 15 = .ok (.aload_n 0, 1) := by decide +kernel
theorem dX9_starts_16 : decode cX9_starts 16 = .ok (.iconst 0, 1) := by decide +kernel
theorem dX9_starts_17 : decode cX9_starts 17 = .ok (.putfield 163, 3) := by decide +kernel
theorem dX9_starts_20 : decode cX9_starts 20 = .ok (.aload_n 0, 1) := by decide +kernel
theorem dX9_starts_21 : decode cX9_starts 21 = .ok (.iconst 0, 1) := by decide +kernel
theorem dX9_starts_22 : decode cX9_starts 22 = .ok (.putfield 166, 3) := by decide +kernel
theorem dX9_starts_25 : decode cX9_starts 25 = .ok (.return_, 1) := by decide +kernel
theorem dX9_gain_0 : decode cX9_gain 0 = .ok (.aload_n 0, 1) := by decide +kernel
theorem dX9_gain_1 : decode cX9_gain 1 = .ok (.getfield 148, 3) := by decide +kernel
theorem dX9_gain_4 : decode cX9_gain 4 = .ok (.aload_n 0, 1) := by decide +kernel
theorem dX9_gain_5 : decode cX9_gain 5 = .ok (.getfield 48, 3) := by decide +kernel
theorem dX9_gain_8 : decode cX9_gain 8 = .ok (.iconst 3, 1) := by decide +kernel
theorem dX9_gain_9 : decode cX9_gain 9 = .ok (.iaload, 1) := by decide +kernel
theorem dX9_gain_10 : decode cX9_gain 10 = .ok (.imul, 1) := by decide +kernel
theorem dX9_gain_11 : decode cX9_gain 11 = .ok (.bipush 10, 2) := by decide +kernel
theorem dX9_gain_13 : decode cX9_gain 13 = .ok (.idiv, 1) := by decide +kernel
theorem dX9_gain_14 : decode cX9_gain 14 = .ok (.aload_n 0, 1) := by decide +kernel
theorem dX9_gain_15 : decode cX9_gain 15 = .ok (.getfield 48, 3) := by decide +kernel
theorem dX9_gain_18 : decode cX9_gain 18 = .ok (.iconst 4, 1) := by decide +kernel
theorem dX9_gain_19 : decode cX9_gain 19 = .ok (.aload_n 0, 1) := by decide +kernel
theorem dX9_gain_20 : decode cX9_gain 20 = .ok (.getfield 157, 3) := by decide +kernel
theorem dX9_gain_23 : decode cX9_gain 23 = .ok (.iadd, 1) := by decide +kernel
theorem dX9_gain_24 : decode cX9_gain 24 = .ok (.iaload, 1) := by decide +kernel
theorem dX9_gain_25 : decode cX9_gain 25 = .ok (.iadd, 1) := by decide +kernel
theorem dX9_gain_26 : decode cX9_gain 26 = .ok (.aload_n 0, 1) := by decide +kernel
theorem dX9_gain_27 : decode cX9_gain 27 = .ok (.getfield 51, 3) := by decide +kernel
theorem dX9_gain_30 : decode cX9_gain 30 = .ok (.aload_n 0, 1) := by decide +kernel
theorem dX9_gain_31 : decode cX9_gain 31 = .ok (.getfield 157, 3) := by decide +kernel
theorem dX9_gain_34 : decode cX9_gain 34 = .ok (.iaload, 1) := by decide +kernel
theorem dX9_gain_35 : decode cX9_gain 35 = .ok (.iadd, 1) := by decide +kernel
theorem dX9_gain_36 : decode cX9_gain 36 = .ok (.ireturn, 1) := by decide +kernel
theorem dX9_fallsAt_0 : decode cX9_fallsAt 0 = .ok (.bipush 20, 2) := by decide +kernel
theorem dX9_fallsAt_2 : decode cX9_fallsAt 2 = .ok (.bipush 8, 2) := by decide +kernel
theorem dX9_fallsAt_4 : decode cX9_fallsAt 4 = .ok (.aload_n 0, 1) := by decide +kernel
theorem dX9_fallsAt_5 : decode cX9_fallsAt 5 = .ok (.getfield 48, 3) := by decide +kernel
theorem dX9_fallsAt_8 : decode cX9_fallsAt 8 = .ok (.iconst 0, 1) := by decide +kernel
theorem dX9_fallsAt_9 : decode cX9_fallsAt 9 = .ok (.iaload, 1) := by decide +kernel
theorem dX9_fallsAt_10 : decode cX9_fallsAt 10 = .ok (.imul, 1) := by decide +kernel
theorem dX9_fallsAt_11 : decode cX9_fallsAt 11 = .ok (.iadd, 1) := by decide +kernel
theorem dX9_fallsAt_12 : decode cX9_fallsAt 12 = .ok (.ireturn, 1) := by decide +kernel
theorem dX9_step_0 : decode cX9_step 0 = .ok (.aload_n 0, 1) := by decide +kernel
theorem dX9_step_1 : decode cX9_step 1 = .ok (.getfield 154, 3) := by decide +kernel
theorem dX9_step_4 : decode cX9_step 4 = .ok (.aload_n 0, 1) := by decide +kernel
theorem dX9_step_5 : decode cX9_step 5 = .ok (.getfield 154, 3) := by decide +kernel
theorem dX9_step_8 : decode cX9_step 8 = .ok (.imul, 1) := by decide +kernel
theorem dX9_step_9 : decode cX9_step 9 = .ok (.bipush 8, 2) := by decide +kernel
theorem dX9_step_11 : decode cX9_step 11 = .ok (.iconst 2, 1) := by decide +kernel
theorem dX9_step_12 : decode cX9_step 12 = .ok (.aload_n 0, 1) := by decide +kernel
theorem dX9_step_13 : decode cX9_step 13 = .ok (.getfield 48, 3) := by decide +kernel
theorem dX9_step_16 : decode cX9_step 16 = .ok (.iconst 1, 1) := by decide +kernel
theorem dX9_step_17 : decode cX9_step 17 = .ok (.iaload, 1) := by decide +kernel
theorem dX9_step_18 : decode cX9_step 18 = .ok (.imul, 1) := by decide +kernel
theorem dX9_step_19 : decode cX9_step 19 = .ok (.iadd, 1) := by decide +kernel
theorem dX9_step_20 : decode cX9_step 20 = .ok (.aload_n 0, 1) := by decide +kernel
theorem dX9_step_21 : decode cX9_step 21 = .ok (.getfield 48, 3) := by decide +kernel
theorem dX9_step_24 : decode cX9_step 24 = .ok (.iconst 2, 1) := by decide +kernel
theorem dX9_step_25 : decode cX9_step 25 = .ok (.iaload, 1) := by decide +kernel
theorem dX9_step_26 : decode cX9_step 26 = .ok (.isub, 1) := by decide +kernel
theorem dX9_step_27 : decode cX9_step 27 = .ok (.idiv, 1) := by decide +kernel
theorem dX9_step_28 : decode cX9_step 28 = .ok (.istore_n 2, 1) := by decide +kernel
theorem dX9_step_29 : decode cX9_step 29 = .ok (.aload_n 0, 1) := by decide +kernel
theorem dX9_step_30 : decode cX9_step 30 = .ok (.getfield 154, 3) := by decide +kernel
theorem dX9_step_33 : decode cX9_step 33 = .ok (.aload_n 0, 1) := by decide +kernel
theorem dX9_step_34 : decode cX9_step 34 = .ok (.invokevirtual 169, 3) := by decide +kernel
theorem dX9_step_37 : decode cX9_step 37 = .ok (.iadd, 1) := by decide +kernel
theorem dX9_step_38 : decode cX9_step 38 = .ok (.iload_n 2, 1) := by decide +kernel
theorem dX9_step_39 : decode cX9_step 39 = .ok (.isub, 1) := by decide +kernel
theorem dX9_step_40 : decode cX9_step 40 = .ok (.aload_n 0, 1) := by decide +kernel
theorem dX9_step_41 : decode cX9_step 41 = .ok (.getfield 145, 3) := by decide +kernel
theorem dX9_step_44 : decode cX9_step 44 = .ok (.isub, 1) := by decide +kernel
theorem dX9_step_45 : decode cX9_step 45 = .ok (.iload_n 1, 1) := by decide +kernel
theorem dX9_step_46 : decode cX9_step 46 = .ok (.isub, 1) := by decide +kernel
theorem dX9_step_47 : decode cX9_step 47 = .ok (.istore_n 3, 1) := by decide +kernel
theorem dX9_step_48 : decode cX9_step 48 = .ok (.aload_n 0, 1) := by decide +kernel
theorem dX9_step_49 : decode cX9_step 49 = .ok (.dup, 1) := by decide +kernel
theorem dX9_step_50 : decode cX9_step 50 = .ok (.getfield 163, 3) := by decide +kernel
theorem dX9_step_53 : decode cX9_step 53 = .ok (.iload_n 2, 1) := by decide +kernel
theorem dX9_step_54 : decode cX9_step 54 = .ok (.iadd, 1) := by decide +kernel
theorem dX9_step_55 : decode cX9_step 55 = .ok (.putfield 163, 3) := by decide +kernel
theorem dX9_step_58 : decode cX9_step 58 = .ok (.iload_n 3, 1) := by decide +kernel
theorem dX9_step_59 : decode cX9_step 59 = .ok (.iconst 3, 1) := by decide +kernel
theorem dX9_step_60 : decode cX9_step 60 = .ok (.if_icmp .ge 16, 3) := by decide +kernel
theorem dX9_step_63 : decode cX9_step 63 = .ok (.aload_n 0, 1) := by decide +kernel
theorem dX9_step_64 : decode cX9_step 64 = .ok (.iconst 1, 1) := by decide +kernel
theorem dX9_step_65 : decode cX9_step 65 = .ok (.putfield 160, 3) := by decide +kernel
theorem dX9_step_68 : decode cX9_step 68 = .ok (.aload_n 0, 1) := by decide +kernel
theorem dX9_step_69 : decode cX9_step 69 = .ok (.iconst 0, 1) := by decide +kernel
theorem dX9_step_70 : decode cX9_step 70 = .ok (.putfield 154, 3) := by decide +kernel
theorem dX9_step_73 : decode cX9_step 73 = .ok (.goto 34, 3) := by decide +kernel
theorem dX9_step_76 : decode cX9_step 76 = .ok (.aload_n 0, 1) := by decide +kernel
theorem dX9_step_77 : decode cX9_step 77 = .ok (.iload_n 3, 1) := by decide +kernel
theorem dX9_step_78 : decode cX9_step 78 = .ok (.putfield 154, 3) := by decide +kernel
theorem dX9_step_81 : decode cX9_step 81 = .ok (.iload_n 3, 1) := by decide +kernel
theorem dX9_step_82 : decode cX9_step 82 = .ok (.aload_n 0, 1) := by decide +kernel
theorem dX9_step_83 : decode cX9_step 83 = .ok (.invokevirtual 173, 3) := by decide +kernel
theorem dX9_step_86 : decode cX9_step 86 = .ok (.if_icmp .le 11, 3) := by decide +kernel
theorem dX9_step_89 : decode cX9_step 89 = .ok (.aload_n 0, 1) := by decide +kernel
theorem dX9_step_90 : decode cX9_step 90 = .ok (.iconst 2, 1) := by decide +kernel
theorem dX9_step_91 : decode cX9_step 91 = .ok (.putfield 160, 3) := by decide +kernel
theorem dX9_step_94 : decode cX9_step 94 = .ok (.goto 13, 3) := by decide +kernel
theorem dX9_step_97 : decode cX9_step 97 = .ok (.aload_n 0, 1) := by decide +kernel
theorem dX9_step_98 : decode cX9_step 98 = .ok (.iconst 1, 1) := by decide +kernel
theorem dX9_step_99 : decode cX9_step 99 = .ok (.aload_n 0, 1) := by decide +kernel
theorem dX9_step_100 : decode cX9_step 100 = .ok (.getfield 157, 3) := by decide +kernel
theorem dX9_step_103 : decode cX9_step 103 = .ok (.isub, 1) := by decide +kernel
theorem dX9_step_104 : decode cX9_step 104 = .ok (.putfield 157, 3) := by decide +kernel
theorem dX9_step_107 : decode cX9_step 107 = .ok (.aload_n 0, 1) := by decide +kernel
theorem dX9_step_108 : decode cX9_step 108 = .ok (.dup, 1) := by decide +kernel
theorem dX9_step_109 : decode cX9_step 109 = .ok (.getfield 166, 3) := by decide +kernel
theorem dX9_step_112 : decode cX9_step 112 = .ok (.aload_n 0, 1) := by decide +kernel
theorem dX9_step_113 : decode cX9_step 113 = .ok (.getfield 48, 3) := by decide +kernel
theorem dX9_step_116 : decode cX9_step 116 = .ok (.iconst 3, 1) := by decide +kernel
theorem dX9_step_117 : decode cX9_step 117 = .ok (.iaload, 1) := by decide +kernel
theorem dX9_step_118 : decode cX9_step 118 = .ok (.aload_n 0, 1) := by decide +kernel
theorem dX9_step_119 : decode cX9_step 119 = .ok (.getfield 154, 3) := by decide +kernel
theorem dX9_step_122 : decode cX9_step 122 = .ok (.bipush 10, 2) := by decide +kernel
theorem dX9_step_124 : decode cX9_step 124 = .ok (.idiv, 1) := by decide +kernel
theorem dX9_step_125 : decode cX9_step 125 = .ok (.iadd, 1) := by decide +kernel
theorem dX9_step_126 : decode cX9_step 126 = .ok (.iadd, 1) := by decide +kernel
theorem dX9_step_127 : decode cX9_step 127 = .ok (.putfield 166, 3) := by decide +kernel
theorem dX9_step_130 : decode cX9_step 130 = .ok (.return_, 1) := by decide +kernel
theorem dX9_steps_0 : decode cX9_steps 0 = .ok (.aload_n 0, 1) := by decide +kernel
theorem dX9_steps_1 : decode cX9_steps 1 = .ok (.iload_n 1, 1) := by decide +kernel
theorem dX9_steps_2 : decode cX9_steps 2 = .ok (.aload_n 0, 1) := by decide +kernel
theorem dX9_steps_3 : decode cX9_steps 3 = .ok (.getfield 151, 3) := by decide +kernel
theorem dX9_steps_6 : decode cX9_steps 6 = .ok (.if_icmp .ne 10, 3) := by decide +kernel
theorem dX9_steps_9 : decode cX9_steps 9 = .ok (.aload_n 0, 1) := by decide +kernel
theorem dX9_steps_10 : decode cX9_steps 10 = .ok (.getfield 176, 3) := by decide +kernel
theorem dX9_steps_13 : decode cX9_steps 13 = .ok (.goto 4, 3) := by decide +kernel
theorem dX9_steps_16 : decode cX9_steps 16 = .ok (.iconst 0, 1) := by decide +kernel
theorem dX9_steps_17 : decode cX9_steps 17 = .ok (.invokevirtual 179, 3) := by decide +kernel
theorem dX9_steps_20 : decode cX9_steps 20 = .ok (.return_, 1) := by decide +kernel
theorem dX9_copyWalk_0 : decode cX9_copyWalk 0 = .ok (.iconst 0, 1) := by decide +kernel
theorem dX9_copyWalk_1 : decode cX9_copyWalk 1 = .ok (.istore_n 3, 1) := by decide +kernel
theorem dX9_copyWalk_2 : decode cX9_copyWalk 2 = .ok (.iload_n 3, 1) := by decide +kernel
theorem dX9_copyWalk_3 : decode cX9_copyWalk 3 = .ok (.bipush 114, 2) := by decide +kernel
theorem dX9_copyWalk_5 : decode cX9_copyWalk 5 = .ok (.if_icmp .ge 31, 3) := by decide +kernel
theorem dX9_copyWalk_8 : decode cX9_copyWalk 8 = .ok (.aload_n 0, 1) := by decide +kernel
theorem dX9_copyWalk_9 : decode cX9_copyWalk 9 = .ok (.getfield 57, 3) := by decide +kernel
theorem dX9_copyWalk_12 : decode cX9_copyWalk 12 = .ok (.bipush 114, 2) := by decide +kernel
theorem dX9_copyWalk_14 : decode cX9_copyWalk 14 = .ok (.iload_n 2, 1) := by decide +kernel
theorem dX9_copyWalk_15 : decode cX9_copyWalk 15 = .ok (.imul, 1) := by decide +kernel
theorem dX9_copyWalk_16 : decode cX9_copyWalk 16 = .ok (.iload_n 3, 1) := by decide +kernel
theorem dX9_copyWalk_17 : decode cX9_copyWalk 17 = .ok (.iadd, 1) := by decide +kernel
theorem dX9_copyWalk_18 : decode cX9_copyWalk 18 = .ok (.aload_n 0, 1) := by decide +kernel
theorem dX9_copyWalk_19 : decode cX9_copyWalk 19 = .ok (.getfield 57, 3) := by decide +kernel
theorem dX9_copyWalk_22 : decode cX9_copyWalk 22 = .ok (.bipush 114, 2) := by decide +kernel
theorem dX9_copyWalk_24 : decode cX9_copyWalk 24 = .ok (.iload_n 1, 1) := by decide +kernel
theorem dX9_copyWalk_25 : decode cX9_copyWalk 25 = .ok (.imul, 1) := by decide +kernel
theorem dX9_copyWalk_26 : decode cX9_copyWalk 26 = .ok (.iload_n 3, 1) := by decide +kernel
theorem dX9_copyWalk_27 : decode cX9_copyWalk 27 = .ok (.iadd, 1) := by decide +kernel
theorem dX9_copyWalk_28 : decode cX9_copyWalk 28 = .ok (.iaload, 1) := by decide +kernel
theorem dX9_copyWalk_29 : decode cX9_copyWalk 29 = .ok (.iastore, 1) := by decide +kernel
theorem dX9_copyWalk_30 : decode cX9_copyWalk 30 = .ok (.iinc 3 1, 3) := by decide +kernel
theorem dX9_copyWalk_33 : decode cX9_copyWalk 33 = .ok (.goto (-31), 3) := by decide +kernel
theorem dX9_copyWalk_36 : decode cX9_copyWalk 36 = .ok (.return_, 1) := by decide +kernel
theorem dX9_layWalk_0 : decode cX9_layWalk 0 = .ok (.iconst 0, 1) := by decide +kernel
theorem dX9_layWalk_1 : decode cX9_layWalk 1 = .ok (.istore_n 1, 1) := by decide +kernel
theorem dX9_layWalk_2 : decode cX9_layWalk 2 = .ok (.iload_n 1, 1) := by decide +kernel
theorem dX9_layWalk_3 : decode cX9_layWalk 3 = .ok (.bipush 6, 2) := by decide +kernel
theorem dX9_layWalk_5 : decode cX9_layWalk 5 = .ok (.if_icmp .ge 21, 3) := by decide +kernel
theorem dX9_layWalk_8 : decode cX9_layWalk 8 = .ok (.aload_n 0, 1) := by decide +kernel
theorem dX9_layWalk_9 : decode cX9_layWalk 9 = .ok (.getfield 48, 3) := by decide +kernel
theorem dX9_layWalk_12 : decode cX9_layWalk 12 = .ok (.iload_n 1, 1) := by decide +kernel
theorem dX9_layWalk_13 : decode cX9_layWalk 13 = .ok (.aload_n 0, 1) := by decide +kernel
theorem dX9_layWalk_14 : decode cX9_layWalk 14 = .ok (.getfield 57, 3) := by decide +kernel
theorem dX9_layWalk_17 : decode cX9_layWalk 17 = .ok (.iload_n 1, 1) := by decide +kernel
theorem dX9_layWalk_18 : decode cX9_layWalk 18 = .ok (.iaload, 1) := by decide +kernel
theorem dX9_layWalk_19 : decode cX9_layWalk 19 = .ok (.iastore, 1) := by decide +kernel
theorem dX9_layWalk_20 : decode cX9_layWalk 20 = .ok (.iinc 1 1, 3) := by decide +kernel
theorem dX9_layWalk_23 : decode cX9_layWalk 23 = .ok (.goto (-21), 3) := by decide +kernel
theorem dX9_layWalk_26 : decode cX9_layWalk 26 = .ok (.aload_n 0, 1) := by decide +kernel
theorem dX9_layWalk_27 : decode cX9_layWalk 27 = .ok (.aload_n 0, 1) := by decide +kernel
theorem dX9_layWalk_28 : decode cX9_layWalk 28 = .ok (.getfield 57, 3) := by decide +kernel
theorem dX9_layWalk_31 : decode cX9_layWalk 31 = .ok (.bipush 13, 2) := by decide +kernel
theorem dX9_layWalk_33 : decode cX9_layWalk 33 = .ok (.iaload, 1) := by decide +kernel
theorem dX9_layWalk_34 : decode cX9_layWalk 34 = .ok (.putfield 145, 3) := by decide +kernel
theorem dX9_layWalk_37 : decode cX9_layWalk 37 = .ok (.aload_n 0, 1) := by decide +kernel
theorem dX9_layWalk_38 : decode cX9_layWalk 38 = .ok (.aload_n 0, 1) := by decide +kernel
theorem dX9_layWalk_39 : decode cX9_layWalk 39 = .ok (.getfield 57, 3) := by decide +kernel
theorem dX9_layWalk_42 : decode cX9_layWalk 42 = .ok (.bipush 6, 2) := by decide +kernel
theorem dX9_layWalk_44 : decode cX9_layWalk 44 = .ok (.iaload, 1) := by decide +kernel
theorem dX9_layWalk_45 : decode cX9_layWalk 45 = .ok (.putfield 148, 3) := by decide +kernel
theorem dX9_layWalk_48 : decode cX9_layWalk 48 = .ok (.aload_n 0, 1) := by decide +kernel
theorem dX9_layWalk_49 : decode cX9_layWalk 49 = .ok (.getfield 51, 3) := by decide +kernel
theorem dX9_layWalk_52 : decode cX9_layWalk 52 = .ok (.iconst 0, 1) := by decide +kernel
theorem dX9_layWalk_53 : decode cX9_layWalk 53 = .ok (.iconst 0, 1) := by decide +kernel
theorem dX9_layWalk_54 : decode cX9_layWalk 54 = .ok (.iastore, 1) := by decide +kernel
theorem dX9_layWalk_55 : decode cX9_layWalk 55 = .ok (.aload_n 0, 1) := by decide +kernel
theorem dX9_layWalk_56 : decode cX9_layWalk 56 = .ok (.getfield 51, 3) := by decide +kernel
theorem dX9_layWalk_59 : decode cX9_layWalk 59 = .ok (.iconst 1, 1) := by decide +kernel
theorem dX9_layWalk_60 : decode cX9_layWalk 60 = .ok (.iconst 0, 1) := by decide +kernel
theorem dX9_layWalk_61 : decode cX9_layWalk 61 = .ok (.iastore, 1) := by decide +kernel
theorem dX9_layWalk_62 : decode cX9_layWalk 62 = .ok (.aload_n 0, 1) := by decide +kernel
theorem dX9_layWalk_63 : decode cX9_layWalk 63 = .ok (.bipush (-9), 2) := by decide +kernel
theorem dX9_layWalk_65 : decode cX9_layWalk 65 = .ok (.putfield 151, 3) := by decide +kernel
theorem dX9_layWalk_68 : decode cX9_layWalk 68 = .ok (.aload_n 0, 1) := by decide +kernel
theorem dX9_layWalk_69 : decode cX9_layWalk 69 = .ok (.aload_n 0, 1) := by decide +kernel
theorem dX9_layWalk_70 : decode cX9_layWalk 70 = .ok (.getfield 57, 3) := by decide +kernel
theorem dX9_layWalk_73 : decode cX9_layWalk 73 = .ok (.bipush 7, 2) := by decide +kernel
theorem dX9_layWalk_75 : decode cX9_layWalk 75 = .ok (.iaload, 1) := by decide +kernel
theorem dX9_layWalk_76 : decode cX9_layWalk 76 = .ok (.putfield 154, 3) := by decide +kernel
theorem dX9_layWalk_79 : decode cX9_layWalk 79 = .ok (.aload_n 0, 1) := by decide +kernel
theorem dX9_layWalk_80 : decode cX9_layWalk 80 = .ok (.aload_n 0, 1) := by decide +kernel
theorem dX9_layWalk_81 : decode cX9_layWalk 81 = .ok (.getfield 57, 3) := by decide +kernel
theorem dX9_layWalk_84 : decode cX9_layWalk 84 = .ok (.bipush 8, 2) := by decide +kernel
theorem dX9_layWalk_86 : decode cX9_layWalk 86 = .ok (.iaload, 1) := by decide +kernel
theorem dX9_layWalk_87 : decode cX9_layWalk 87 = .ok (.putfield 157, 3) := by decide +kernel
theorem dX9_layWalk_90 : decode cX9_layWalk 90 = .ok (.aload_n 0, 1) := by decide +kernel
theorem dX9_layWalk_91 : decode cX9_layWalk 91 = .ok (.aload_n 0, 1) := by decide +kernel
theorem dX9_layWalk_92 : decode cX9_layWalk 92 = .ok (.getfield 57, 3) := by decide +kernel
theorem dX9_layWalk_95 : decode cX9_layWalk 95 = .ok (.bipush 10, 2) := by decide +kernel
theorem dX9_layWalk_97 : decode cX9_layWalk 97 = .ok (.iaload, 1) := by decide +kernel
theorem dX9_layWalk_98 : decode cX9_layWalk 98 = .ok (.putfield 160, 3) := by decide +kernel
theorem dX9_layWalk_101 : decode cX9_layWalk 101 = .ok (.aload_n 0, 1) := by decide +kernel
theorem dX9_layWalk_102 : decode cX9_layWalk 102 = .ok (.aload_n 0, 1) := by decide +kernel
theorem dX9_layWalk_103 : decode cX9_layWalk 103 = .ok (.getfield 57, 3) := by decide +kernel
theorem dX9_layWalk_106 : decode cX9_layWalk 106 = .ok (.bipush 11, 2) := by decide +kernel
theorem dX9_layWalk_108 : decode cX9_layWalk 108 = .ok (.iaload, 1) := by decide +kernel
theorem dX9_layWalk_109 : decode cX9_layWalk 109 = .ok (.putfield 163, 3) := by decide +kernel
theorem dX9_layWalk_112 : decode cX9_layWalk 112 = .ok (.aload_n 0, 1) := by decide +kernel
theorem dX9_layWalk_113 : decode cX9_layWalk 113 = .ok (.aload_n 0, 1) := by decide +kernel
theorem dX9_layWalk_114 : decode cX9_layWalk 114 = .ok (.getfield 57, 3) := by decide +kernel
theorem dX9_layWalk_117 : decode cX9_layWalk 117 = .ok (.bipush 12, 2) := by decide +kernel
theorem dX9_layWalk_119 : decode cX9_layWalk 119 = .ok (.iaload, 1) := by decide +kernel
theorem dX9_layWalk_120 : decode cX9_layWalk 120 = .ok (.putfield 166, 3) := by decide +kernel
theorem dX9_layWalk_123 : decode cX9_layWalk 123 = .ok (.return_, 1) := by decide +kernel
theorem dX9_storeWalk_0 : decode cX9_storeWalk 0 = .ok (.aload_n 0, 1) := by decide +kernel
theorem dX9_storeWalk_1 : decode cX9_storeWalk 1 = .ok (.getfield 57, 3) := by decide +kernel
theorem dX9_storeWalk_4 : decode cX9_storeWalk 4 = .ok (.bipush 7, 2) := by decide +kernel
theorem dX9_storeWalk_6 : decode cX9_storeWalk 6 = .ok (.aload_n 0, 1) := by decide +kernel
theorem dX9_storeWalk_7 : decode cX9_storeWalk 7 = .ok (.getfield 154, 3) := by decide +kernel
theorem dX9_storeWalk_10 : decode cX9_storeWalk 10 = .ok (.iastore, 1) := by decide +kernel
theorem dX9_storeWalk_11 : decode cX9_storeWalk 11 = .ok (.aload_n 0, 1) := by decide +kernel
theorem dX9_storeWalk_12 : decode cX9_storeWalk 12 = .ok (.getfield 57, 3) := by decide +kernel
theorem dX9_storeWalk_15 : decode cX9_storeWalk 15 = .ok (.bipush 8, 2) := by decide +kernel
theorem dX9_storeWalk_17 : decode cX9_storeWalk 17 = .ok (.aload_n 0, 1) := by decide +kernel
theorem dX9_storeWalk_18 : decode cX9_storeWalk 18 = .ok (.getfield 157, 3) := by decide +kernel
theorem dX9_storeWalk_21 : decode cX9_storeWalk 21 = .ok (.iastore, 1) := by decide +kernel
theorem dX9_storeWalk_22 : decode cX9_storeWalk 22 = .ok (.aload_n 0, 1) := by decide +kernel
theorem dX9_storeWalk_23 : decode cX9_storeWalk 23 = .ok (.getfield 57, 3) := by decide +kernel
theorem dX9_storeWalk_26 : decode cX9_storeWalk 26 = .ok (.bipush 10, 2) := by decide +kernel
theorem dX9_storeWalk_28 : decode cX9_storeWalk 28 = .ok (.aload_n 0, 1) := by decide +kernel
theorem dX9_storeWalk_29 : decode cX9_storeWalk 29 = .ok (.getfield 160, 3) := by decide +kernel
theorem dX9_storeWalk_32 : decode cX9_storeWalk 32 = .ok (.iastore, 1) := by decide +kernel
theorem dX9_storeWalk_33 : decode cX9_storeWalk 33 = .ok (.aload_n 0, 1) := by decide +kernel
theorem dX9_storeWalk_34 : decode cX9_storeWalk 34 = .ok (.getfield 57, 3) := by decide +kernel
theorem dX9_storeWalk_37 : decode cX9_storeWalk 37 = .ok (.bipush 11, 2) := by decide +kernel
theorem dX9_storeWalk_39 : decode cX9_storeWalk 39 = .ok (.aload_n 0, 1) := by decide +kernel
theorem dX9_storeWalk_40 : decode cX9_storeWalk 40 = .ok (.getfield 163, 3) := by decide +kernel
theorem dX9_storeWalk_43 : decode cX9_storeWalk 43 = .ok (.iastore, 1) := by decide +kernel
theorem dX9_storeWalk_44 : decode cX9_storeWalk 44 = .ok (.aload_n 0, 1) := by decide +kernel
theorem dX9_storeWalk_45 : decode cX9_storeWalk 45 = .ok (.getfield 57, 3) := by decide +kernel
theorem dX9_storeWalk_48 : decode cX9_storeWalk 48 = .ok (.bipush 12, 2) := by decide +kernel
theorem dX9_storeWalk_50 : decode cX9_storeWalk 50 = .ok (.aload_n 0, 1) := by decide +kernel
theorem dX9_storeWalk_51 : decode cX9_storeWalk 51 = .ok (.getfield 166, 3) := by decide +kernel
theorem dX9_storeWalk_54 : decode cX9_storeWalk 54 = .ok (.iastore, 1) := by decide +kernel
theorem dX9_storeWalk_55 : decode cX9_storeWalk 55 = .ok (.return_, 1) := by decide +kernel
theorem dX9_walk_0 : decode cX9_walk 0 = .ok (.iload_n 1, 1) := by decide +kernel
theorem dX9_walk_1 : decode cX9_walk 1 = .ok (.invokestatic 139, 3) := by decide +kernel
theorem dX9_walk_4 : decode cX9_walk 4 = .ok (.ifCond .eq 41, 3) := by decide +kernel
theorem dX9_walk_7 : decode cX9_walk 7 = .ok (.iload_n 2, 1) := by decide +kernel
theorem dX9_walk_8 : decode cX9_walk 8 = .ok (.invokestatic 139, 3) := by decide +kernel
theorem dX9_walk_11 : decode cX9_walk 11 = .ok (.ifCond .eq 34, 3) := by decide +kernel
theorem dX9_walk_14 : decode cX9_walk 14 = .ok (.iload_n 3, 1) := by decide +kernel
theorem dX9_walk_15 : decode cX9_walk 15 = .ok (.iconst 0, 1) := by decide +kernel
theorem dX9_walk_16 : decode cX9_walk 16 = .ok (.bipush 99, 2) := by decide +kernel
theorem dX9_walk_18 : decode cX9_walk 18 = .ok (.invokestatic 80, 3) := by decide +kernel
theorem dX9_walk_21 : decode cX9_walk 21 = .ok (.ifCond .eq 24, 3) := by decide +kernel
theorem dX9_walk_24 : decode cX9_walk 24 = .ok (.iload 4, 2) := by decide +kernel
theorem dX9_walk_26 : decode cX9_walk 26 = .ok (.iconst 0, 1) := by decide +kernel
theorem dX9_walk_27 : decode cX9_walk 27 = .ok (.bipush 99, 2) := by decide +kernel
theorem dX9_walk_29 : decode cX9_walk 29 = .ok (.invokestatic 80, 3) := by decide +kernel
theorem dX9_walk_32 : decode cX9_walk 32 = .ok (.ifCond .eq 13, 3) := by decide +kernel
theorem dX9_walk_35 : decode cX9_walk 35 = .ok (.iload 5, 2) := by decide +kernel
theorem dX9_walk_37 : decode cX9_walk 37 = .ok (.iconst 0, 1) := by decide +kernel
theorem dX9_walk_38 : decode cX9_walk 38 = .ok (.iconst 1, 1) := by decide +kernel
theorem dX9_walk_39 : decode cX9_walk 39 = .ok (.invokestatic 80, 3) := by decide +kernel
theorem dX9_walk_42 : decode cX9_walk 42 = .ok (.ifCond .ne 5, 3) := by decide +kernel
theorem dX9_walk_45 : decode cX9_walk 45 = .ok (.iconst (-1), 1) := by decide +kernel
theorem dX9_walk_46 : decode cX9_walk 46 = .ok (.ireturn, 1) := by decide +kernel
theorem dX9_walk_47 : decode cX9_walk 47 = .ok (.aload_n 0, 1) := by decide +kernel
theorem dX9_walk_48 : decode cX9_walk 48 = .ok (.getfield 29, 3) := by decide +kernel
theorem dX9_walk_51 : decode cX9_walk 51 = .ok (.iload_n 1, 1) := by decide +kernel
theorem dX9_walk_52 : decode cX9_walk 52 = .ok (.baload, 1) := by decide +kernel
theorem dX9_walk_53 : decode cX9_walk 53 = .ok (.ifCond .eq 12, 3) := by decide +kernel
theorem dX9_walk_56 : decode cX9_walk 56 = .ok (.aload_n 0, 1) := by decide +kernel
theorem dX9_walk_57 : decode cX9_walk 57 = .ok (.getfield 36, 3) := by decide +kernel
theorem dX9_walk_60 : decode cX9_walk 60 = .ok (.iload_n 2, 1) := by decide +kernel
theorem dX9_walk_61 : decode cX9_walk 61 = .ok (.baload, 1) := by decide +kernel
theorem dX9_walk_62 : decode cX9_walk 62 = .ok (.ifCond .ne 9, 3) := by decide +kernel
theorem dX9_walk_65 : decode cX9_walk 65 = .ok (.aload_n 0, 1) := by decide +kernel
theorem dX9_walk_66 : decode cX9_walk 66 = .ok (.iconst 1, 1) := by decide +kernel
theorem dX9_walk_67 : decode cX9_walk 67 = .ok (.invokevirtual 94, 3) := by decide +kernel
theorem dX9_walk_70 : decode cX9_walk 70 = .ok (.ireturn, 1) := by decide +kernel
theorem dX9_walk_71 : decode cX9_walk 71 = .ok (.iconst 0, 1) := by decide +kernel
theorem dX9_walk_72 : decode cX9_walk 72 = .ok (.istore 6, 2) := by decide +kernel
theorem dX9_walk_74 : decode cX9_walk 74 = .ok (.iload 6, 2) := by decide +kernel
theorem dX9_walk_76 : decode cX9_walk 76 = .ok (.bipush 6, 2) := by decide +kernel
theorem dX9_walk_78 : decode cX9_walk 78 = .ok (.if_icmp .ge 28, 3) := by decide +kernel
theorem dX9_walk_81 : decode cX9_walk 81 = .ok (.aload_n 0, 1) := by decide +kernel
theorem dX9_walk_82 : decode cX9_walk 82 = .ok (.getfield 57, 3) := by decide +kernel
theorem dX9_walk_85 : decode cX9_walk 85 = .ok (.iload 6, 2) := by decide +kernel
theorem dX9_walk_87 : decode cX9_walk 87 = .ok (.aload_n 0, 1) := by decide +kernel
theorem dX9_walk_88 : decode cX9_walk 88 = .ok (.getfield 33, 3) := by decide +kernel
theorem dX9_walk_91 : decode cX9_walk 91 = .ok (.bipush 7, 2) := by decide +kernel
theorem dX9_walk_93 : decode cX9_walk 93 = .ok (.iload_n 1, 1) := by decide +kernel
theorem dX9_walk_94 : decode cX9_walk 94 = .ok (.imul, 1) := by decide +kernel
theorem dX9_walk_95 : decode cX9_walk 95 = .ok (.iload 6, 2) := by decide +kernel
theorem dX9_walk_97 : decode cX9_walk 97 = .ok (.iadd, 1) := by decide +kernel
theorem dX9_walk_98 : decode cX9_walk 98 = .ok (.iaload, 1) := by decide +kernel
theorem dX9_walk_99 : decode cX9_walk 99 = .ok (.iastore, 1) := by decide +kernel
theorem dX9_walk_100 : decode cX9_walk 100 = .ok (.iinc 6 1, 3) := by decide +kernel
theorem dX9_walk_103 : decode cX9_walk 103 = .ok (.goto (-29), 3) := by decide +kernel
theorem dX9_walk_106 : decode cX9_walk 106 = .ok (.iconst 0, 1) := by decide +kernel
theorem dX9_walk_107 : decode cX9_walk 107 = .ok (.istore 6, 2) := by decide +kernel
theorem dX9_walk_109 : decode cX9_walk 109 = .ok (.iload 6, 2) := by decide +kernel
theorem dX9_walk_111 : decode cX9_walk 111 = .ok (.bipush 101, 2) := by decide +kernel
theorem dX9_walk_113 : decode cX9_walk 113 = .ok (.if_icmp .ge 31, 3) := by decide +kernel
theorem dX9_walk_116 : decode cX9_walk 116 = .ok (.aload_n 0, 1) := by decide +kernel
theorem dX9_walk_117 : decode cX9_walk 117 = .ok (.getfield 57, 3) := by decide +kernel
theorem dX9_walk_120 : decode cX9_walk 120 = .ok (.bipush 13, 2) := by decide +kernel
theorem dX9_walk_122 : decode cX9_walk 122 = .ok (.iload 6, 2) := by decide +kernel
theorem dX9_walk_124 : decode cX9_walk 124 = .ok (.iadd, 1) := by decide +kernel
theorem dX9_walk_125 : decode cX9_walk 125 = .ok (.aload_n 0, 1) := by decide +kernel
theorem dX9_walk_126 : decode cX9_walk 126 = .ok (.getfield 39, 3) := by decide +kernel
theorem dX9_walk_129 : decode cX9_walk 129 = .ok (.bipush 101, 2) := by decide +kernel
theorem dX9_walk_131 : decode cX9_walk 131 = .ok (.iload_n 2, 1) := by decide +kernel
theorem dX9_walk_132 : decode cX9_walk 132 = .ok (.imul, 1) := by decide +kernel
theorem dX9_walk_133 : decode cX9_walk 133 = .ok (.iload 6, 2) := by decide +kernel
theorem dX9_walk_135 : decode cX9_walk 135 = .ok (.iadd, 1) := by decide +kernel
theorem dX9_walk_136 : decode cX9_walk 136 = .ok (.iaload, 1) := by decide +kernel
theorem dX9_walk_137 : decode cX9_walk 137 = .ok (.iastore, 1) := by decide +kernel
theorem dX9_walk_138 : decode cX9_walk 138 = .ok (.iinc 6 1, 3) := by decide +kernel
theorem dX9_walk_141 : decode cX9_walk 141 = .ok (.goto (-32), 3) := by decide +kernel
theorem dX9_walk_144 : decode cX9_walk 144 = .ok (.aload_n 0, 1) := by decide +kernel
theorem dX9_walk_145 : decode cX9_walk 145 = .ok (.getfield 57, 3) := by decide +kernel
theorem dX9_walk_148 : decode cX9_walk 148 = .ok (.bipush 6, 2) := by decide +kernel
theorem dX9_walk_150 : decode cX9_walk 150 = .ok (.iload_n 3, 1) := by decide +kernel
theorem dX9_walk_151 : decode cX9_walk 151 = .ok (.iastore, 1) := by decide +kernel
theorem dX9_walk_152 : decode cX9_walk 152 = .ok (.aload_n 0, 1) := by decide +kernel
theorem dX9_walk_153 : decode cX9_walk 153 = .ok (.getfield 57, 3) := by decide +kernel
theorem dX9_walk_156 : decode cX9_walk 156 = .ok (.bipush 9, 2) := by decide +kernel
theorem dX9_walk_158 : decode cX9_walk 158 = .ok (.iconst 0, 1) := by decide +kernel
theorem dX9_walk_159 : decode cX9_walk 159 = .ok (.iastore, 1) := by decide +kernel
theorem dX9_walk_160 : decode cX9_walk 160 = .ok (.aload_n 0, 1) := by decide +kernel
theorem dX9_walk_161 : decode cX9_walk 161 = .ok (.iload 4, 2) := by decide +kernel
theorem dX9_walk_163 : decode cX9_walk 163 = .ok (.iload 5, 2) := by decide +kernel
theorem dX9_walk_165 : decode cX9_walk 165 = .ok (.invokevirtual 183, 3) := by decide +kernel
theorem dX9_walk_168 : decode cX9_walk 168 = .ok (.aload_n 0, 1) := by decide +kernel
theorem dX9_walk_169 : decode cX9_walk 169 = .ok (.invokevirtual 187, 3) := by decide +kernel
theorem dX9_walk_172 : decode cX9_walk 172 = .ok (.aload_n 0, 1) := by decide +kernel
theorem dX9_walk_173 : decode cX9_walk 173 = .ok (.getfield 54, 3) := by decide +kernel
theorem dX9_walk_176 : decode cX9_walk 176 = .ok (.iconst 0, 1) := by decide +kernel
theorem dX9_walk_177 : decode cX9_walk 177 = .ok (.iconst 1, 1) := by decide +kernel
theorem dX9_walk_178 : decode cX9_walk 178 = .ok (.bastore, 1) := by decide +kernel
theorem dX9_walk_179 : decode cX9_walk 179 = .ok (.aload_n 0, 1) := by decide +kernel
theorem dX9_walk_180 : decode cX9_walk 180 = .ok (.invokevirtual 190, 3) := by decide +kernel
theorem dX9_walk_183 : decode cX9_walk 183 = .ok (.aload_n 0, 1) := by decide +kernel
theorem dX9_walk_184 : decode cX9_walk 184 = .ok (.invokevirtual 169, 3) := by decide +kernel
theorem dX9_walk_187 : decode cX9_walk 187 = .ok (.ireturn, 1) := by decide +kernel
theorem dX9_walksOn_0 : decode cX9_walksOn 0 = .ok (.aload_n 0, 1) := by decide +kernel
theorem dX9_walksOn_1 : decode cX9_walksOn 1 = .ok (.getfield 160, 3) := by decide +kernel
theorem dX9_walksOn_4 : decode cX9_walksOn 4 = .ok (.ifCond .eq 5, 3) := by decide +kernel
theorem dX9_walksOn_7 : decode cX9_walksOn 7 = .ok (.iconst 0, 1) := by decide +kernel
theorem dX9_walksOn_8 : decode cX9_walksOn 8 = .ok (.ireturn, 1) := by decide +kernel
theorem dX9_walksOn_9 : decode cX9_walksOn 9 = .ok (.aload_n 0, 1) := by decide +kernel
theorem dX9_walksOn_10 : decode cX9_walksOn 10 = .ok (.getfield 57, 3) := by decide +kernel
theorem dX9_walksOn_13 : decode cX9_walksOn 13 = .ok (.bipush 9, 2) := by decide +kernel
theorem dX9_walksOn_15 : decode cX9_walksOn 15 = .ok (.iaload, 1) := by decide +kernel
theorem dX9_walksOn_16 : decode cX9_walksOn 16 = .ok (.istore_n 1, 1) := by decide +kernel
theorem dX9_walksOn_17 : decode cX9_walksOn 17 = .ok (.aload_n 0, 1) := by decide +kernel
theorem dX9_walksOn_18 : decode cX9_walksOn 18 = .ok (.iload_n 1, 1) := by decide +kernel
theorem dX9_walksOn_19 : decode cX9_walksOn 19 = .ok (.bipush 99, 2) := by decide +kernel
theorem dX9_walksOn_21 : decode cX9_walksOn 21 = .ok (.if_icmp .gt 15, 3) := by decide +kernel
theorem dX9_walksOn_24 : decode cX9_walksOn 24 = .ok (.aload_n 0, 1) := by decide +kernel
theorem dX9_walksOn_25 : decode cX9_walksOn 25 = .ok (.getfield 57, 3) := by decide +kernel
theorem dX9_walksOn_28 : decode cX9_walksOn 28 = .ok (.bipush 14, 2) := by decide +kernel
theorem dX9_walksOn_30 : decode cX9_walksOn 30 = .ok (.iload_n 1, 1) := by decide +kernel
theorem dX9_walksOn_31 : decode cX9_walksOn 31 = .ok (.iadd, 1) := by decide +kernel
theorem dX9_walksOn_32 : decode cX9_walksOn 32 = .ok (.iaload, 1) := by decide +kernel
theorem dX9_walksOn_33 : decode cX9_walksOn 33 = .ok (.goto 4, 3) := by decide +kernel
theorem dX9_walksOn_36 : decode cX9_walksOn 36 = .ok (.iconst 0, 1) := by decide +kernel
theorem dX9_walksOn_37 : decode cX9_walksOn 37 = .ok (.invokevirtual 179, 3) := by decide +kernel
theorem dX9_walksOn_40 : decode cX9_walksOn 40 = .ok (.aload_n 0, 1) := by decide +kernel
theorem dX9_walksOn_41 : decode cX9_walksOn 41 = .ok (.getfield 57, 3) := by decide +kernel
theorem dX9_walksOn_44 : decode cX9_walksOn 44 = .ok (.bipush 9, 2) := by decide +kernel
theorem dX9_walksOn_46 : decode cX9_walksOn 46 = .ok (.dup2, 1) := by decide +kernel
theorem dX9_walksOn_47 : decode cX9_walksOn 47 = .ok (.iaload, 1) := by decide +kernel
theorem dX9_walksOn_48 : decode cX9_walksOn 48 = .ok (.iconst 1, 1) := by decide +kernel
theorem dX9_walksOn_49 : decode cX9_walksOn 49 = .ok (.iadd, 1) := by decide +kernel
theorem dX9_walksOn_50 : decode cX9_walksOn 50 = .ok (.iastore, 1) := by decide +kernel
theorem dX9_walksOn_51 : decode cX9_walksOn 51 = .ok (.iconst 1, 1) := by decide +kernel
theorem dX9_walksOn_52 : decode cX9_walksOn 52 = .ok (.ireturn, 1) := by decide +kernel
theorem dX9_go_0 : decode cX9_go 0 = .ok (.iload_n 1, 1) := by decide +kernel
theorem dX9_go_1 : decode cX9_go 1 = .ok (.iconst 0, 1) := by decide +kernel
theorem dX9_go_2 : decode cX9_go 2 = .ok (.sipush 400, 3) := by decide +kernel
theorem dX9_go_5 : decode cX9_go 5 = .ok (.invokestatic 80, 3) := by decide +kernel
theorem dX9_go_8 : decode cX9_go 8 = .ok (.ifCond .ne 5, 3) := by decide +kernel
theorem dX9_go_11 : decode cX9_go 11 = .ok (.iconst (-1), 1) := by decide +kernel
theorem dX9_go_12 : decode cX9_go 12 = .ok (.ireturn, 1) := by decide +kernel
theorem dX9_go_13 : decode cX9_go 13 = .ok (.aload_n 0, 1) := by decide +kernel
theorem dX9_go_14 : decode cX9_go 14 = .ok (.getfield 54, 3) := by decide +kernel
theorem dX9_go_17 : decode cX9_go 17 = .ok (.iconst 0, 1) := by decide +kernel
theorem dX9_go_18 : decode cX9_go 18 = .ok (.baload, 1) := by decide +kernel
theorem dX9_go_19 : decode cX9_go 19 = .ok (.ifCond .ne 6, 3) := by decide +kernel
theorem dX9_go_22 : decode cX9_go 22 = .ok (.bipush (-4), 2) := by decide +kernel
theorem dX9_go_24 : decode cX9_go 24 = .ok (.ireturn, 1) := by decide +kernel
theorem dX9_go_25 : decode cX9_go 25 = .ok (.aload_n 0, 1) := by decide +kernel
theorem dX9_go_26 : decode cX9_go 26 = .ok (.getfield 57, 3) := by decide +kernel
theorem dX9_go_29 : decode cX9_go 29 = .ok (.bipush 9, 2) := by decide +kernel
theorem dX9_go_31 : decode cX9_go 31 = .ok (.iaload, 1) := by decide +kernel
theorem dX9_go_32 : decode cX9_go 32 = .ok (.iload_n 1, 1) := by decide +kernel
theorem dX9_go_33 : decode cX9_go 33 = .ok (.iadd, 1) := by decide +kernel
theorem dX9_go_34 : decode cX9_go 34 = .ok (.sipush 10000, 3) := by decide +kernel
theorem dX9_go_37 : decode cX9_go 37 = .ok (.if_icmp .le 6, 3) := by decide +kernel
theorem dX9_go_40 : decode cX9_go 40 = .ok (.bipush (-6), 2) := by decide +kernel
theorem dX9_go_42 : decode cX9_go 42 = .ok (.ireturn, 1) := by decide +kernel
theorem dX9_go_43 : decode cX9_go 43 = .ok (.aload_n 0, 1) := by decide +kernel
theorem dX9_go_44 : decode cX9_go 44 = .ok (.invokevirtual 190, 3) := by decide +kernel
theorem dX9_go_47 : decode cX9_go 47 = .ok (.iconst 0, 1) := by decide +kernel
theorem dX9_go_48 : decode cX9_go 48 = .ok (.istore_n 2, 1) := by decide +kernel
theorem dX9_go_49 : decode cX9_go 49 = .ok (.iload_n 2, 1) := by decide +kernel
theorem dX9_go_50 : decode cX9_go 50 = .ok (.iload_n 1, 1) := by decide +kernel
theorem dX9_go_51 : decode cX9_go 51 = .ok (.if_icmp .ge 16, 3) := by decide +kernel
theorem dX9_go_54 : decode cX9_go 54 = .ok (.aload_n 0, 1) := by decide +kernel
theorem dX9_go_55 : decode cX9_go 55 = .ok (.invokevirtual 193, 3) := by decide +kernel
theorem dX9_go_58 : decode cX9_go 58 = .ok (.ifCond .eq 9, 3) := by decide +kernel
theorem dX9_go_61 : decode cX9_go 61 = .ok (.iinc 2 1, 3) := by decide +kernel
theorem dX9_go_64 : decode cX9_go 64 = .ok (.goto (-15), 3) := by decide +kernel
theorem dX9_go_67 : decode cX9_go 67 = .ok (.aload_n 0, 1) := by decide +kernel
theorem dX9_go_68 : decode cX9_go 68 = .ok (.invokevirtual 187, 3) := by decide +kernel
theorem dX9_go_71 : decode cX9_go 71 = .ok (.iload_n 2, 1) := by decide +kernel
theorem dX9_go_72 : decode cX9_go 72 = .ok (.ireturn, 1) := by decide +kernel
theorem dX9_walkTells_0 : decode cX9_walkTells 0 = .ok (.iload_n 1, 1) := by decide +kernel
theorem dX9_walkTells_1 : decode cX9_walkTells 1 = .ok (.tableswitch 87 0 5 #[39, 47, 55, 63, 71, 79], 39) := by decide +kernel
theorem dX9_walkTells_40 : decode cX9_walkTells 40 = .ok (.aload_n 0, 1) := by decide +kernel
theorem dX9_walkTells_41 : decode cX9_walkTells 41 = .ok (.getfield 57, 3) := by decide +kernel
theorem dX9_walkTells_44 : decode cX9_walkTells 44 = .ok (.bipush 7, 2) := by decide +kernel
theorem dX9_walkTells_46 : decode cX9_walkTells 46 = .ok (.iaload, 1) := by decide +kernel
theorem dX9_walkTells_47 : decode cX9_walkTells 47 = .ok (.ireturn, 1) := by decide +kernel
theorem dX9_walkTells_48 : decode cX9_walkTells 48 = .ok (.aload_n 0, 1) := by decide +kernel
theorem dX9_walkTells_49 : decode cX9_walkTells 49 = .ok (.getfield 57, 3) := by decide +kernel
theorem dX9_walkTells_52 : decode cX9_walkTells 52 = .ok (.bipush 8, 2) := by decide +kernel
theorem dX9_walkTells_54 : decode cX9_walkTells 54 = .ok (.iaload, 1) := by decide +kernel
theorem dX9_walkTells_55 : decode cX9_walkTells 55 = .ok (.ireturn, 1) := by decide +kernel
theorem dX9_walkTells_56 : decode cX9_walkTells 56 = .ok (.aload_n 0, 1) := by decide +kernel
theorem dX9_walkTells_57 : decode cX9_walkTells 57 = .ok (.getfield 57, 3) := by decide +kernel
theorem dX9_walkTells_60 : decode cX9_walkTells 60 = .ok (.bipush 9, 2) := by decide +kernel
theorem dX9_walkTells_62 : decode cX9_walkTells 62 = .ok (.iaload, 1) := by decide +kernel
theorem dX9_walkTells_63 : decode cX9_walkTells 63 = .ok (.ireturn, 1) := by decide +kernel
theorem dX9_walkTells_64 : decode cX9_walkTells 64 = .ok (.aload_n 0, 1) := by decide +kernel
theorem dX9_walkTells_65 : decode cX9_walkTells 65 = .ok (.getfield 57, 3) := by decide +kernel
theorem dX9_walkTells_68 : decode cX9_walkTells 68 = .ok (.bipush 10, 2) := by decide +kernel
theorem dX9_walkTells_70 : decode cX9_walkTells 70 = .ok (.iaload, 1) := by decide +kernel
theorem dX9_walkTells_71 : decode cX9_walkTells 71 = .ok (.ireturn, 1) := by decide +kernel
theorem dX9_walkTells_72 : decode cX9_walkTells 72 = .ok (.aload_n 0, 1) := by decide +kernel
theorem dX9_walkTells_73 : decode cX9_walkTells 73 = .ok (.getfield 57, 3) := by decide +kernel
theorem dX9_walkTells_76 : decode cX9_walkTells 76 = .ok (.bipush 6, 2) := by decide +kernel
theorem dX9_walkTells_78 : decode cX9_walkTells 78 = .ok (.iaload, 1) := by decide +kernel
theorem dX9_walkTells_79 : decode cX9_walkTells 79 = .ok (.ireturn, 1) := by decide +kernel
theorem dX9_walkTells_80 : decode cX9_walkTells 80 = .ok (.aload_n 0, 1) := by decide +kernel
theorem dX9_walkTells_81 : decode cX9_walkTells 81 = .ok (.getfield 57, 3) := by decide +kernel
theorem dX9_walkTells_84 : decode cX9_walkTells 84 = .ok (.bipush 11, 2) := by decide +kernel
theorem dX9_walkTells_86 : decode cX9_walkTells 86 = .ok (.iaload, 1) := by decide +kernel
theorem dX9_walkTells_87 : decode cX9_walkTells 87 = .ok (.ireturn, 1) := by decide +kernel
theorem dX9_walkTells_88 : decode cX9_walkTells 88 = .ok (.aload_n 0, 1) := by decide +kernel
theorem dX9_walkTells_89 : decode cX9_walkTells 89 = .ok (.getfield 57, 3) := by decide +kernel
theorem dX9_walkTells_92 : decode cX9_walkTells 92 = .ok (.bipush 12, 2) := by decide +kernel
theorem dX9_walkTells_94 : decode cX9_walkTells 94 = .ok (.iaload, 1) := by decide +kernel
theorem dX9_walkTells_95 : decode cX9_walkTells 95 = .ok (.ireturn, 1) := by decide +kernel
theorem dX9_told_0 : decode cX9_told 0 = .ok (.iload_n 1, 1) := by decide +kernel
theorem dX9_told_1 : decode cX9_told 1 = .ok (.iconst 0, 1) := by decide +kernel
theorem dX9_told_2 : decode cX9_told 2 = .ok (.bipush 6, 2) := by decide +kernel
theorem dX9_told_4 : decode cX9_told 4 = .ok (.invokestatic 80, 3) := by decide +kernel
theorem dX9_told_7 : decode cX9_told 7 = .ok (.ifCond .ne 5, 3) := by decide +kernel
theorem dX9_told_10 : decode cX9_told 10 = .ok (.iconst (-1), 1) := by decide +kernel
theorem dX9_told_11 : decode cX9_told 11 = .ok (.ireturn, 1) := by decide +kernel
theorem dX9_told_12 : decode cX9_told 12 = .ok (.aload_n 0, 1) := by decide +kernel
theorem dX9_told_13 : decode cX9_told 13 = .ok (.getfield 54, 3) := by decide +kernel
theorem dX9_told_16 : decode cX9_told 16 = .ok (.iconst 0, 1) := by decide +kernel
theorem dX9_told_17 : decode cX9_told 17 = .ok (.baload, 1) := by decide +kernel
theorem dX9_told_18 : decode cX9_told 18 = .ok (.ifCond .eq 16, 3) := by decide +kernel
theorem dX9_told_21 : decode cX9_told 21 = .ok (.aload_n 0, 1) := by decide +kernel
theorem dX9_told_22 : decode cX9_told 22 = .ok (.aload_n 0, 1) := by decide +kernel
theorem dX9_told_23 : decode cX9_told 23 = .ok (.iload_n 1, 1) := by decide +kernel
theorem dX9_told_24 : decode cX9_told 24 = .ok (.invokevirtual 197, 3) := by decide +kernel
theorem dX9_told_27 : decode cX9_told 27 = .ok (.iconst 1, 1) := by decide +kernel
theorem dX9_told_28 : decode cX9_told 28 = .ok (.invokevirtual 102, 3) := by decide +kernel
theorem dX9_told_31 : decode cX9_told 31 = .ok (.goto 5, 3) := by decide +kernel
theorem dX9_told_34 : decode cX9_told 34 = .ok (.bipush (-4), 2) := by decide +kernel
theorem dX9_told_36 : decode cX9_told 36 = .ok (.ireturn, 1) := by decide +kernel
theorem dX9_tocks_0 : decode cX9_tocks 0 = .ok (.iload_n 1, 1) := by decide +kernel
theorem dX9_tocks_1 : decode cX9_tocks 1 = .ok (.iconst 0, 1) := by decide +kernel
theorem dX9_tocks_2 : decode cX9_tocks 2 = .ok (.bipush 60, 2) := by decide +kernel
theorem dX9_tocks_4 : decode cX9_tocks 4 = .ok (.invokestatic 80, 3) := by decide +kernel
theorem dX9_tocks_7 : decode cX9_tocks 7 = .ok (.ifCond .eq 10, 3) := by decide +kernel
theorem dX9_tocks_10 : decode cX9_tocks 10 = .ok (.iload_n 2, 1) := by decide +kernel
theorem dX9_tocks_11 : decode cX9_tocks 11 = .ok (.invokestatic 90, 3) := by decide +kernel
theorem dX9_tocks_14 : decode cX9_tocks 14 = .ok (.ifCond .ne 5, 3) := by decide +kernel
theorem dX9_tocks_17 : decode cX9_tocks 17 = .ok (.iconst (-1), 1) := by decide +kernel
theorem dX9_tocks_18 : decode cX9_tocks 18 = .ok (.ireturn, 1) := by decide +kernel
theorem dX9_tocks_19 : decode cX9_tocks 19 = .ok (.aload_n 0, 1) := by decide +kernel
theorem dX9_tocks_20 : decode cX9_tocks 20 = .ok (.getfield 54, 3) := by decide +kernel
theorem dX9_tocks_23 : decode cX9_tocks 23 = .ok (.iconst 0, 1) := by decide +kernel
theorem dX9_tocks_24 : decode cX9_tocks 24 = .ok (.baload, 1) := by decide +kernel
theorem dX9_tocks_25 : decode cX9_tocks 25 = .ok (.ifCond .ne 6, 3) := by decide +kernel
theorem dX9_tocks_28 : decode cX9_tocks 28 = .ok (.bipush (-4), 2) := by decide +kernel
theorem dX9_tocks_30 : decode cX9_tocks 30 = .ok (.ireturn, 1) := by decide +kernel
theorem dX9_tocks_31 : decode cX9_tocks 31 = .ok (.aload_n 0, 1) := by decide +kernel
theorem dX9_tocks_32 : decode cX9_tocks 32 = .ok (.getfield 57, 3) := by decide +kernel
theorem dX9_tocks_35 : decode cX9_tocks 35 = .ok (.bipush 9, 2) := by decide +kernel
theorem dX9_tocks_37 : decode cX9_tocks 37 = .ok (.iaload, 1) := by decide +kernel
theorem dX9_tocks_38 : decode cX9_tocks 38 = .ok (.iload_n 1, 1) := by decide +kernel
theorem dX9_tocks_39 : decode cX9_tocks 39 = .ok (.iadd, 1) := by decide +kernel
theorem dX9_tocks_40 : decode cX9_tocks 40 = .ok (.sipush 10000, 3) := by decide +kernel
theorem dX9_tocks_43 : decode cX9_tocks 43 = .ok (.if_icmp .le 6, 3) := by decide +kernel
theorem dX9_tocks_46 : decode cX9_tocks 46 = .ok (.bipush (-6), 2) := by decide +kernel
theorem dX9_tocks_48 : decode cX9_tocks 48 = .ok (.ireturn, 1) := by decide +kernel
theorem dX9_tocks_49 : decode cX9_tocks 49 = .ok (.aload_n 0, 1) := by decide +kernel
theorem dX9_tocks_50 : decode cX9_tocks 50 = .ok (.invokevirtual 190, 3) := by decide +kernel
theorem dX9_tocks_53 : decode cX9_tocks 53 = .ok (.aload_n 0, 1) := by decide +kernel
theorem dX9_tocks_54 : decode cX9_tocks 54 = .ok (.getfield 13, 3) := by decide +kernel
theorem dX9_tocks_57 : decode cX9_tocks 57 = .ok (.iload_n 2, 1) := by decide +kernel
theorem dX9_tocks_58 : decode cX9_tocks 58 = .ok (.iload_n 1, 1) := by decide +kernel
theorem dX9_tocks_59 : decode cX9_tocks 59 = .ok (.iastore, 1) := by decide +kernel
theorem dX9_tocks_60 : decode cX9_tocks 60 = .ok (.iconst 0, 1) := by decide +kernel
theorem dX9_tocks_61 : decode cX9_tocks 61 = .ok (.istore_n 3, 1) := by decide +kernel
theorem dX9_tocks_62 : decode cX9_tocks 62 = .ok (.iconst 0, 1) := by decide +kernel
theorem dX9_tocks_63 : decode cX9_tocks 63 = .ok (.istore 4, 2) := by decide +kernel
theorem dX9_tocks_65 : decode cX9_tocks 65 = .ok (.iload 4, 2) := by decide +kernel
theorem dX9_tocks_67 : decode cX9_tocks 67 = .ok (.bipush 60, 2) := by decide +kernel
theorem dX9_tocks_69 : decode cX9_tocks 69 = .ok (.if_icmp .ge 67, 3) := by decide +kernel
theorem dX9_tocks_72 : decode cX9_tocks 72 = .ok (.iload 4, 2) := by decide +kernel
theorem dX9_tocks_74 : decode cX9_tocks 74 = .ok (.iload_n 1, 1) := by decide +kernel
theorem dX9_tocks_75 : decode cX9_tocks 75 = .ok (.if_icmp .ge 14, 3) := by decide +kernel
theorem dX9_tocks_78 : decode cX9_tocks 78 = .ok (.aload_n 0, 1) := by decide +kernel
theorem dX9_tocks_79 : decode cX9_tocks 79 = .ok (.invokevirtual 193, 3) := by decide +kernel
theorem dX9_tocks_82 : decode cX9_tocks 82 = .ok (.ifCond .eq 7, 3) := by decide +kernel
theorem dX9_tocks_85 : decode cX9_tocks 85 = .ok (.iconst 1, 1) := by decide +kernel
theorem dX9_tocks_86 : decode cX9_tocks 86 = .ok (.goto 4, 3) := by decide +kernel
theorem dX9_tocks_89 : decode cX9_tocks 89 = .ok (.iconst 0, 1) := by decide +kernel
theorem dX9_tocks_90 : decode cX9_tocks 90 = .ok (.istore 5, 2) := by decide +kernel
theorem dX9_tocks_92 : decode cX9_tocks 92 = .ok (.aload_n 0, 1) := by decide +kernel
theorem dX9_tocks_93 : decode cX9_tocks 93 = .ok (.getfield 16, 3) := by decide +kernel
theorem dX9_tocks_96 : decode cX9_tocks 96 = .ok (.bipush 60, 2) := by decide +kernel
theorem dX9_tocks_98 : decode cX9_tocks 98 = .ok (.iload_n 2, 1) := by decide +kernel
theorem dX9_tocks_99 : decode cX9_tocks 99 = .ok (.imul, 1) := by decide +kernel
theorem dX9_tocks_100 : decode cX9_tocks 100 = .ok (.iload 4, 2) := by decide +kernel
theorem dX9_tocks_102 : decode cX9_tocks 102 = .ok (.iadd, 1) := by decide +kernel
theorem dX9_tocks_103 : decode cX9_tocks 103 = .ok (.iload 5, 2) := by decide +kernel
theorem dX9_tocks_105 : decode cX9_tocks 105 = .ok (.ifCond .eq 10, 3) := by decide +kernel
theorem dX9_tocks_108 : decode cX9_tocks 108 = .ok (.aload_n 0, 1) := by decide +kernel
theorem dX9_tocks_109 : decode cX9_tocks 109 = .ok (.getfield 154, 3) := by decide +kernel
theorem dX9_tocks_112 : decode cX9_tocks 112 = .ok (.goto 4, 3) := by decide +kernel
theorem dX9_tocks_115 : decode cX9_tocks 115 = .ok (.iconst 0, 1) := by decide +kernel
theorem dX9_tocks_116 : decode cX9_tocks 116 = .ok (.iastore, 1) := by decide +kernel
theorem dX9_tocks_117 : decode cX9_tocks 117 = .ok (.iload_n 3, 1) := by decide +kernel
theorem dX9_tocks_118 : decode cX9_tocks 118 = .ok (.iload 5, 2) := by decide +kernel
theorem dX9_tocks_120 : decode cX9_tocks 120 = .ok (.ifCond .eq 7, 3) := by decide +kernel
theorem dX9_tocks_123 : decode cX9_tocks 123 = .ok (.iconst 1, 1) := by decide +kernel
theorem dX9_tocks_124 : decode cX9_tocks 124 = .ok (.goto 4, 3) := by decide +kernel
theorem dX9_tocks_127 : decode cX9_tocks 127 = .ok (.iconst 0, 1) := by decide +kernel
theorem dX9_tocks_128 : decode cX9_tocks 128 = .ok (.iadd, 1) := by decide +kernel
theorem dX9_tocks_129 : decode cX9_tocks 129 = .ok (.istore_n 3, 1) := by decide +kernel
theorem dX9_tocks_130 : decode cX9_tocks 130 = .ok (.iinc 4 1, 3) := by decide +kernel
theorem dX9_tocks_133 : decode cX9_tocks 133 = .ok (.goto (-68), 3) := by decide +kernel
theorem dX9_tocks_136 : decode cX9_tocks 136 = .ok (.aload_n 0, 1) := by decide +kernel
theorem dX9_tocks_137 : decode cX9_tocks 137 = .ok (.invokevirtual 187, 3) := by decide +kernel
theorem dX9_tocks_140 : decode cX9_tocks 140 = .ok (.iload_n 3, 1) := by decide +kernel
theorem dX9_tocks_141 : decode cX9_tocks 141 = .ok (.ireturn, 1) := by decide +kernel
theorem dX9_tilt_0 : decode cX9_tilt 0 = .ok (.iload_n 1, 1) := by decide +kernel
theorem dX9_tilt_1 : decode cX9_tilt 1 = .ok (.iconst 0, 1) := by decide +kernel
theorem dX9_tilt_2 : decode cX9_tilt 2 = .ok (.bipush 99, 2) := by decide +kernel
theorem dX9_tilt_4 : decode cX9_tilt 4 = .ok (.invokestatic 80, 3) := by decide +kernel
theorem dX9_tilt_7 : decode cX9_tilt 7 = .ok (.ifCond .ne 5, 3) := by decide +kernel
theorem dX9_tilt_10 : decode cX9_tilt 10 = .ok (.iconst (-1), 1) := by decide +kernel
theorem dX9_tilt_11 : decode cX9_tilt 11 = .ok (.ireturn, 1) := by decide +kernel
theorem dX9_tilt_12 : decode cX9_tilt 12 = .ok (.aload_n 0, 1) := by decide +kernel
theorem dX9_tilt_13 : decode cX9_tilt 13 = .ok (.getfield 54, 3) := by decide +kernel
theorem dX9_tilt_16 : decode cX9_tilt 16 = .ok (.iconst 0, 1) := by decide +kernel
theorem dX9_tilt_17 : decode cX9_tilt 17 = .ok (.baload, 1) := by decide +kernel
theorem dX9_tilt_18 : decode cX9_tilt 18 = .ok (.ifCond .ne 6, 3) := by decide +kernel
theorem dX9_tilt_21 : decode cX9_tilt 21 = .ok (.bipush (-4), 2) := by decide +kernel
theorem dX9_tilt_23 : decode cX9_tilt 23 = .ok (.ireturn, 1) := by decide +kernel
theorem dX9_tilt_24 : decode cX9_tilt 24 = .ok (.aload_n 0, 1) := by decide +kernel
theorem dX9_tilt_25 : decode cX9_tilt 25 = .ok (.getfield 57, 3) := by decide +kernel
theorem dX9_tilt_28 : decode cX9_tilt 28 = .ok (.bipush 6, 2) := by decide +kernel
theorem dX9_tilt_30 : decode cX9_tilt 30 = .ok (.iaload, 1) := by decide +kernel
theorem dX9_tilt_31 : decode cX9_tilt 31 = .ok (.istore_n 2, 1) := by decide +kernel
theorem dX9_tilt_32 : decode cX9_tilt 32 = .ok (.aload_n 0, 1) := by decide +kernel
theorem dX9_tilt_33 : decode cX9_tilt 33 = .ok (.getfield 57, 3) := by decide +kernel
theorem dX9_tilt_36 : decode cX9_tilt 36 = .ok (.bipush 6, 2) := by decide +kernel
theorem dX9_tilt_38 : decode cX9_tilt 38 = .ok (.iload_n 1, 1) := by decide +kernel
theorem dX9_tilt_39 : decode cX9_tilt 39 = .ok (.iastore, 1) := by decide +kernel
theorem dX9_tilt_40 : decode cX9_tilt 40 = .ok (.iload_n 2, 1) := by decide +kernel
theorem dX9_tilt_41 : decode cX9_tilt 41 = .ok (.ireturn, 1) := by decide +kernel
theorem dX9_keep_0 : decode cX9_keep 0 = .ok (.iload_n 1, 1) := by decide +kernel
theorem dX9_keep_1 : decode cX9_keep 1 = .ok (.iconst 0, 1) := by decide +kernel
theorem dX9_keep_2 : decode cX9_keep 2 = .ok (.iconst 2, 1) := by decide +kernel
theorem dX9_keep_3 : decode cX9_keep 3 = .ok (.invokestatic 80, 3) := by decide +kernel
theorem dX9_keep_6 : decode cX9_keep 6 = .ok (.ifCond .ne 5, 3) := by decide +kernel
theorem dX9_keep_9 : decode cX9_keep 9 = .ok (.iconst (-1), 1) := by decide +kernel
theorem dX9_keep_10 : decode cX9_keep 10 = .ok (.ireturn, 1) := by decide +kernel
theorem dX9_keep_11 : decode cX9_keep 11 = .ok (.aload_n 0, 1) := by decide +kernel
theorem dX9_keep_12 : decode cX9_keep 12 = .ok (.getfield 54, 3) := by decide +kernel
theorem dX9_keep_15 : decode cX9_keep 15 = .ok (.iconst 0, 1) := by decide +kernel
theorem dX9_keep_16 : decode cX9_keep 16 = .ok (.baload, 1) := by decide +kernel
theorem dX9_keep_17 : decode cX9_keep 17 = .ok (.ifCond .ne 6, 3) := by decide +kernel
theorem dX9_keep_20 : decode cX9_keep 20 = .ok (.bipush (-4), 2) := by decide +kernel
theorem dX9_keep_22 : decode cX9_keep 22 = .ok (.ireturn, 1) := by decide +kernel
theorem dX9_keep_23 : decode cX9_keep 23 = .ok (.aload_n 0, 1) := by decide +kernel
theorem dX9_keep_24 : decode cX9_keep 24 = .ok (.iconst 0, 1) := by decide +kernel
theorem dX9_keep_25 : decode cX9_keep 25 = .ok (.iconst 1, 1) := by decide +kernel
theorem dX9_keep_26 : decode cX9_keep 26 = .ok (.iload_n 1, 1) := by decide +kernel
theorem dX9_keep_27 : decode cX9_keep 27 = .ok (.iadd, 1) := by decide +kernel
theorem dX9_keep_28 : decode cX9_keep 28 = .ok (.invokevirtual 200, 3) := by decide +kernel
theorem dX9_keep_31 : decode cX9_keep 31 = .ok (.aload_n 0, 1) := by decide +kernel
theorem dX9_keep_32 : decode cX9_keep 32 = .ok (.getfield 54, 3) := by decide +kernel
theorem dX9_keep_35 : decode cX9_keep 35 = .ok (.iconst 1, 1) := by decide +kernel
theorem dX9_keep_36 : decode cX9_keep 36 = .ok (.iload_n 1, 1) := by decide +kernel
theorem dX9_keep_37 : decode cX9_keep 37 = .ok (.iadd, 1) := by decide +kernel
theorem dX9_keep_38 : decode cX9_keep 38 = .ok (.iconst 1, 1) := by decide +kernel
theorem dX9_keep_39 : decode cX9_keep 39 = .ok (.bastore, 1) := by decide +kernel
theorem dX9_keep_40 : decode cX9_keep 40 = .ok (.aload_n 0, 1) := by decide +kernel
theorem dX9_keep_41 : decode cX9_keep 41 = .ok (.getfield 57, 3) := by decide +kernel
theorem dX9_keep_44 : decode cX9_keep 44 = .ok (.bipush 9, 2) := by decide +kernel
theorem dX9_keep_46 : decode cX9_keep 46 = .ok (.iaload, 1) := by decide +kernel
theorem dX9_keep_47 : decode cX9_keep 47 = .ok (.ireturn, 1) := by decide +kernel
theorem dX9_on_0 : decode cX9_on 0 = .ok (.iload_n 1, 1) := by decide +kernel
theorem dX9_on_1 : decode cX9_on 1 = .ok (.iconst 0, 1) := by decide +kernel
theorem dX9_on_2 : decode cX9_on 2 = .ok (.iconst 2, 1) := by decide +kernel
theorem dX9_on_3 : decode cX9_on 3 = .ok (.invokestatic 80, 3) := by decide +kernel
theorem dX9_on_6 : decode cX9_on 6 = .ok (.ifCond .ne 5, 3) := by decide +kernel
theorem dX9_on_9 : decode cX9_on 9 = .ok (.iconst (-1), 1) := by decide +kernel
theorem dX9_on_10 : decode cX9_on 10 = .ok (.ireturn, 1) := by decide +kernel
theorem dX9_on_11 : decode cX9_on 11 = .ok (.aload_n 0, 1) := by decide +kernel
theorem dX9_on_12 : decode cX9_on 12 = .ok (.getfield 54, 3) := by decide +kernel
theorem dX9_on_15 : decode cX9_on 15 = .ok (.iconst 1, 1) := by decide +kernel
theorem dX9_on_16 : decode cX9_on 16 = .ok (.iload_n 1, 1) := by decide +kernel
theorem dX9_on_17 : decode cX9_on 17 = .ok (.iadd, 1) := by decide +kernel
theorem dX9_on_18 : decode cX9_on 18 = .ok (.baload, 1) := by decide +kernel
theorem dX9_on_19 : decode cX9_on 19 = .ok (.ifCond .ne 9, 3) := by decide +kernel
theorem dX9_on_22 : decode cX9_on 22 = .ok (.aload_n 0, 1) := by decide +kernel
theorem dX9_on_23 : decode cX9_on 23 = .ok (.iconst 1, 1) := by decide +kernel
theorem dX9_on_24 : decode cX9_on 24 = .ok (.invokevirtual 94, 3) := by decide +kernel
theorem dX9_on_27 : decode cX9_on 27 = .ok (.ireturn, 1) := by decide +kernel
theorem dX9_on_28 : decode cX9_on 28 = .ok (.aload_n 0, 1) := by decide +kernel
theorem dX9_on_29 : decode cX9_on 29 = .ok (.iconst 1, 1) := by decide +kernel
theorem dX9_on_30 : decode cX9_on 30 = .ok (.iload_n 1, 1) := by decide +kernel
theorem dX9_on_31 : decode cX9_on 31 = .ok (.iadd, 1) := by decide +kernel
theorem dX9_on_32 : decode cX9_on 32 = .ok (.iconst 0, 1) := by decide +kernel
theorem dX9_on_33 : decode cX9_on 33 = .ok (.invokevirtual 200, 3) := by decide +kernel
theorem dX9_on_36 : decode cX9_on 36 = .ok (.aload_n 0, 1) := by decide +kernel
theorem dX9_on_37 : decode cX9_on 37 = .ok (.getfield 54, 3) := by decide +kernel
theorem dX9_on_40 : decode cX9_on 40 = .ok (.iconst 0, 1) := by decide +kernel
theorem dX9_on_41 : decode cX9_on 41 = .ok (.iconst 1, 1) := by decide +kernel
theorem dX9_on_42 : decode cX9_on 42 = .ok (.bastore, 1) := by decide +kernel
theorem dX9_on_43 : decode cX9_on 43 = .ok (.aload_n 0, 1) := by decide +kernel
theorem dX9_on_44 : decode cX9_on 44 = .ok (.getfield 57, 3) := by decide +kernel
theorem dX9_on_47 : decode cX9_on 47 = .ok (.bipush 9, 2) := by decide +kernel
theorem dX9_on_49 : decode cX9_on 49 = .ok (.iaload, 1) := by decide +kernel
theorem dX9_on_50 : decode cX9_on 50 = .ok (.ireturn, 1) := by decide +kernel
theorem dX9_turns_0 : decode cX9_turns 0 = .ok (.aload_n 0, 1) := by decide +kernel
theorem dX9_turns_1 : decode cX9_turns 1 = .ok (.getfield 54, 3) := by decide +kernel
theorem dX9_turns_4 : decode cX9_turns 4 = .ok (.iconst 0, 1) := by decide +kernel
theorem dX9_turns_5 : decode cX9_turns 5 = .ok (.baload, 1) := by decide +kernel
theorem dX9_turns_6 : decode cX9_turns 6 = .ok (.ifCond .ne 6, 3) := by decide +kernel
theorem dX9_turns_9 : decode cX9_turns 9 = .ok (.bipush (-4), 2) := by decide +kernel
theorem dX9_turns_11 : decode cX9_turns 11 = .ok (.ireturn, 1) := by decide +kernel
theorem dX9_turns_12 : decode cX9_turns 12 = .ok (.aload_n 0, 1) := by decide +kernel
theorem dX9_turns_13 : decode cX9_turns 13 = .ok (.getfield 57, 3) := by decide +kernel
theorem dX9_turns_16 : decode cX9_turns 16 = .ok (.iconst 5, 1) := by decide +kernel
theorem dX9_turns_17 : decode cX9_turns 17 = .ok (.iaload, 1) := by decide +kernel
theorem dX9_turns_18 : decode cX9_turns 18 = .ok (.aload_n 0, 1) := by decide +kernel
theorem dX9_turns_19 : decode cX9_turns 19 = .ok (.getfield 57, 3) := by decide +kernel
theorem dX9_turns_22 : decode cX9_turns 22 = .ok (.iconst 4, 1) := by decide +kernel
theorem dX9_turns_23 : decode cX9_turns 23 = .ok (.iaload, 1) := by decide +kernel
theorem dX9_turns_24 : decode cX9_turns 24 = .ok (.isub, 1) := by decide +kernel
theorem dX9_turns_25 : decode cX9_turns 25 = .ok (.istore_n 1, 1) := by decide +kernel
theorem dX9_turns_26 : decode cX9_turns 26 = .ok (.aload_n 0, 1) := by decide +kernel
theorem dX9_turns_27 : decode cX9_turns 27 = .ok (.getfield 57, 3) := by decide +kernel
theorem dX9_turns_30 : decode cX9_turns 30 = .ok (.bipush 9, 2) := by decide +kernel
theorem dX9_turns_32 : decode cX9_turns 32 = .ok (.iaload, 1) := by decide +kernel
theorem dX9_turns_33 : decode cX9_turns 33 = .ok (.iload_n 1, 1) := by decide +kernel
theorem dX9_turns_34 : decode cX9_turns 34 = .ok (.imul, 1) := by decide +kernel
theorem dX9_turns_35 : decode cX9_turns 35 = .ok (.sipush 360, 3) := by decide +kernel
theorem dX9_turns_38 : decode cX9_turns 38 = .ok (.irem, 1) := by decide +kernel
theorem dX9_turns_39 : decode cX9_turns 39 = .ok (.istore_n 2, 1) := by decide +kernel
theorem dX9_turns_40 : decode cX9_turns 40 = .ok (.bipush (-9), 2) := by decide +kernel
theorem dX9_turns_42 : decode cX9_turns 42 = .ok (.istore_n 3, 1) := by decide +kernel
theorem dX9_turns_43 : decode cX9_turns 43 = .ok (.iload_n 1, 1) := by decide +kernel
theorem dX9_turns_44 : decode cX9_turns 44 = .ok (.ifCond .eq 21, 3) := by decide +kernel
theorem dX9_turns_47 : decode cX9_turns 47 = .ok (.iconst 1, 1) := by decide +kernel
theorem dX9_turns_48 : decode cX9_turns 48 = .ok (.istore_n 3, 1) := by decide +kernel
theorem dX9_turns_49 : decode cX9_turns 49 = .ok (.iload_n 3, 1) := by decide +kernel
theorem dX9_turns_50 : decode cX9_turns 50 = .ok (.iload_n 1, 1) := by decide +kernel
theorem dX9_turns_51 : decode cX9_turns 51 = .ok (.imul, 1) := by decide +kernel
theorem dX9_turns_52 : decode cX9_turns 52 = .ok (.sipush 360, 3) := by decide +kernel
theorem dX9_turns_55 : decode cX9_turns 55 = .ok (.irem, 1) := by decide +kernel
theorem dX9_turns_56 : decode cX9_turns 56 = .ok (.ifCond .eq 9, 3) := by decide +kernel
theorem dX9_turns_59 : decode cX9_turns 59 = .ok (.iinc 3 1, 3) := by decide +kernel
theorem dX9_turns_62 : decode cX9_turns 62 = .ok (.goto (-13), 3) := by decide +kernel
theorem dX9_turns_65 : decode cX9_turns 65 = .ok (.aload_n 0, 1) := by decide +kernel
theorem dX9_turns_66 : decode cX9_turns 66 = .ok (.iload_n 3, 1) := by decide +kernel
theorem dX9_turns_67 : decode cX9_turns 67 = .ok (.iload_n 2, 1) := by decide +kernel
theorem dX9_turns_68 : decode cX9_turns 68 = .ok (.ifCond .ge 11, 3) := by decide +kernel
theorem dX9_turns_71 : decode cX9_turns 71 = .ok (.iload_n 2, 1) := by decide +kernel
theorem dX9_turns_72 : decode cX9_turns 72 = .ok (.sipush 360, 3) := by decide +kernel
theorem dX9_turns_75 : decode cX9_turns 75 = .ok (.iadd, 1) := by decide +kernel
theorem dX9_turns_76 : decode cX9_turns 76 = .ok (.goto 4, 3) := by decide +kernel
theorem dX9_turns_79 : decode cX9_turns 79 = .ok (.iload_n 2, 1) := by decide +kernel
theorem dX9_turns_80 : decode cX9_turns 80 = .ok (.invokevirtual 102, 3) := by decide +kernel
theorem dX9_turns_83 : decode cX9_turns 83 = .ok (.ireturn, 1) := by decide +kernel
theorem dX9_goingOf_0 : decode cX9_goingOf 0 = .ok (.iconst 0, 1) := by decide +kernel
theorem dX9_goingOf_1 : decode cX9_goingOf 1 = .ok (.istore_n 2, 1) := by decide +kernel
theorem dX9_goingOf_2 : decode cX9_goingOf 2 = .ok (.iload_n 2, 1) := by decide +kernel
theorem dX9_goingOf_3 : decode cX9_goingOf 3 = .ok (.sipush 400, 3) := by decide +kernel
theorem dX9_goingOf_6 : decode cX9_goingOf 6 = .ok (.if_icmp .ge 17, 3) := by decide +kernel
theorem dX9_goingOf_9 : decode cX9_goingOf 9 = .ok (.aload_n 0, 1) := by decide +kernel
theorem dX9_goingOf_10 : decode cX9_goingOf 10 = .ok (.getfield 60, 3) := by decide +kernel
theorem dX9_goingOf_13 : decode cX9_goingOf 13 = .ok (.iload_n 2, 1) := by decide +kernel
theorem dX9_goingOf_14 : decode cX9_goingOf 14 = .ok (.bipush (-9), 2) := by decide +kernel
theorem dX9_goingOf_16 : decode cX9_goingOf 16 = .ok (.iastore, 1) := by decide +kernel
theorem dX9_goingOf_17 : decode cX9_goingOf 17 = .ok (.iinc 2 1, 3) := by decide +kernel
theorem dX9_goingOf_20 : decode cX9_goingOf 20 = .ok (.goto (-18), 3) := by decide +kernel
theorem dX9_goingOf_23 : decode cX9_goingOf 23 = .ok (.aload_n 0, 1) := by decide +kernel
theorem dX9_goingOf_24 : decode cX9_goingOf 24 = .ok (.iload_n 1, 1) := by decide +kernel
theorem dX9_goingOf_25 : decode cX9_goingOf 25 = .ok (.iconst 0, 1) := by decide +kernel
theorem dX9_goingOf_26 : decode cX9_goingOf 26 = .ok (.invokevirtual 183, 3) := by decide +kernel
theorem dX9_goingOf_29 : decode cX9_goingOf 29 = .ok (.aload_n 0, 1) := by decide +kernel
theorem dX9_goingOf_30 : decode cX9_goingOf 30 = .ok (.getfield 63, 3) := by decide +kernel
theorem dX9_goingOf_33 : decode cX9_goingOf 33 = .ok (.iconst 0, 1) := by decide +kernel
theorem dX9_goingOf_34 : decode cX9_goingOf 34 = .ok (.iload_n 1, 1) := by decide +kernel
theorem dX9_goingOf_35 : decode cX9_goingOf 35 = .ok (.iastore, 1) := by decide +kernel
theorem dX9_goingOf_36 : decode cX9_goingOf 36 = .ok (.iconst 0, 1) := by decide +kernel
theorem dX9_goingOf_37 : decode cX9_goingOf 37 = .ok (.istore_n 2, 1) := by decide +kernel
theorem dX9_goingOf_38 : decode cX9_goingOf 38 = .ok (.aload_n 0, 1) := by decide +kernel
theorem dX9_goingOf_39 : decode cX9_goingOf 39 = .ok (.iconst 0, 1) := by decide +kernel
theorem dX9_goingOf_40 : decode cX9_goingOf 40 = .ok (.putfield 203, 3) := by decide +kernel
theorem dX9_goingOf_43 : decode cX9_goingOf 43 = .ok (.aload_n 0, 1) := by decide +kernel
theorem dX9_goingOf_44 : decode cX9_goingOf 44 = .ok (.getfield 160, 3) := by decide +kernel
theorem dX9_goingOf_47 : decode cX9_goingOf 47 = .ok (.ifCond .ne 69, 3) := by decide +kernel
theorem dX9_goingOf_50 : decode cX9_goingOf 50 = .ok (.aload_n 0, 1) := by decide +kernel
theorem dX9_goingOf_51 : decode cX9_goingOf 51 = .ok (.getfield 60, 3) := by decide +kernel
theorem dX9_goingOf_54 : decode cX9_goingOf 54 = .ok (.iconst 2, 1) := by decide +kernel
theorem dX9_goingOf_55 : decode cX9_goingOf 55 = .ok (.aload_n 0, 1) := by decide +kernel
theorem dX9_goingOf_56 : decode cX9_goingOf 56 = .ok (.getfield 154, 3) := by decide +kernel
theorem dX9_goingOf_59 : decode cX9_goingOf 59 = .ok (.imul, 1) := by decide +kernel
theorem dX9_goingOf_60 : decode cX9_goingOf 60 = .ok (.aload_n 0, 1) := by decide +kernel
theorem dX9_goingOf_61 : decode cX9_goingOf 61 = .ok (.getfield 157, 3) := by decide +kernel
theorem dX9_goingOf_64 : decode cX9_goingOf 64 = .ok (.iadd, 1) := by decide +kernel
theorem dX9_goingOf_65 : decode cX9_goingOf 65 = .ok (.iaload, 1) := by decide +kernel
theorem dX9_goingOf_66 : decode cX9_goingOf 66 = .ok (.bipush (-9), 2) := by decide +kernel
theorem dX9_goingOf_68 : decode cX9_goingOf 68 = .ok (.if_icmp .ne 48, 3) := by decide +kernel
theorem dX9_goingOf_71 : decode cX9_goingOf 71 = .ok (.iload_n 2, 1) := by decide +kernel
theorem dX9_goingOf_72 : decode cX9_goingOf 72 = .ok (.sipush 400, 3) := by decide +kernel
theorem dX9_goingOf_75 : decode cX9_goingOf 75 = .ok (.if_icmp .ge 41, 3) := by decide +kernel
theorem dX9_goingOf_78 : decode cX9_goingOf 78 = .ok (.aload_n 0, 1) := by decide +kernel
theorem dX9_goingOf_79 : decode cX9_goingOf 79 = .ok (.getfield 60, 3) := by decide +kernel
theorem dX9_goingOf_82 : decode cX9_goingOf 82 = .ok (.iconst 2, 1) := by decide +kernel
theorem dX9_goingOf_83 : decode cX9_goingOf 83 = .ok (.aload_n 0, 1) := by decide +kernel
theorem dX9_goingOf_84 : decode cX9_goingOf 84 = .ok (.getfield 154, 3) := by decide +kernel
theorem dX9_goingOf_87 : decode cX9_goingOf 87 = .ok (.imul, 1) := by decide +kernel
theorem dX9_goingOf_88 : decode cX9_goingOf 88 = .ok (.aload_n 0, 1) := by decide +kernel
theorem dX9_goingOf_89 : decode cX9_goingOf 89 = .ok (.getfield 157, 3) := by decide +kernel
theorem dX9_goingOf_92 : decode cX9_goingOf 92 = .ok (.iadd, 1) := by decide +kernel
theorem dX9_goingOf_93 : decode cX9_goingOf 93 = .ok (.iload_n 2, 1) := by decide +kernel
theorem dX9_goingOf_94 : decode cX9_goingOf 94 = .ok (.iastore, 1) := by decide +kernel
theorem dX9_goingOf_95 : decode cX9_goingOf 95 = .ok (.aload_n 0, 1) := by decide +kernel
theorem dX9_goingOf_96 : decode cX9_goingOf 96 = .ok (.iload_n 2, 1) := by decide +kernel
theorem dX9_goingOf_97 : decode cX9_goingOf 97 = .ok (.invokevirtual 206, 3) := by decide +kernel
theorem dX9_goingOf_100 : decode cX9_goingOf 100 = .ok (.iinc 2 1, 3) := by decide +kernel
theorem dX9_goingOf_103 : decode cX9_goingOf 103 = .ok (.aload_n 0, 1) := by decide +kernel
theorem dX9_goingOf_104 : decode cX9_goingOf 104 = .ok (.getfield 63, 3) := by decide +kernel
theorem dX9_goingOf_107 : decode cX9_goingOf 107 = .ok (.iload_n 2, 1) := by decide +kernel
theorem dX9_goingOf_108 : decode cX9_goingOf 108 = .ok (.aload_n 0, 1) := by decide +kernel
theorem dX9_goingOf_109 : decode cX9_goingOf 109 = .ok (.getfield 154, 3) := by decide +kernel
theorem dX9_goingOf_112 : decode cX9_goingOf 112 = .ok (.iastore, 1) := by decide +kernel
theorem dX9_goingOf_113 : decode cX9_goingOf 113 = .ok (.goto (-70), 3) := by decide +kernel
theorem dX9_goingOf_116 : decode cX9_goingOf 116 = .ok (.aload_n 0, 1) := by decide +kernel
theorem dX9_goingOf_117 : decode cX9_goingOf 117 = .ok (.iload_n 2, 1) := by decide +kernel
theorem dX9_goingOf_118 : decode cX9_goingOf 118 = .ok (.putfield 209, 3) := by decide +kernel
theorem dX9_goingOf_121 : decode cX9_goingOf 121 = .ok (.aload_n 0, 1) := by decide +kernel
theorem dX9_goingOf_122 : decode cX9_goingOf 122 = .ok (.getfield 160, 3) := by decide +kernel
theorem dX9_goingOf_125 : decode cX9_goingOf 125 = .ok (.ifCond .eq 17, 3) := by decide +kernel
theorem dX9_goingOf_128 : decode cX9_goingOf 128 = .ok (.aload_n 0, 1) := by decide +kernel
theorem dX9_goingOf_129 : decode cX9_goingOf 129 = .ok (.getfield 160, 3) := by decide +kernel
theorem dX9_goingOf_132 : decode cX9_goingOf 132 = .ok (.iconst 1, 1) := by decide +kernel
theorem dX9_goingOf_133 : decode cX9_goingOf 133 = .ok (.if_icmp .ne 7, 3) := by decide +kernel
theorem dX9_goingOf_136 : decode cX9_goingOf 136 = .ok (.iconst 4, 1) := by decide +kernel
theorem dX9_goingOf_137 : decode cX9_goingOf 137 = .ok (.goto 4, 3) := by decide +kernel
theorem dX9_goingOf_140 : decode cX9_goingOf 140 = .ok (.iconst 5, 1) := by decide +kernel
theorem dX9_goingOf_141 : decode cX9_goingOf 141 = .ok (.ireturn, 1) := by decide +kernel
theorem dX9_goingOf_142 : decode cX9_goingOf 142 = .ok (.aload_n 0, 1) := by decide +kernel
theorem dX9_goingOf_143 : decode cX9_goingOf 143 = .ok (.getfield 60, 3) := by decide +kernel
theorem dX9_goingOf_146 : decode cX9_goingOf 146 = .ok (.iconst 2, 1) := by decide +kernel
theorem dX9_goingOf_147 : decode cX9_goingOf 147 = .ok (.aload_n 0, 1) := by decide +kernel
theorem dX9_goingOf_148 : decode cX9_goingOf 148 = .ok (.getfield 154, 3) := by decide +kernel
theorem dX9_goingOf_151 : decode cX9_goingOf 151 = .ok (.imul, 1) := by decide +kernel
theorem dX9_goingOf_152 : decode cX9_goingOf 152 = .ok (.aload_n 0, 1) := by decide +kernel
theorem dX9_goingOf_153 : decode cX9_goingOf 153 = .ok (.getfield 157, 3) := by decide +kernel
theorem dX9_goingOf_156 : decode cX9_goingOf 156 = .ok (.iadd, 1) := by decide +kernel
theorem dX9_goingOf_157 : decode cX9_goingOf 157 = .ok (.iaload, 1) := by decide +kernel
theorem dX9_goingOf_158 : decode cX9_goingOf 158 = .ok (.bipush (-9), 2) := by decide +kernel
theorem dX9_goingOf_160 : decode cX9_goingOf 160 = .ok (.if_icmp .ne 5, 3) := by decide +kernel
theorem dX9_goingOf_163 : decode cX9_goingOf 163 = .ok (.iconst 3, 1) := by decide +kernel
theorem dX9_goingOf_164 : decode cX9_goingOf 164 = .ok (.ireturn, 1) := by decide +kernel
theorem dX9_goingOf_165 : decode cX9_goingOf 165 = .ok (.aload_n 0, 1) := by decide +kernel
theorem dX9_goingOf_166 : decode cX9_goingOf 166 = .ok (.iload_n 2, 1) := by decide +kernel
theorem dX9_goingOf_167 : decode cX9_goingOf 167 = .ok (.aload_n 0, 1) := by decide +kernel
theorem dX9_goingOf_168 : decode cX9_goingOf 168 = .ok (.getfield 60, 3) := by decide +kernel
theorem dX9_goingOf_171 : decode cX9_goingOf 171 = .ok (.iconst 2, 1) := by decide +kernel
theorem dX9_goingOf_172 : decode cX9_goingOf 172 = .ok (.aload_n 0, 1) := by decide +kernel
theorem dX9_goingOf_173 : decode cX9_goingOf 173 = .ok (.getfield 154, 3) := by decide +kernel
theorem dX9_goingOf_176 : decode cX9_goingOf 176 = .ok (.imul, 1) := by decide +kernel
theorem dX9_goingOf_177 : decode cX9_goingOf 177 = .ok (.aload_n 0, 1) := by decide +kernel
theorem dX9_goingOf_178 : decode cX9_goingOf 178 = .ok (.getfield 157, 3) := by decide +kernel
theorem dX9_goingOf_181 : decode cX9_goingOf 181 = .ok (.iadd, 1) := by decide +kernel
theorem dX9_goingOf_182 : decode cX9_goingOf 182 = .ok (.iaload, 1) := by decide +kernel
theorem dX9_goingOf_183 : decode cX9_goingOf 183 = .ok (.isub, 1) := by decide +kernel
theorem dX9_goingOf_184 : decode cX9_goingOf 184 = .ok (.putfield 203, 3) := by decide +kernel
theorem dX9_goingOf_187 : decode cX9_goingOf 187 = .ok (.aload_n 0, 1) := by decide +kernel
theorem dX9_goingOf_188 : decode cX9_goingOf 188 = .ok (.aload_n 0, 1) := by decide +kernel
theorem dX9_goingOf_189 : decode cX9_goingOf 189 = .ok (.getfield 154, 3) := by decide +kernel
theorem dX9_goingOf_192 : decode cX9_goingOf 192 = .ok (.putfield 212, 3) := by decide +kernel
theorem dX9_goingOf_195 : decode cX9_goingOf 195 = .ok (.aload_n 0, 1) := by decide +kernel
theorem dX9_goingOf_196 : decode cX9_goingOf 196 = .ok (.aload_n 0, 1) := by decide +kernel
theorem dX9_goingOf_197 : decode cX9_goingOf 197 = .ok (.getfield 154, 3) := by decide +kernel
theorem dX9_goingOf_200 : decode cX9_goingOf 200 = .ok (.putfield 215, 3) := by decide +kernel
theorem dX9_goingOf_203 : decode cX9_goingOf 203 = .ok (.iload_n 2, 1) := by decide +kernel
theorem dX9_goingOf_204 : decode cX9_goingOf 204 = .ok (.aload_n 0, 1) := by decide +kernel
theorem dX9_goingOf_205 : decode cX9_goingOf 205 = .ok (.getfield 203, 3) := by decide +kernel
theorem dX9_goingOf_208 : decode cX9_goingOf 208 = .ok (.isub, 1) := by decide +kernel
theorem dX9_goingOf_209 : decode cX9_goingOf 209 = .ok (.istore_n 3, 1) := by decide +kernel
theorem dX9_goingOf_210 : decode cX9_goingOf 210 = .ok (.iload_n 3, 1) := by decide +kernel
theorem dX9_goingOf_211 : decode cX9_goingOf 211 = .ok (.iload_n 2, 1) := by decide +kernel
theorem dX9_goingOf_212 : decode cX9_goingOf 212 = .ok (.if_icmp .ge 43, 3) := by decide +kernel
theorem dX9_goingOf_215 : decode cX9_goingOf 215 = .ok (.aload_n 0, 1) := by decide +kernel
theorem dX9_goingOf_216 : decode cX9_goingOf 216 = .ok (.aload_n 0, 1) := by decide +kernel
theorem dX9_goingOf_217 : decode cX9_goingOf 217 = .ok (.getfield 212, 3) := by decide +kernel
theorem dX9_goingOf_220 : decode cX9_goingOf 220 = .ok (.aload_n 0, 1) := by decide +kernel
theorem dX9_goingOf_221 : decode cX9_goingOf 221 = .ok (.getfield 63, 3) := by decide +kernel
theorem dX9_goingOf_224 : decode cX9_goingOf 224 = .ok (.iload_n 3, 1) := by decide +kernel
theorem dX9_goingOf_225 : decode cX9_goingOf 225 = .ok (.iaload, 1) := by decide +kernel
theorem dX9_goingOf_226 : decode cX9_goingOf 226 = .ok (.invokestatic 218, 3) := by decide +kernel
theorem dX9_goingOf_229 : decode cX9_goingOf 229 = .ok (.putfield 212, 3) := by decide +kernel
theorem dX9_goingOf_232 : decode cX9_goingOf 232 = .ok (.aload_n 0, 1) := by decide +kernel
theorem dX9_goingOf_233 : decode cX9_goingOf 233 = .ok (.aload_n 0, 1) := by decide +kernel
theorem dX9_goingOf_234 : decode cX9_goingOf 234 = .ok (.getfield 215, 3) := by decide +kernel
theorem dX9_goingOf_237 : decode cX9_goingOf 237 = .ok (.aload_n 0, 1) := by decide +kernel
theorem dX9_goingOf_238 : decode cX9_goingOf 238 = .ok (.getfield 63, 3) := by decide +kernel
theorem dX9_goingOf_241 : decode cX9_goingOf 241 = .ok (.iload_n 3, 1) := by decide +kernel
theorem dX9_goingOf_242 : decode cX9_goingOf 242 = .ok (.iaload, 1) := by decide +kernel
theorem dX9_goingOf_243 : decode cX9_goingOf 243 = .ok (.invokestatic 221, 3) := by decide +kernel
theorem dX9_goingOf_246 : decode cX9_goingOf 246 = .ok (.putfield 215, 3) := by decide +kernel
theorem dX9_goingOf_249 : decode cX9_goingOf 249 = .ok (.iinc 3 1, 3) := by decide +kernel
theorem dX9_goingOf_252 : decode cX9_goingOf 252 = .ok (.goto (-42), 3) := by decide +kernel
theorem dX9_goingOf_255 : decode cX9_goingOf 255 = .ok (.aload_n 0, 1) := by decide +kernel
theorem dX9_goingOf_256 : decode cX9_goingOf 256 = .ok (.getfield 212, 3) := by decide +kernel
theorem dX9_goingOf_259 : decode cX9_goingOf 259 = .ok (.aload_n 0, 1) := by decide +kernel
theorem dX9_goingOf_260 : decode cX9_goingOf 260 = .ok (.getfield 215, 3) := by decide +kernel
theorem dX9_goingOf_263 : decode cX9_goingOf 263 = .ok (.if_icmp .ne 23, 3) := by decide +kernel
theorem dX9_goingOf_266 : decode cX9_goingOf 266 = .ok (.aload_n 0, 1) := by decide +kernel
theorem dX9_goingOf_267 : decode cX9_goingOf 267 = .ok (.getfield 212, 3) := by decide +kernel
theorem dX9_goingOf_270 : decode cX9_goingOf 270 = .ok (.aload_n 0, 1) := by decide +kernel
theorem dX9_goingOf_271 : decode cX9_goingOf 271 = .ok (.invokevirtual 173, 3) := by decide +kernel
theorem dX9_goingOf_274 : decode cX9_goingOf 274 = .ok (.iconst 2, 1) := by decide +kernel
theorem dX9_goingOf_275 : decode cX9_goingOf 275 = .ok (.idiv, 1) := by decide +kernel
theorem dX9_goingOf_276 : decode cX9_goingOf 276 = .ok (.if_icmp .le 8, 3) := by decide +kernel
theorem dX9_goingOf_279 : decode cX9_goingOf 279 = .ok (.bipush 6, 2) := by decide +kernel
theorem dX9_goingOf_281 : decode cX9_goingOf 281 = .ok (.goto 4, 3) := by decide +kernel
theorem dX9_goingOf_284 : decode cX9_goingOf 284 = .ok (.iconst 1, 1) := by decide +kernel
theorem dX9_goingOf_285 : decode cX9_goingOf 285 = .ok (.ireturn, 1) := by decide +kernel
theorem dX9_goingOf_286 : decode cX9_goingOf 286 = .ok (.aload_n 0, 1) := by decide +kernel
theorem dX9_goingOf_287 : decode cX9_goingOf 287 = .ok (.getfield 203, 3) := by decide +kernel
theorem dX9_goingOf_290 : decode cX9_goingOf 290 = .ok (.iconst 4, 1) := by decide +kernel
theorem dX9_goingOf_291 : decode cX9_goingOf 291 = .ok (.if_icmp .ne 8, 3) := by decide +kernel
theorem dX9_goingOf_294 : decode cX9_goingOf 294 = .ok (.bipush 7, 2) := by decide +kernel
theorem dX9_goingOf_296 : decode cX9_goingOf 296 = .ok (.goto 16, 3) := by decide +kernel
theorem dX9_goingOf_299 : decode cX9_goingOf 299 = .ok (.aload_n 0, 1) := by decide +kernel
theorem dX9_goingOf_300 : decode cX9_goingOf 300 = .ok (.getfield 203, 3) := by decide +kernel
theorem dX9_goingOf_303 : decode cX9_goingOf 303 = .ok (.iconst 4, 1) := by decide +kernel
theorem dX9_goingOf_304 : decode cX9_goingOf 304 = .ok (.if_icmp .ge 7, 3) := by decide +kernel
theorem dX9_goingOf_307 : decode cX9_goingOf 307 = .ok (.iconst 2, 1) := by decide +kernel
theorem dX9_goingOf_308 : decode cX9_goingOf 308 = .ok (.goto 4, 3) := by decide +kernel
theorem dX9_goingOf_311 : decode cX9_goingOf 311 = .ok (.iconst 3, 1) := by decide +kernel
theorem dX9_goingOf_312 : decode cX9_goingOf 312 = .ok (.ireturn, 1) := by decide +kernel
theorem dX9_isOf_0 : decode cX9_isOf 0 = .ok (.iload_n 1, 1) := by decide +kernel
theorem dX9_isOf_1 : decode cX9_isOf 1 = .ok (.ifCond .eq 30, 3) := by decide +kernel
theorem dX9_isOf_4 : decode cX9_isOf 4 = .ok (.iload_n 0, 1) := by decide +kernel
theorem dX9_isOf_5 : decode cX9_isOf 5 = .ok (.iload_n 1, 1) := by decide +kernel
theorem dX9_isOf_6 : decode cX9_isOf 6 = .ok (.if_icmp .eq 25, 3) := by decide +kernel
theorem dX9_isOf_9 : decode cX9_isOf 9 = .ok (.iload_n 1, 1) := by decide +kernel
theorem dX9_isOf_10 : decode cX9_isOf 10 = .ok (.iconst 1, 1) := by decide +kernel
theorem dX9_isOf_11 : decode cX9_isOf 11 = .ok (.if_icmp .ne 9, 3) := by decide +kernel
theorem dX9_isOf_14 : decode cX9_isOf 14 = .ok (.iload_n 0, 1) := by decide +kernel
theorem dX9_isOf_15 : decode cX9_isOf 15 = .ok (.bipush 6, 2) := by decide +kernel
theorem dX9_isOf_17 : decode cX9_isOf 17 = .ok (.if_icmp .eq 14, 3) := by decide +kernel
theorem dX9_isOf_20 : decode cX9_isOf 20 = .ok (.iload_n 1, 1) := by decide +kernel
theorem dX9_isOf_21 : decode cX9_isOf 21 = .ok (.iconst 2, 1) := by decide +kernel
theorem dX9_isOf_22 : decode cX9_isOf 22 = .ok (.if_icmp .ne 13, 3) := by decide +kernel
theorem dX9_isOf_25 : decode cX9_isOf 25 = .ok (.iload_n 0, 1) := by decide +kernel
theorem dX9_isOf_26 : decode cX9_isOf 26 = .ok (.bipush 7, 2) := by decide +kernel
theorem dX9_isOf_28 : decode cX9_isOf 28 = .ok (.if_icmp .ne 7, 3) := by decide +kernel
theorem dX9_isOf_31 : decode cX9_isOf 31 = .ok (.iconst 1, 1) := by decide +kernel
theorem dX9_isOf_32 : decode cX9_isOf 32 = .ok (.goto 4, 3) := by decide +kernel
theorem dX9_isOf_35 : decode cX9_isOf 35 = .ok (.iconst 0, 1) := by decide +kernel
theorem dX9_isOf_36 : decode cX9_isOf 36 = .ok (.ireturn, 1) := by decide +kernel
theorem dX9_walksWell_0 : decode cX9_walksWell 0 = .ok (.aload_n 0, 1) := by decide +kernel
theorem dX9_walksWell_1 : decode cX9_walksWell 1 = .ok (.iload_n 1, 1) := by decide +kernel
theorem dX9_walksWell_2 : decode cX9_walksWell 2 = .ok (.invokevirtual 224, 3) := by decide +kernel
theorem dX9_walksWell_5 : decode cX9_walksWell 5 = .ok (.iconst 1, 1) := by decide +kernel
theorem dX9_walksWell_6 : decode cX9_walksWell 6 = .ok (.invokestatic 227, 3) := by decide +kernel
theorem dX9_walksWell_9 : decode cX9_walksWell 9 = .ok (.ireturn, 1) := by decide +kernel
theorem dX9_areGood_0 : decode cX9_areGood 0 = .ok (.iload_n 1, 1) := by decide +kernel
theorem dX9_areGood_1 : decode cX9_areGood 1 = .ok (.invokestatic 139, 3) := by decide +kernel
theorem dX9_areGood_4 : decode cX9_areGood 4 = .ok (.ifCond .eq 35, 3) := by decide +kernel
theorem dX9_areGood_7 : decode cX9_areGood 7 = .ok (.iload_n 2, 1) := by decide +kernel
theorem dX9_areGood_8 : decode cX9_areGood 8 = .ok (.invokestatic 139, 3) := by decide +kernel
theorem dX9_areGood_11 : decode cX9_areGood 11 = .ok (.ifCond .eq 28, 3) := by decide +kernel
theorem dX9_areGood_14 : decode cX9_areGood 14 = .ok (.iload_n 3, 1) := by decide +kernel
theorem dX9_areGood_15 : decode cX9_areGood 15 = .ok (.iconst 0, 1) := by decide +kernel
theorem dX9_areGood_16 : decode cX9_areGood 16 = .ok (.bipush 99, 2) := by decide +kernel
theorem dX9_areGood_18 : decode cX9_areGood 18 = .ok (.invokestatic 80, 3) := by decide +kernel
theorem dX9_areGood_21 : decode cX9_areGood 21 = .ok (.ifCond .eq 18, 3) := by decide +kernel
theorem dX9_areGood_24 : decode cX9_areGood 24 = .ok (.iload 4, 2) := by decide +kernel
theorem dX9_areGood_26 : decode cX9_areGood 26 = .ok (.iconst 0, 1) := by decide +kernel
theorem dX9_areGood_27 : decode cX9_areGood 27 = .ok (.bipush 99, 2) := by decide +kernel
theorem dX9_areGood_29 : decode cX9_areGood 29 = .ok (.invokestatic 80, 3) := by decide +kernel
theorem dX9_areGood_32 : decode cX9_areGood 32 = .ok (.ifCond .eq 7, 3) := by decide +kernel
theorem dX9_areGood_35 : decode cX9_areGood 35 = .ok (.iconst 1, 1) := by decide +kernel
theorem dX9_areGood_36 : decode cX9_areGood 36 = .ok (.goto 4, 3) := by decide +kernel
theorem dX9_areGood_39 : decode cX9_areGood 39 = .ok (.iconst 0, 1) := by decide +kernel
theorem dX9_areGood_40 : decode cX9_areGood 40 = .ok (.ireturn, 1) := by decide +kernel
theorem dX9_need_0 : decode cX9_need 0 = .ok (.iload_n 1, 1) := by decide +kernel
theorem dX9_need_1 : decode cX9_need 1 = .ok (.ifCond .eq 16, 3) := by decide +kernel
theorem dX9_need_4 : decode cX9_need 4 = .ok (.aload_n 0, 1) := by decide +kernel
theorem dX9_need_5 : decode cX9_need 5 = .ok (.iload_n 2, 1) := by decide +kernel
theorem dX9_need_6 : decode cX9_need 6 = .ok (.iload_n 3, 1) := by decide +kernel
theorem dX9_need_7 : decode cX9_need 7 = .ok (.iload 4, 2) := by decide +kernel
theorem dX9_need_9 : decode cX9_need 9 = .ok (.iload 5, 2) := by decide +kernel
theorem dX9_need_11 : decode cX9_need 11 = .ok (.invokevirtual 230, 3) := by decide +kernel
theorem dX9_need_14 : decode cX9_need 14 = .ok (.ifCond .ne 5, 3) := by decide +kernel
theorem dX9_need_17 : decode cX9_need 17 = .ok (.iconst (-1), 1) := by decide +kernel
theorem dX9_need_18 : decode cX9_need 18 = .ok (.ireturn, 1) := by decide +kernel
theorem dX9_need_19 : decode cX9_need 19 = .ok (.aload_n 0, 1) := by decide +kernel
theorem dX9_need_20 : decode cX9_need 20 = .ok (.getfield 29, 3) := by decide +kernel
theorem dX9_need_23 : decode cX9_need 23 = .ok (.iload_n 2, 1) := by decide +kernel
theorem dX9_need_24 : decode cX9_need 24 = .ok (.baload, 1) := by decide +kernel
theorem dX9_need_25 : decode cX9_need 25 = .ok (.ifCond .eq 12, 3) := by decide +kernel
theorem dX9_need_28 : decode cX9_need 28 = .ok (.aload_n 0, 1) := by decide +kernel
theorem dX9_need_29 : decode cX9_need 29 = .ok (.getfield 36, 3) := by decide +kernel
theorem dX9_need_32 : decode cX9_need 32 = .ok (.iload_n 3, 1) := by decide +kernel
theorem dX9_need_33 : decode cX9_need 33 = .ok (.baload, 1) := by decide +kernel
theorem dX9_need_34 : decode cX9_need 34 = .ok (.ifCond .ne 9, 3) := by decide +kernel
theorem dX9_need_37 : decode cX9_need 37 = .ok (.aload_n 0, 1) := by decide +kernel
theorem dX9_need_38 : decode cX9_need 38 = .ok (.iconst 1, 1) := by decide +kernel
theorem dX9_need_39 : decode cX9_need 39 = .ok (.invokevirtual 94, 3) := by decide +kernel
theorem dX9_need_42 : decode cX9_need 42 = .ok (.ireturn, 1) := by decide +kernel
theorem dX9_need_43 : decode cX9_need 43 = .ok (.aload_n 0, 1) := by decide +kernel
theorem dX9_need_44 : decode cX9_need 44 = .ok (.iload_n 2, 1) := by decide +kernel
theorem dX9_need_45 : decode cX9_need 45 = .ok (.iload_n 3, 1) := by decide +kernel
theorem dX9_need_46 : decode cX9_need 46 = .ok (.iload 4, 2) := by decide +kernel
theorem dX9_need_48 : decode cX9_need 48 = .ok (.invokevirtual 234, 3) := by decide +kernel
theorem dX9_need_51 : decode cX9_need 51 = .ok (.iconst 0, 1) := by decide +kernel
theorem dX9_need_52 : decode cX9_need 52 = .ok (.ireturn, 1) := by decide +kernel
theorem dX9_going_0 : decode cX9_going 0 = .ok (.aload_n 0, 1) := by decide +kernel
theorem dX9_going_1 : decode cX9_going 1 = .ok (.iconst 1, 1) := by decide +kernel
theorem dX9_going_2 : decode cX9_going 2 = .ok (.iload_n 1, 1) := by decide +kernel
theorem dX9_going_3 : decode cX9_going 3 = .ok (.iload_n 2, 1) := by decide +kernel
theorem dX9_going_4 : decode cX9_going 4 = .ok (.iload_n 3, 1) := by decide +kernel
theorem dX9_going_5 : decode cX9_going 5 = .ok (.iload 4, 2) := by decide +kernel
theorem dX9_going_7 : decode cX9_going 7 = .ok (.invokevirtual 238, 3) := by decide +kernel
theorem dX9_going_10 : decode cX9_going 10 = .ok (.istore 5, 2) := by decide +kernel
theorem dX9_going_12 : decode cX9_going 12 = .ok (.iload 5, 2) := by decide +kernel
theorem dX9_going_14 : decode cX9_going 14 = .ok (.ifCond .ge 6, 3) := by decide +kernel
theorem dX9_going_17 : decode cX9_going 17 = .ok (.iload 5, 2) := by decide +kernel
theorem dX9_going_19 : decode cX9_going 19 = .ok (.ireturn, 1) := by decide +kernel
theorem dX9_going_20 : decode cX9_going 20 = .ok (.aload_n 0, 1) := by decide +kernel
theorem dX9_going_21 : decode cX9_going 21 = .ok (.iload 4, 2) := by decide +kernel
theorem dX9_going_23 : decode cX9_going 23 = .ok (.invokevirtual 224, 3) := by decide +kernel
theorem dX9_going_26 : decode cX9_going 26 = .ok (.istore 6, 2) := by decide +kernel
theorem dX9_going_28 : decode cX9_going 28 = .ok (.aload_n 0, 1) := by decide +kernel
theorem dX9_going_29 : decode cX9_going 29 = .ok (.aload_n 0, 1) := by decide +kernel
theorem dX9_going_30 : decode cX9_going 30 = .ok (.getfield 203, 3) := by decide +kernel
theorem dX9_going_33 : decode cX9_going 33 = .ok (.iload 6, 2) := by decide +kernel
theorem dX9_going_35 : decode cX9_going 35 = .ok (.invokevirtual 102, 3) := by decide +kernel
theorem dX9_going_38 : decode cX9_going 38 = .ok (.ireturn, 1) := by decide +kernel
theorem dX9_unlikePaces_0 : decode cX9_unlikePaces 0 = .ok (.iconst 0, 1) := by decide +kernel
theorem dX9_unlikePaces_1 : decode cX9_unlikePaces 1 = .ok (.istore_n 2, 1) := by decide +kernel
theorem dX9_unlikePaces_2 : decode cX9_unlikePaces 2 = .ok (.iload_n 2, 1) := by decide +kernel
theorem dX9_unlikePaces_3 : decode cX9_unlikePaces 3 = .ok (.sipush 400, 3) := by decide +kernel
theorem dX9_unlikePaces_6 : decode cX9_unlikePaces 6 = .ok (.if_icmp .ge 16, 3) := by decide +kernel
theorem dX9_unlikePaces_9 : decode cX9_unlikePaces 9 = .ok (.aload_n 0, 1) := by decide +kernel
theorem dX9_unlikePaces_10 : decode cX9_unlikePaces 10 = .ok (.getfield 66, 3) := by decide +kernel
theorem dX9_unlikePaces_13 : decode cX9_unlikePaces 13 = .ok (.iload_n 2, 1) := by decide +kernel
theorem dX9_unlikePaces_14 : decode cX9_unlikePaces 14 = .ok (.iconst 0, 1) := by decide +kernel
theorem dX9_unlikePaces_15 : decode cX9_unlikePaces 15 = .ok (.bastore, 1) := by decide +kernel
theorem dX9_unlikePaces_16 : decode cX9_unlikePaces 16 = .ok (.iinc 2 1, 3) := by decide +kernel
theorem dX9_unlikePaces_19 : decode cX9_unlikePaces 19 = .ok (.goto (-17), 3) := by decide +kernel
theorem dX9_unlikePaces_22 : decode cX9_unlikePaces 22 = .ok (.iconst 0, 1) := by decide +kernel
theorem dX9_unlikePaces_23 : decode cX9_unlikePaces 23 = .ok (.istore_n 2, 1) := by decide +kernel
theorem dX9_unlikePaces_24 : decode cX9_unlikePaces 24 = .ok (.aload_n 0, 1) := by decide +kernel
theorem dX9_unlikePaces_25 : decode cX9_unlikePaces 25 = .ok (.iload_n 1, 1) := by decide +kernel
theorem dX9_unlikePaces_26 : decode cX9_unlikePaces 26 = .ok (.iconst 0, 1) := by decide +kernel
theorem dX9_unlikePaces_27 : decode cX9_unlikePaces 27 = .ok (.invokevirtual 183, 3) := by decide +kernel
theorem dX9_unlikePaces_30 : decode cX9_unlikePaces 30 = .ok (.iconst 0, 1) := by decide +kernel
theorem dX9_unlikePaces_31 : decode cX9_unlikePaces 31 = .ok (.istore_n 3, 1) := by decide +kernel
theorem dX9_unlikePaces_32 : decode cX9_unlikePaces 32 = .ok (.iload_n 3, 1) := by decide +kernel
theorem dX9_unlikePaces_33 : decode cX9_unlikePaces 33 = .ok (.sipush 400, 3) := by decide +kernel
theorem dX9_unlikePaces_36 : decode cX9_unlikePaces 36 = .ok (.if_icmp .ge 51, 3) := by decide +kernel
theorem dX9_unlikePaces_39 : decode cX9_unlikePaces 39 = .ok (.aload_n 0, 1) := by decide +kernel
theorem dX9_unlikePaces_40 : decode cX9_unlikePaces 40 = .ok (.getfield 160, 3) := by decide +kernel
theorem dX9_unlikePaces_43 : decode cX9_unlikePaces 43 = .ok (.ifCond .ne 44, 3) := by decide +kernel
theorem dX9_unlikePaces_46 : decode cX9_unlikePaces 46 = .ok (.aload_n 0, 1) := by decide +kernel
theorem dX9_unlikePaces_47 : decode cX9_unlikePaces 47 = .ok (.iload_n 3, 1) := by decide +kernel
theorem dX9_unlikePaces_48 : decode cX9_unlikePaces 48 = .ok (.invokevirtual 206, 3) := by decide +kernel
theorem dX9_unlikePaces_51 : decode cX9_unlikePaces 51 = .ok (.iload_n 2, 1) := by decide +kernel
theorem dX9_unlikePaces_52 : decode cX9_unlikePaces 52 = .ok (.aload_n 0, 1) := by decide +kernel
theorem dX9_unlikePaces_53 : decode cX9_unlikePaces 53 = .ok (.getfield 66, 3) := by decide +kernel
theorem dX9_unlikePaces_56 : decode cX9_unlikePaces 56 = .ok (.aload_n 0, 1) := by decide +kernel
theorem dX9_unlikePaces_57 : decode cX9_unlikePaces 57 = .ok (.getfield 154, 3) := by decide +kernel
theorem dX9_unlikePaces_60 : decode cX9_unlikePaces 60 = .ok (.baload, 1) := by decide +kernel
theorem dX9_unlikePaces_61 : decode cX9_unlikePaces 61 = .ok (.ifCond .eq 7, 3) := by decide +kernel
theorem dX9_unlikePaces_64 : decode cX9_unlikePaces 64 = .ok (.iconst 0, 1) := by decide +kernel
theorem dX9_unlikePaces_65 : decode cX9_unlikePaces 65 = .ok (.goto 4, 3) := by decide +kernel
theorem dX9_unlikePaces_68 : decode cX9_unlikePaces 68 = .ok (.iconst 1, 1) := by decide +kernel
theorem dX9_unlikePaces_69 : decode cX9_unlikePaces 69 = .ok (.iadd, 1) := by decide +kernel
theorem dX9_unlikePaces_70 : decode cX9_unlikePaces 70 = .ok (.istore_n 2, 1) := by decide +kernel
theorem dX9_unlikePaces_71 : decode cX9_unlikePaces 71 = .ok (.aload_n 0, 1) := by decide +kernel
theorem dX9_unlikePaces_72 : decode cX9_unlikePaces 72 = .ok (.getfield 66, 3) := by decide +kernel
theorem dX9_unlikePaces_75 : decode cX9_unlikePaces 75 = .ok (.aload_n 0, 1) := by decide +kernel
theorem dX9_unlikePaces_76 : decode cX9_unlikePaces 76 = .ok (.getfield 154, 3) := by decide +kernel
theorem dX9_unlikePaces_79 : decode cX9_unlikePaces 79 = .ok (.iconst 1, 1) := by decide +kernel
theorem dX9_unlikePaces_80 : decode cX9_unlikePaces 80 = .ok (.bastore, 1) := by decide +kernel
theorem dX9_unlikePaces_81 : decode cX9_unlikePaces 81 = .ok (.iinc 3 1, 3) := by decide +kernel
theorem dX9_unlikePaces_84 : decode cX9_unlikePaces 84 = .ok (.goto (-52), 3) := by decide +kernel
theorem dX9_unlikePaces_87 : decode cX9_unlikePaces 87 = .ok (.iload_n 2, 1) := by decide +kernel
theorem dX9_unlikePaces_88 : decode cX9_unlikePaces 88 = .ok (.ireturn, 1) := by decide +kernel
theorem dX9_mark_0 : decode cX9_mark 0 = .ok (.aload_n 0, 1) := by decide +kernel
theorem dX9_mark_1 : decode cX9_mark 1 = .ok (.iload 5, 2) := by decide +kernel
theorem dX9_mark_3 : decode cX9_mark 3 = .ok (.iconst 1, 1) := by decide +kernel
theorem dX9_mark_4 : decode cX9_mark 4 = .ok (.bipush 7, 2) := by decide +kernel
theorem dX9_mark_6 : decode cX9_mark 6 = .ok (.invokestatic 80, 3) := by decide +kernel
theorem dX9_mark_9 : decode cX9_mark 9 = .ok (.iload_n 1, 1) := by decide +kernel
theorem dX9_mark_10 : decode cX9_mark 10 = .ok (.iload_n 2, 1) := by decide +kernel
theorem dX9_mark_11 : decode cX9_mark 11 = .ok (.iload_n 3, 1) := by decide +kernel
theorem dX9_mark_12 : decode cX9_mark 12 = .ok (.iload 4, 2) := by decide +kernel
theorem dX9_mark_14 : decode cX9_mark 14 = .ok (.invokevirtual 238, 3) := by decide +kernel
theorem dX9_mark_17 : decode cX9_mark 17 = .ok (.istore 6, 2) := by decide +kernel
theorem dX9_mark_19 : decode cX9_mark 19 = .ok (.iload 6, 2) := by decide +kernel
theorem dX9_mark_21 : decode cX9_mark 21 = .ok (.ifCond .ge 6, 3) := by decide +kernel
theorem dX9_mark_24 : decode cX9_mark 24 = .ok (.iload 6, 2) := by decide +kernel
theorem dX9_mark_26 : decode cX9_mark 26 = .ok (.ireturn, 1) := by decide +kernel
theorem dX9_mark_27 : decode cX9_mark 27 = .ok (.aload_n 0, 1) := by decide +kernel
theorem dX9_mark_28 : decode cX9_mark 28 = .ok (.iload 4, 2) := by decide +kernel
theorem dX9_mark_30 : decode cX9_mark 30 = .ok (.invokevirtual 224, 3) := by decide +kernel
theorem dX9_mark_33 : decode cX9_mark 33 = .ok (.iload 5, 2) := by decide +kernel
theorem dX9_mark_35 : decode cX9_mark 35 = .ok (.invokestatic 227, 3) := by decide +kernel
theorem dX9_mark_38 : decode cX9_mark 38 = .ok (.ifCond .ne 9, 3) := by decide +kernel
theorem dX9_mark_41 : decode cX9_mark 41 = .ok (.aload_n 0, 1) := by decide +kernel
theorem dX9_mark_42 : decode cX9_mark 42 = .ok (.iconst 3, 1) := by decide +kernel
theorem dX9_mark_43 : decode cX9_mark 43 = .ok (.invokevirtual 94, 3) := by decide +kernel
theorem dX9_mark_46 : decode cX9_mark 46 = .ok (.ireturn, 1) := by decide +kernel
theorem dX9_mark_47 : decode cX9_mark 47 = .ok (.iload 5, 2) := by decide +kernel
theorem dX9_mark_49 : decode cX9_mark 49 = .ok (.tableswitch 81 1 6 #[39, 44, 54, 61, 66, 71], 39) := by decide +kernel
theorem dX9_mark_88 : decode cX9_mark 88 = .ok (.aload_n 0, 1) := by decide +kernel
theorem dX9_mark_89 : decode cX9_mark 89 = .ok (.getfield 212, 3) := by decide +kernel
theorem dX9_mark_92 : decode cX9_mark 92 = .ok (.ireturn, 1) := by decide +kernel
theorem dX9_mark_93 : decode cX9_mark 93 = .ok (.aload_n 0, 1) := by decide +kernel
theorem dX9_mark_94 : decode cX9_mark 94 = .ok (.getfield 215, 3) := by decide +kernel
theorem dX9_mark_97 : decode cX9_mark 97 = .ok (.aload_n 0, 1) := by decide +kernel
theorem dX9_mark_98 : decode cX9_mark 98 = .ok (.getfield 212, 3) := by decide +kernel
theorem dX9_mark_101 : decode cX9_mark 101 = .ok (.isub, 1) := by decide +kernel
theorem dX9_mark_102 : decode cX9_mark 102 = .ok (.ireturn, 1) := by decide +kernel
theorem dX9_mark_103 : decode cX9_mark 103 = .ok (.aload_n 0, 1) := by decide +kernel
theorem dX9_mark_104 : decode cX9_mark 104 = .ok (.iload 4, 2) := by decide +kernel
theorem dX9_mark_106 : decode cX9_mark 106 = .ok (.invokevirtual 242, 3) := by decide +kernel
theorem dX9_mark_109 : decode cX9_mark 109 = .ok (.ireturn, 1) := by decide +kernel
theorem dX9_mark_110 : decode cX9_mark 110 = .ok (.aload_n 0, 1) := by decide +kernel
theorem dX9_mark_111 : decode cX9_mark 111 = .ok (.getfield 209, 3) := by decide +kernel
theorem dX9_mark_114 : decode cX9_mark 114 = .ok (.ireturn, 1) := by decide +kernel
theorem dX9_mark_115 : decode cX9_mark 115 = .ok (.aload_n 0, 1) := by decide +kernel
theorem dX9_mark_116 : decode cX9_mark 116 = .ok (.getfield 209, 3) := by decide +kernel
theorem dX9_mark_119 : decode cX9_mark 119 = .ok (.ireturn, 1) := by decide +kernel
theorem dX9_mark_120 : decode cX9_mark 120 = .ok (.aload_n 0, 1) := by decide +kernel
theorem dX9_mark_121 : decode cX9_mark 121 = .ok (.invokevirtual 173, 3) := by decide +kernel
theorem dX9_mark_124 : decode cX9_mark 124 = .ok (.aload_n 0, 1) := by decide +kernel
theorem dX9_mark_125 : decode cX9_mark 125 = .ok (.getfield 212, 3) := by decide +kernel
theorem dX9_mark_128 : decode cX9_mark 128 = .ok (.isub, 1) := by decide +kernel
theorem dX9_mark_129 : decode cX9_mark 129 = .ok (.ireturn, 1) := by decide +kernel
theorem dX9_mark_130 : decode cX9_mark 130 = .ok (.aload_n 0, 1) := by decide +kernel
theorem dX9_mark_131 : decode cX9_mark 131 = .ok (.getfield 212, 3) := by decide +kernel
theorem dX9_mark_134 : decode cX9_mark 134 = .ok (.ireturn, 1) := by decide +kernel
theorem dX9_lines_0 : decode cX9_lines 0 = .ok (.aload_n 0, 1) := by decide +kernel
theorem dX9_lines_1 : decode cX9_lines 1 = .ok (.iload 4, 2) := by decide +kernel
theorem dX9_lines_3 : decode cX9_lines 3 = .ok (.iconst 0, 1) := by decide +kernel
theorem dX9_lines_4 : decode cX9_lines 4 = .ok (.bipush 7, 2) := by decide +kernel
theorem dX9_lines_6 : decode cX9_lines 6 = .ok (.invokestatic 80, 3) := by decide +kernel
theorem dX9_lines_9 : decode cX9_lines 9 = .ok (.iload_n 1, 1) := by decide +kernel
theorem dX9_lines_10 : decode cX9_lines 10 = .ok (.iload_n 2, 1) := by decide +kernel
theorem dX9_lines_11 : decode cX9_lines 11 = .ok (.iconst 0, 1) := by decide +kernel
theorem dX9_lines_12 : decode cX9_lines 12 = .ok (.iload_n 3, 1) := by decide +kernel
theorem dX9_lines_13 : decode cX9_lines 13 = .ok (.invokevirtual 238, 3) := by decide +kernel
theorem dX9_lines_16 : decode cX9_lines 16 = .ok (.istore 5, 2) := by decide +kernel
theorem dX9_lines_18 : decode cX9_lines 18 = .ok (.iload 5, 2) := by decide +kernel
theorem dX9_lines_20 : decode cX9_lines 20 = .ok (.ifCond .ge 6, 3) := by decide +kernel
theorem dX9_lines_23 : decode cX9_lines 23 = .ok (.iload 5, 2) := by decide +kernel
theorem dX9_lines_25 : decode cX9_lines 25 = .ok (.ireturn, 1) := by decide +kernel
theorem dX9_lines_26 : decode cX9_lines 26 = .ok (.bipush (-9), 2) := by decide +kernel
theorem dX9_lines_28 : decode cX9_lines 28 = .ok (.istore 6, 2) := by decide +kernel
theorem dX9_lines_30 : decode cX9_lines 30 = .ok (.iconst 0, 1) := by decide +kernel
theorem dX9_lines_31 : decode cX9_lines 31 = .ok (.istore 7, 2) := by decide +kernel
theorem dX9_lines_33 : decode cX9_lines 33 = .ok (.iconst 0, 1) := by decide +kernel
theorem dX9_lines_34 : decode cX9_lines 34 = .ok (.istore 8, 2) := by decide +kernel
theorem dX9_lines_36 : decode cX9_lines 36 = .ok (.iload 8, 2) := by decide +kernel
theorem dX9_lines_38 : decode cX9_lines 38 = .ok (.bipush 99, 2) := by decide +kernel
theorem dX9_lines_40 : decode cX9_lines 40 = .ok (.if_icmp .gt 45, 3) := by decide +kernel
theorem dX9_lines_43 : decode cX9_lines 43 = .ok (.aload_n 0, 1) := by decide +kernel
theorem dX9_lines_44 : decode cX9_lines 44 = .ok (.iload 8, 2) := by decide +kernel
theorem dX9_lines_46 : decode cX9_lines 46 = .ok (.putfield 148, 3) := by decide +kernel
theorem dX9_lines_49 : decode cX9_lines 49 = .ok (.aload_n 0, 1) := by decide +kernel
theorem dX9_lines_50 : decode cX9_lines 50 = .ok (.iload_n 3, 1) := by decide +kernel
theorem dX9_lines_51 : decode cX9_lines 51 = .ok (.invokevirtual 224, 3) := by decide +kernel
theorem dX9_lines_54 : decode cX9_lines 54 = .ok (.iload 4, 2) := by decide +kernel
theorem dX9_lines_56 : decode cX9_lines 56 = .ok (.invokestatic 227, 3) := by decide +kernel
theorem dX9_lines_59 : decode cX9_lines 59 = .ok (.ifCond .eq 20, 3) := by decide +kernel
theorem dX9_lines_62 : decode cX9_lines 62 = .ok (.iload 7, 2) := by decide +kernel
theorem dX9_lines_64 : decode cX9_lines 64 = .ok (.ifCond .ne 8, 3) := by decide +kernel
theorem dX9_lines_67 : decode cX9_lines 67 = .ok (.iload 8, 2) := by decide +kernel
theorem dX9_lines_69 : decode cX9_lines 69 = .ok (.goto 5, 3) := by decide +kernel
theorem dX9_lines_72 : decode cX9_lines 72 = .ok (.iload 6, 2) := by decide +kernel
theorem dX9_lines_74 : decode cX9_lines 74 = .ok (.istore 6, 2) := by decide +kernel
theorem dX9_lines_76 : decode cX9_lines 76 = .ok (.iinc 7 1, 3) := by decide +kernel
theorem dX9_lines_79 : decode cX9_lines 79 = .ok (.iinc 8 1, 3) := by decide +kernel
theorem dX9_lines_82 : decode cX9_lines 82 = .ok (.goto (-46), 3) := by decide +kernel
theorem dX9_lines_85 : decode cX9_lines 85 = .ok (.aload_n 0, 1) := by decide +kernel
theorem dX9_lines_86 : decode cX9_lines 86 = .ok (.iload 6, 2) := by decide +kernel
theorem dX9_lines_88 : decode cX9_lines 88 = .ok (.iload 7, 2) := by decide +kernel
theorem dX9_lines_90 : decode cX9_lines 90 = .ok (.invokevirtual 102, 3) := by decide +kernel
theorem dX9_lines_93 : decode cX9_lines 93 = .ok (.ireturn, 1) := by decide +kernel
theorem dX9_begins_0 : decode cX9_begins 0 = .ok (.aload_n 0, 1) := by decide +kernel
theorem dX9_begins_1 : decode cX9_begins 1 = .ok (.iconst 1, 1) := by decide +kernel
theorem dX9_begins_2 : decode cX9_begins 2 = .ok (.iload_n 1, 1) := by decide +kernel
theorem dX9_begins_3 : decode cX9_begins 3 = .ok (.iload_n 2, 1) := by decide +kernel
theorem dX9_begins_4 : decode cX9_begins 4 = .ok (.iload_n 3, 1) := by decide +kernel
theorem dX9_begins_5 : decode cX9_begins 5 = .ok (.iconst 0, 1) := by decide +kernel
theorem dX9_begins_6 : decode cX9_begins 6 = .ok (.invokevirtual 238, 3) := by decide +kernel
theorem dX9_begins_9 : decode cX9_begins 9 = .ok (.istore 4, 2) := by decide +kernel
theorem dX9_begins_11 : decode cX9_begins 11 = .ok (.iload 4, 2) := by decide +kernel
theorem dX9_begins_13 : decode cX9_begins 13 = .ok (.ifCond .ge 6, 3) := by decide +kernel
theorem dX9_begins_16 : decode cX9_begins 16 = .ok (.iload 4, 2) := by decide +kernel
theorem dX9_begins_18 : decode cX9_begins 18 = .ok (.ireturn, 1) := by decide +kernel
theorem dX9_begins_19 : decode cX9_begins 19 = .ok (.bipush (-9), 2) := by decide +kernel
theorem dX9_begins_21 : decode cX9_begins 21 = .ok (.istore 5, 2) := by decide +kernel
theorem dX9_begins_23 : decode cX9_begins 23 = .ok (.iconst 0, 1) := by decide +kernel
theorem dX9_begins_24 : decode cX9_begins 24 = .ok (.istore 6, 2) := by decide +kernel
theorem dX9_begins_26 : decode cX9_begins 26 = .ok (.iconst 0, 1) := by decide +kernel
theorem dX9_begins_27 : decode cX9_begins 27 = .ok (.istore 7, 2) := by decide +kernel
theorem dX9_begins_29 : decode cX9_begins 29 = .ok (.iload 7, 2) := by decide +kernel
theorem dX9_begins_31 : decode cX9_begins 31 = .ok (.bipush 99, 2) := by decide +kernel
theorem dX9_begins_33 : decode cX9_begins 33 = .ok (.if_icmp .gt 35, 3) := by decide +kernel
theorem dX9_begins_36 : decode cX9_begins 36 = .ok (.aload_n 0, 1) := by decide +kernel
theorem dX9_begins_37 : decode cX9_begins 37 = .ok (.iload 7, 2) := by decide +kernel
theorem dX9_begins_39 : decode cX9_begins 39 = .ok (.invokevirtual 245, 3) := by decide +kernel
theorem dX9_begins_42 : decode cX9_begins 42 = .ok (.ifCond .eq 20, 3) := by decide +kernel
theorem dX9_begins_45 : decode cX9_begins 45 = .ok (.iload 6, 2) := by decide +kernel
theorem dX9_begins_47 : decode cX9_begins 47 = .ok (.ifCond .ne 8, 3) := by decide +kernel
theorem dX9_begins_50 : decode cX9_begins 50 = .ok (.iload 7, 2) := by decide +kernel
theorem dX9_begins_52 : decode cX9_begins 52 = .ok (.goto 5, 3) := by decide +kernel
theorem dX9_begins_55 : decode cX9_begins 55 = .ok (.iload 5, 2) := by decide +kernel
theorem dX9_begins_57 : decode cX9_begins 57 = .ok (.istore 5, 2) := by decide +kernel
theorem dX9_begins_59 : decode cX9_begins 59 = .ok (.iinc 6 1, 3) := by decide +kernel
theorem dX9_begins_62 : decode cX9_begins 62 = .ok (.iinc 7 1, 3) := by decide +kernel
theorem dX9_begins_65 : decode cX9_begins 65 = .ok (.goto (-36), 3) := by decide +kernel
theorem dX9_begins_68 : decode cX9_begins 68 = .ok (.aload_n 0, 1) := by decide +kernel
theorem dX9_begins_69 : decode cX9_begins 69 = .ok (.iload 5, 2) := by decide +kernel
theorem dX9_begins_71 : decode cX9_begins 71 = .ok (.iload 6, 2) := by decide +kernel
theorem dX9_begins_73 : decode cX9_begins 73 = .ok (.invokevirtual 102, 3) := by decide +kernel
theorem dX9_begins_76 : decode cX9_begins 76 = .ok (.ireturn, 1) := by decide +kernel
theorem dX9_mends_0 : decode cX9_mends 0 = .ok (.aload_n 0, 1) := by decide +kernel
theorem dX9_mends_1 : decode cX9_mends 1 = .ok (.iload 5, 2) := by decide +kernel
theorem dX9_mends_3 : decode cX9_mends 3 = .ok (.iconst 1, 1) := by decide +kernel
theorem dX9_mends_4 : decode cX9_mends 4 = .ok (.bipush 20, 2) := by decide +kernel
theorem dX9_mends_6 : decode cX9_mends 6 = .ok (.invokestatic 80, 3) := by decide +kernel
theorem dX9_mends_9 : decode cX9_mends 9 = .ok (.iload_n 1, 1) := by decide +kernel
theorem dX9_mends_10 : decode cX9_mends 10 = .ok (.iload_n 2, 1) := by decide +kernel
theorem dX9_mends_11 : decode cX9_mends 11 = .ok (.iload_n 3, 1) := by decide +kernel
theorem dX9_mends_12 : decode cX9_mends 12 = .ok (.iload 4, 2) := by decide +kernel
theorem dX9_mends_14 : decode cX9_mends 14 = .ok (.invokevirtual 238, 3) := by decide +kernel
theorem dX9_mends_17 : decode cX9_mends 17 = .ok (.istore 6, 2) := by decide +kernel
theorem dX9_mends_19 : decode cX9_mends 19 = .ok (.iload 6, 2) := by decide +kernel
theorem dX9_mends_21 : decode cX9_mends 21 = .ok (.ifCond .ge 6, 3) := by decide +kernel
theorem dX9_mends_24 : decode cX9_mends 24 = .ok (.iload 6, 2) := by decide +kernel
theorem dX9_mends_26 : decode cX9_mends 26 = .ok (.ireturn, 1) := by decide +kernel
theorem dX9_mends_27 : decode cX9_mends 27 = .ok (.aload_n 0, 1) := by decide +kernel
theorem dX9_mends_28 : decode cX9_mends 28 = .ok (.iload 4, 2) := by decide +kernel
theorem dX9_mends_30 : decode cX9_mends 30 = .ok (.invokevirtual 245, 3) := by decide +kernel
theorem dX9_mends_33 : decode cX9_mends 33 = .ok (.ifCond .ne 9, 3) := by decide +kernel
theorem dX9_mends_36 : decode cX9_mends 36 = .ok (.aload_n 0, 1) := by decide +kernel
theorem dX9_mends_37 : decode cX9_mends 37 = .ok (.iconst 3, 1) := by decide +kernel
theorem dX9_mends_38 : decode cX9_mends 38 = .ok (.invokevirtual 94, 3) := by decide +kernel
theorem dX9_mends_41 : decode cX9_mends 41 = .ok (.ireturn, 1) := by decide +kernel
theorem dX9_mends_42 : decode cX9_mends 42 = .ok (.aload_n 0, 1) := by decide +kernel
theorem dX9_mends_43 : decode cX9_mends 43 = .ok (.getfield 212, 3) := by decide +kernel
theorem dX9_mends_46 : decode cX9_mends 46 = .ok (.istore 7, 2) := by decide +kernel
theorem dX9_mends_48 : decode cX9_mends 48 = .ok (.aload_n 0, 1) := by decide +kernel
theorem dX9_mends_49 : decode cX9_mends 49 = .ok (.iload 7, 2) := by decide +kernel
theorem dX9_mends_51 : decode cX9_mends 51 = .ok (.iload 5, 2) := by decide +kernel
theorem dX9_mends_53 : decode cX9_mends 53 = .ok (.iadd, 1) := by decide +kernel
theorem dX9_mends_54 : decode cX9_mends 54 = .ok (.iconst 0, 1) := by decide +kernel
theorem dX9_mends_55 : decode cX9_mends 55 = .ok (.invokevirtual 183, 3) := by decide +kernel
theorem dX9_mends_58 : decode cX9_mends 58 = .ok (.iconst 0, 1) := by decide +kernel
theorem dX9_mends_59 : decode cX9_mends 59 = .ok (.istore 8, 2) := by decide +kernel
theorem dX9_mends_61 : decode cX9_mends 61 = .ok (.iload 8, 2) := by decide +kernel
theorem dX9_mends_63 : decode cX9_mends 63 = .ok (.sipush 400, 3) := by decide +kernel
theorem dX9_mends_66 : decode cX9_mends 66 = .ok (.if_icmp .ge 43, 3) := by decide +kernel
theorem dX9_mends_69 : decode cX9_mends 69 = .ok (.aload_n 0, 1) := by decide +kernel
theorem dX9_mends_70 : decode cX9_mends 70 = .ok (.getfield 160, 3) := by decide +kernel
theorem dX9_mends_73 : decode cX9_mends 73 = .ok (.ifCond .ne 36, 3) := by decide +kernel
theorem dX9_mends_76 : decode cX9_mends 76 = .ok (.aload_n 0, 1) := by decide +kernel
theorem dX9_mends_77 : decode cX9_mends 77 = .ok (.iload 8, 2) := by decide +kernel
theorem dX9_mends_79 : decode cX9_mends 79 = .ok (.invokevirtual 206, 3) := by decide +kernel
theorem dX9_mends_82 : decode cX9_mends 82 = .ok (.aload_n 0, 1) := by decide +kernel
theorem dX9_mends_83 : decode cX9_mends 83 = .ok (.getfield 160, 3) := by decide +kernel
theorem dX9_mends_86 : decode cX9_mends 86 = .ok (.ifCond .ne 17, 3) := by decide +kernel
theorem dX9_mends_89 : decode cX9_mends 89 = .ok (.aload_n 0, 1) := by decide +kernel
theorem dX9_mends_90 : decode cX9_mends 90 = .ok (.getfield 154, 3) := by decide +kernel
theorem dX9_mends_93 : decode cX9_mends 93 = .ok (.iload 7, 2) := by decide +kernel
theorem dX9_mends_95 : decode cX9_mends 95 = .ok (.if_icmp .ne 8, 3) := by decide +kernel
theorem dX9_mends_98 : decode cX9_mends 98 = .ok (.iload 8, 2) := by decide +kernel
theorem dX9_mends_100 : decode cX9_mends 100 = .ok (.iconst 1, 1) := by decide +kernel
theorem dX9_mends_101 : decode cX9_mends 101 = .ok (.iadd, 1) := by decide +kernel
theorem dX9_mends_102 : decode cX9_mends 102 = .ok (.ireturn, 1) := by decide +kernel
theorem dX9_mends_103 : decode cX9_mends 103 = .ok (.iinc 8 1, 3) := by decide +kernel
theorem dX9_mends_106 : decode cX9_mends 106 = .ok (.goto (-45), 3) := by decide +kernel
theorem dX9_mends_109 : decode cX9_mends 109 = .ok (.bipush (-9), 2) := by decide +kernel
theorem dX9_mends_111 : decode cX9_mends 111 = .ok (.ireturn, 1) := by decide +kernel
theorem dX9_span_0 : decode cX9_span 0 = .ok (.iconst 0, 1) := by decide +kernel
theorem dX9_span_1 : decode cX9_span 1 = .ok (.istore_n 2, 1) := by decide +kernel
theorem dX9_span_2 : decode cX9_span 2 = .ok (.iconst 0, 1) := by decide +kernel
theorem dX9_span_3 : decode cX9_span 3 = .ok (.istore_n 3, 1) := by decide +kernel
theorem dX9_span_4 : decode cX9_span 4 = .ok (.iload_n 3, 1) := by decide +kernel
theorem dX9_span_5 : decode cX9_span 5 = .ok (.bipush 99, 2) := by decide +kernel
theorem dX9_span_7 : decode cX9_span 7 = .ok (.if_icmp .gt 30, 3) := by decide +kernel
theorem dX9_span_10 : decode cX9_span 10 = .ok (.aload_n 0, 1) := by decide +kernel
theorem dX9_span_11 : decode cX9_span 11 = .ok (.iload_n 3, 1) := by decide +kernel
theorem dX9_span_12 : decode cX9_span 12 = .ok (.putfield 148, 3) := by decide +kernel
theorem dX9_span_15 : decode cX9_span 15 = .ok (.iload_n 2, 1) := by decide +kernel
theorem dX9_span_16 : decode cX9_span 16 = .ok (.aload_n 0, 1) := by decide +kernel
theorem dX9_span_17 : decode cX9_span 17 = .ok (.iload_n 1, 1) := by decide +kernel
theorem dX9_span_18 : decode cX9_span 18 = .ok (.invokevirtual 245, 3) := by decide +kernel
theorem dX9_span_21 : decode cX9_span 21 = .ok (.ifCond .eq 7, 3) := by decide +kernel
theorem dX9_span_24 : decode cX9_span 24 = .ok (.iconst 1, 1) := by decide +kernel
theorem dX9_span_25 : decode cX9_span 25 = .ok (.goto 4, 3) := by decide +kernel
theorem dX9_span_28 : decode cX9_span 28 = .ok (.iconst 0, 1) := by decide +kernel
theorem dX9_span_29 : decode cX9_span 29 = .ok (.iadd, 1) := by decide +kernel
theorem dX9_span_30 : decode cX9_span 30 = .ok (.istore_n 2, 1) := by decide +kernel
theorem dX9_span_31 : decode cX9_span 31 = .ok (.iinc 3 1, 3) := by decide +kernel
theorem dX9_span_34 : decode cX9_span 34 = .ok (.goto (-30), 3) := by decide +kernel
theorem dX9_span_37 : decode cX9_span 37 = .ok (.iload_n 2, 1) := by decide +kernel
theorem dX9_span_38 : decode cX9_span 38 = .ok (.ireturn, 1) := by decide +kernel
theorem dX9_wide_0 : decode cX9_wide 0 = .ok (.aload_n 0, 1) := by decide +kernel
theorem dX9_wide_1 : decode cX9_wide 1 = .ok (.iconst 1, 1) := by decide +kernel
theorem dX9_wide_2 : decode cX9_wide 2 = .ok (.iload_n 1, 1) := by decide +kernel
theorem dX9_wide_3 : decode cX9_wide 3 = .ok (.iload_n 2, 1) := by decide +kernel
theorem dX9_wide_4 : decode cX9_wide 4 = .ok (.iconst 0, 1) := by decide +kernel
theorem dX9_wide_5 : decode cX9_wide 5 = .ok (.iload_n 3, 1) := by decide +kernel
theorem dX9_wide_6 : decode cX9_wide 6 = .ok (.invokevirtual 238, 3) := by decide +kernel
theorem dX9_wide_9 : decode cX9_wide 9 = .ok (.istore 4, 2) := by decide +kernel
theorem dX9_wide_11 : decode cX9_wide 11 = .ok (.iload 4, 2) := by decide +kernel
theorem dX9_wide_13 : decode cX9_wide 13 = .ok (.ifCond .ge 6, 3) := by decide +kernel
theorem dX9_wide_16 : decode cX9_wide 16 = .ok (.iload 4, 2) := by decide +kernel
theorem dX9_wide_18 : decode cX9_wide 18 = .ok (.ireturn, 1) := by decide +kernel
theorem dX9_wide_19 : decode cX9_wide 19 = .ok (.bipush (-9), 2) := by decide +kernel
theorem dX9_wide_21 : decode cX9_wide 21 = .ok (.istore 5, 2) := by decide +kernel
theorem dX9_wide_23 : decode cX9_wide 23 = .ok (.iconst (-1), 1) := by decide +kernel
theorem dX9_wide_24 : decode cX9_wide 24 = .ok (.istore 6, 2) := by decide +kernel
theorem dX9_wide_26 : decode cX9_wide 26 = .ok (.iconst 0, 1) := by decide +kernel
theorem dX9_wide_27 : decode cX9_wide 27 = .ok (.istore 7, 2) := by decide +kernel
theorem dX9_wide_29 : decode cX9_wide 29 = .ok (.iload 7, 2) := by decide +kernel
theorem dX9_wide_31 : decode cX9_wide 31 = .ok (.bipush 81, 2) := by decide +kernel
theorem dX9_wide_33 : decode cX9_wide 33 = .ok (.if_icmp .ge 81, 3) := by decide +kernel
theorem dX9_wide_36 : decode cX9_wide 36 = .ok (.aload_n 0, 1) := by decide +kernel
theorem dX9_wide_37 : decode cX9_wide 37 = .ok (.getfield 48, 3) := by decide +kernel
theorem dX9_wide_40 : decode cX9_wide 40 = .ok (.iconst 1, 1) := by decide +kernel
theorem dX9_wide_41 : decode cX9_wide 41 = .ok (.iconst 1, 1) := by decide +kernel
theorem dX9_wide_42 : decode cX9_wide 42 = .ok (.iload 7, 2) := by decide +kernel
theorem dX9_wide_44 : decode cX9_wide 44 = .ok (.bipush 9, 2) := by decide +kernel
theorem dX9_wide_46 : decode cX9_wide 46 = .ok (.idiv, 1) := by decide +kernel
theorem dX9_wide_47 : decode cX9_wide 47 = .ok (.iadd, 1) := by decide +kernel
theorem dX9_wide_48 : decode cX9_wide 48 = .ok (.iastore, 1) := by decide +kernel
theorem dX9_wide_49 : decode cX9_wide 49 = .ok (.aload_n 0, 1) := by decide +kernel
theorem dX9_wide_50 : decode cX9_wide 50 = .ok (.getfield 48, 3) := by decide +kernel
theorem dX9_wide_53 : decode cX9_wide 53 = .ok (.iconst 2, 1) := by decide +kernel
theorem dX9_wide_54 : decode cX9_wide 54 = .ok (.iconst 1, 1) := by decide +kernel
theorem dX9_wide_55 : decode cX9_wide 55 = .ok (.iload 7, 2) := by decide +kernel
theorem dX9_wide_57 : decode cX9_wide 57 = .ok (.bipush 9, 2) := by decide +kernel
theorem dX9_wide_59 : decode cX9_wide 59 = .ok (.irem, 1) := by decide +kernel
theorem dX9_wide_60 : decode cX9_wide 60 = .ok (.iadd, 1) := by decide +kernel
theorem dX9_wide_61 : decode cX9_wide 61 = .ok (.iastore, 1) := by decide +kernel
theorem dX9_wide_62 : decode cX9_wide 62 = .ok (.aload_n 0, 1) := by decide +kernel
theorem dX9_wide_63 : decode cX9_wide 63 = .ok (.iload_n 3, 1) := by decide +kernel
theorem dX9_wide_64 : decode cX9_wide 64 = .ok (.invokevirtual 248, 3) := by decide +kernel
theorem dX9_wide_67 : decode cX9_wide 67 = .ok (.istore 8, 2) := by decide +kernel
theorem dX9_wide_69 : decode cX9_wide 69 = .ok (.iload 8, 2) := by decide +kernel
theorem dX9_wide_71 : decode cX9_wide 71 = .ok (.iload 6, 2) := by decide +kernel
theorem dX9_wide_73 : decode cX9_wide 73 = .ok (.if_icmp .le 22, 3) := by decide +kernel
theorem dX9_wide_76 : decode cX9_wide 76 = .ok (.bipush 10, 2) := by decide +kernel
theorem dX9_wide_78 : decode cX9_wide 78 = .ok (.aload_n 0, 1) := by decide +kernel
theorem dX9_wide_79 : decode cX9_wide 79 = .ok (.getfield 48, 3) := by decide +kernel
theorem dX9_wide_82 : decode cX9_wide 82 = .ok (.iconst 1, 1) := by decide +kernel
theorem dX9_wide_83 : decode cX9_wide 83 = .ok (.iaload, 1) := by decide +kernel
theorem dX9_wide_84 : decode cX9_wide 84 = .ok (.imul, 1) := by decide +kernel
theorem dX9_wide_85 : decode cX9_wide 85 = .ok (.aload_n 0, 1) := by decide +kernel
theorem dX9_wide_86 : decode cX9_wide 86 = .ok (.getfield 48, 3) := by decide +kernel
theorem dX9_wide_89 : decode cX9_wide 89 = .ok (.iconst 2, 1) := by decide +kernel
theorem dX9_wide_90 : decode cX9_wide 90 = .ok (.iaload, 1) := by decide +kernel
theorem dX9_wide_91 : decode cX9_wide 91 = .ok (.iadd, 1) := by decide +kernel
theorem dX9_wide_92 : decode cX9_wide 92 = .ok (.goto 5, 3) := by decide +kernel
theorem dX9_wide_95 : decode cX9_wide 95 = .ok (.iload 5, 2) := by decide +kernel
theorem dX9_wide_97 : decode cX9_wide 97 = .ok (.istore 5, 2) := by decide +kernel
theorem dX9_wide_99 : decode cX9_wide 99 = .ok (.iload 6, 2) := by decide +kernel
theorem dX9_wide_101 : decode cX9_wide 101 = .ok (.iload 8, 2) := by decide +kernel
theorem dX9_wide_103 : decode cX9_wide 103 = .ok (.invokestatic 221, 3) := by decide +kernel
theorem dX9_wide_106 : decode cX9_wide 106 = .ok (.istore 6, 2) := by decide +kernel
theorem dX9_wide_108 : decode cX9_wide 108 = .ok (.iinc 7 1, 3) := by decide +kernel
theorem dX9_wide_111 : decode cX9_wide 111 = .ok (.goto (-82), 3) := by decide +kernel
theorem dX9_wide_114 : decode cX9_wide 114 = .ok (.aload_n 0, 1) := by decide +kernel
theorem dX9_wide_115 : decode cX9_wide 115 = .ok (.iload 6, 2) := by decide +kernel
theorem dX9_wide_117 : decode cX9_wide 117 = .ok (.iload 5, 2) := by decide +kernel
theorem dX9_wide_119 : decode cX9_wide 119 = .ok (.invokevirtual 102, 3) := by decide +kernel
theorem dX9_wide_122 : decode cX9_wide 122 = .ok (.ireturn, 1) := by decide +kernel
theorem dX9_mend_0 : decode cX9_mend 0 = .ok (.aload_n 0, 1) := by decide +kernel
theorem dX9_mend_1 : decode cX9_mend 1 = .ok (.iconst 1, 1) := by decide +kernel
theorem dX9_mend_2 : decode cX9_mend 2 = .ok (.iload_n 1, 1) := by decide +kernel
theorem dX9_mend_3 : decode cX9_mend 3 = .ok (.iload_n 2, 1) := by decide +kernel
theorem dX9_mend_4 : decode cX9_mend 4 = .ok (.iload_n 3, 1) := by decide +kernel
theorem dX9_mend_5 : decode cX9_mend 5 = .ok (.iload 4, 2) := by decide +kernel
theorem dX9_mend_7 : decode cX9_mend 7 = .ok (.invokevirtual 238, 3) := by decide +kernel
theorem dX9_mend_10 : decode cX9_mend 10 = .ok (.istore 5, 2) := by decide +kernel
theorem dX9_mend_12 : decode cX9_mend 12 = .ok (.iload 5, 2) := by decide +kernel
theorem dX9_mend_14 : decode cX9_mend 14 = .ok (.ifCond .ge 6, 3) := by decide +kernel
theorem dX9_mend_17 : decode cX9_mend 17 = .ok (.iload 5, 2) := by decide +kernel
theorem dX9_mend_19 : decode cX9_mend 19 = .ok (.ireturn, 1) := by decide +kernel
theorem dX9_mend_20 : decode cX9_mend 20 = .ok (.iconst 0, 1) := by decide +kernel
theorem dX9_mend_21 : decode cX9_mend 21 = .ok (.istore 6, 2) := by decide +kernel
theorem dX9_mend_23 : decode cX9_mend 23 = .ok (.iload 6, 2) := by decide +kernel
theorem dX9_mend_25 : decode cX9_mend 25 = .ok (.bipush 18, 2) := by decide +kernel
theorem dX9_mend_27 : decode cX9_mend 27 = .ok (.if_icmp .gt 87, 3) := by decide +kernel
theorem dX9_mend_30 : decode cX9_mend 30 = .ok (.iconst 0, 1) := by decide +kernel
theorem dX9_mend_31 : decode cX9_mend 31 = .ok (.istore 7, 2) := by decide +kernel
theorem dX9_mend_33 : decode cX9_mend 33 = .ok (.iload 7, 2) := by decide +kernel
theorem dX9_mend_35 : decode cX9_mend 35 = .ok (.bipush 9, 2) := by decide +kernel
theorem dX9_mend_37 : decode cX9_mend 37 = .ok (.if_icmp .gt 71, 3) := by decide +kernel
theorem dX9_mend_40 : decode cX9_mend 40 = .ok (.iload 6, 2) := by decide +kernel
theorem dX9_mend_42 : decode cX9_mend 42 = .ok (.iload 7, 2) := by decide +kernel
theorem dX9_mend_44 : decode cX9_mend 44 = .ok (.isub, 1) := by decide +kernel
theorem dX9_mend_45 : decode cX9_mend 45 = .ok (.iconst 0, 1) := by decide +kernel
theorem dX9_mend_46 : decode cX9_mend 46 = .ok (.bipush 9, 2) := by decide +kernel
theorem dX9_mend_48 : decode cX9_mend 48 = .ok (.invokestatic 80, 3) := by decide +kernel
theorem dX9_mend_51 : decode cX9_mend 51 = .ok (.ifCond .eq 51, 3) := by decide +kernel
theorem dX9_mend_54 : decode cX9_mend 54 = .ok (.aload_n 0, 1) := by decide +kernel
theorem dX9_mend_55 : decode cX9_mend 55 = .ok (.getfield 48, 3) := by decide +kernel
theorem dX9_mend_58 : decode cX9_mend 58 = .ok (.iconst 4, 1) := by decide +kernel
theorem dX9_mend_59 : decode cX9_mend 59 = .ok (.iload 7, 2) := by decide +kernel
theorem dX9_mend_61 : decode cX9_mend 61 = .ok (.iastore, 1) := by decide +kernel
theorem dX9_mend_62 : decode cX9_mend 62 = .ok (.aload_n 0, 1) := by decide +kernel
theorem dX9_mend_63 : decode cX9_mend 63 = .ok (.getfield 48, 3) := by decide +kernel
theorem dX9_mend_66 : decode cX9_mend 66 = .ok (.iconst 5, 1) := by decide +kernel
theorem dX9_mend_67 : decode cX9_mend 67 = .ok (.iload 6, 2) := by decide +kernel
theorem dX9_mend_69 : decode cX9_mend 69 = .ok (.iload 7, 2) := by decide +kernel
theorem dX9_mend_71 : decode cX9_mend 71 = .ok (.isub, 1) := by decide +kernel
theorem dX9_mend_72 : decode cX9_mend 72 = .ok (.iastore, 1) := by decide +kernel
theorem dX9_mend_73 : decode cX9_mend 73 = .ok (.aload_n 0, 1) := by decide +kernel
theorem dX9_mend_74 : decode cX9_mend 74 = .ok (.iload 4, 2) := by decide +kernel
theorem dX9_mend_76 : decode cX9_mend 76 = .ok (.invokevirtual 245, 3) := by decide +kernel
theorem dX9_mend_79 : decode cX9_mend 79 = .ok (.ifCond .eq 23, 3) := by decide +kernel
theorem dX9_mend_82 : decode cX9_mend 82 = .ok (.aload_n 0, 1) := by decide +kernel
theorem dX9_mend_83 : decode cX9_mend 83 = .ok (.aload_n 0, 1) := by decide +kernel
theorem dX9_mend_84 : decode cX9_mend 84 = .ok (.getfield 212, 3) := by decide +kernel
theorem dX9_mend_87 : decode cX9_mend 87 = .ok (.bipush 10, 2) := by decide +kernel
theorem dX9_mend_89 : decode cX9_mend 89 = .ok (.iload 7, 2) := by decide +kernel
theorem dX9_mend_91 : decode cX9_mend 91 = .ok (.imul, 1) := by decide +kernel
theorem dX9_mend_92 : decode cX9_mend 92 = .ok (.iload 6, 2) := by decide +kernel
theorem dX9_mend_94 : decode cX9_mend 94 = .ok (.iadd, 1) := by decide +kernel
theorem dX9_mend_95 : decode cX9_mend 95 = .ok (.iload 7, 2) := by decide +kernel
theorem dX9_mend_97 : decode cX9_mend 97 = .ok (.isub, 1) := by decide +kernel
theorem dX9_mend_98 : decode cX9_mend 98 = .ok (.invokevirtual 102, 3) := by decide +kernel
theorem dX9_mend_101 : decode cX9_mend 101 = .ok (.ireturn, 1) := by decide +kernel
theorem dX9_mend_102 : decode cX9_mend 102 = .ok (.iinc 7 1, 3) := by decide +kernel
theorem dX9_mend_105 : decode cX9_mend 105 = .ok (.goto (-72), 3) := by decide +kernel
theorem dX9_mend_108 : decode cX9_mend 108 = .ok (.iinc 6 1, 3) := by decide +kernel
theorem dX9_mend_111 : decode cX9_mend 111 = .ok (.goto (-88), 3) := by decide +kernel
theorem dX9_mend_114 : decode cX9_mend 114 = .ok (.bipush (-9), 2) := by decide +kernel
theorem dX9_mend_116 : decode cX9_mend 116 = .ok (.ireturn, 1) := by decide +kernel
theorem dX9_needTocks_0 : decode cX9_needTocks 0 = .ok (.iload_n 1, 1) := by decide +kernel
theorem dX9_needTocks_1 : decode cX9_needTocks 1 = .ok (.invokestatic 139, 3) := by decide +kernel
theorem dX9_needTocks_4 : decode cX9_needTocks 4 = .ok (.ifCond .eq 17, 3) := by decide +kernel
theorem dX9_needTocks_7 : decode cX9_needTocks 7 = .ok (.iload_n 2, 1) := by decide +kernel
theorem dX9_needTocks_8 : decode cX9_needTocks 8 = .ok (.invokestatic 139, 3) := by decide +kernel
theorem dX9_needTocks_11 : decode cX9_needTocks 11 = .ok (.ifCond .eq 10, 3) := by decide +kernel
theorem dX9_needTocks_14 : decode cX9_needTocks 14 = .ok (.iload_n 3, 1) := by decide +kernel
theorem dX9_needTocks_15 : decode cX9_needTocks 15 = .ok (.invokestatic 90, 3) := by decide +kernel
theorem dX9_needTocks_18 : decode cX9_needTocks 18 = .ok (.ifCond .ne 5, 3) := by decide +kernel
theorem dX9_needTocks_21 : decode cX9_needTocks 21 = .ok (.iconst (-1), 1) := by decide +kernel
theorem dX9_needTocks_22 : decode cX9_needTocks 22 = .ok (.ireturn, 1) := by decide +kernel
theorem dX9_needTocks_23 : decode cX9_needTocks 23 = .ok (.aload_n 0, 1) := by decide +kernel
theorem dX9_needTocks_24 : decode cX9_needTocks 24 = .ok (.getfield 29, 3) := by decide +kernel
theorem dX9_needTocks_27 : decode cX9_needTocks 27 = .ok (.iload_n 1, 1) := by decide +kernel
theorem dX9_needTocks_28 : decode cX9_needTocks 28 = .ok (.baload, 1) := by decide +kernel
theorem dX9_needTocks_29 : decode cX9_needTocks 29 = .ok (.ifCond .eq 21, 3) := by decide +kernel
theorem dX9_needTocks_32 : decode cX9_needTocks 32 = .ok (.aload_n 0, 1) := by decide +kernel
theorem dX9_needTocks_33 : decode cX9_needTocks 33 = .ok (.getfield 36, 3) := by decide +kernel
theorem dX9_needTocks_36 : decode cX9_needTocks 36 = .ok (.iload_n 2, 1) := by decide +kernel
theorem dX9_needTocks_37 : decode cX9_needTocks 37 = .ok (.baload, 1) := by decide +kernel
theorem dX9_needTocks_38 : decode cX9_needTocks 38 = .ok (.ifCond .eq 12, 3) := by decide +kernel
theorem dX9_needTocks_41 : decode cX9_needTocks 41 = .ok (.aload_n 0, 1) := by decide +kernel
theorem dX9_needTocks_42 : decode cX9_needTocks 42 = .ok (.getfield 13, 3) := by decide +kernel
theorem dX9_needTocks_45 : decode cX9_needTocks 45 = .ok (.iload_n 3, 1) := by decide +kernel
theorem dX9_needTocks_46 : decode cX9_needTocks 46 = .ok (.iaload, 1) := by decide +kernel
theorem dX9_needTocks_47 : decode cX9_needTocks 47 = .ok (.ifCond .ge 9, 3) := by decide +kernel
theorem dX9_needTocks_50 : decode cX9_needTocks 50 = .ok (.aload_n 0, 1) := by decide +kernel
theorem dX9_needTocks_51 : decode cX9_needTocks 51 = .ok (.iconst 1, 1) := by decide +kernel
theorem dX9_needTocks_52 : decode cX9_needTocks 52 = .ok (.invokevirtual 94, 3) := by decide +kernel
theorem dX9_needTocks_55 : decode cX9_needTocks 55 = .ok (.ireturn, 1) := by decide +kernel
theorem dX9_needTocks_56 : decode cX9_needTocks 56 = .ok (.aload_n 0, 1) := by decide +kernel
theorem dX9_needTocks_57 : decode cX9_needTocks 57 = .ok (.getfield 13, 3) := by decide +kernel
theorem dX9_needTocks_60 : decode cX9_needTocks 60 = .ok (.iload_n 3, 1) := by decide +kernel
theorem dX9_needTocks_61 : decode cX9_needTocks 61 = .ok (.iaload, 1) := by decide +kernel
theorem dX9_needTocks_62 : decode cX9_needTocks 62 = .ok (.iconst 2, 1) := by decide +kernel
theorem dX9_needTocks_63 : decode cX9_needTocks 63 = .ok (.if_icmp .ge 9, 3) := by decide +kernel
theorem dX9_needTocks_66 : decode cX9_needTocks 66 = .ok (.aload_n 0, 1) := by decide +kernel
theorem dX9_needTocks_67 : decode cX9_needTocks 67 = .ok (.iconst 5, 1) := by decide +kernel
theorem dX9_needTocks_68 : decode cX9_needTocks 68 = .ok (.invokevirtual 94, 3) := by decide +kernel
theorem dX9_needTocks_71 : decode cX9_needTocks 71 = .ok (.ireturn, 1) := by decide +kernel
theorem dX9_needTocks_72 : decode cX9_needTocks 72 = .ok (.iconst 1, 1) := by decide +kernel
theorem dX9_needTocks_73 : decode cX9_needTocks 73 = .ok (.istore 4, 2) := by decide +kernel
theorem dX9_needTocks_75 : decode cX9_needTocks 75 = .ok (.iconst 0, 1) := by decide +kernel
theorem dX9_needTocks_76 : decode cX9_needTocks 76 = .ok (.istore 5, 2) := by decide +kernel
theorem dX9_needTocks_78 : decode cX9_needTocks 78 = .ok (.iload 5, 2) := by decide +kernel
theorem dX9_needTocks_80 : decode cX9_needTocks 80 = .ok (.aload_n 0, 1) := by decide +kernel
theorem dX9_needTocks_81 : decode cX9_needTocks 81 = .ok (.getfield 13, 3) := by decide +kernel
theorem dX9_needTocks_84 : decode cX9_needTocks 84 = .ok (.iload_n 3, 1) := by decide +kernel
theorem dX9_needTocks_85 : decode cX9_needTocks 85 = .ok (.iaload, 1) := by decide +kernel
theorem dX9_needTocks_86 : decode cX9_needTocks 86 = .ok (.if_icmp .ge 37, 3) := by decide +kernel
theorem dX9_needTocks_89 : decode cX9_needTocks 89 = .ok (.iload 4, 2) := by decide +kernel
theorem dX9_needTocks_91 : decode cX9_needTocks 91 = .ok (.ifCond .eq 23, 3) := by decide +kernel
theorem dX9_needTocks_94 : decode cX9_needTocks 94 = .ok (.aload_n 0, 1) := by decide +kernel
theorem dX9_needTocks_95 : decode cX9_needTocks 95 = .ok (.iload_n 3, 1) := by decide +kernel
theorem dX9_needTocks_96 : decode cX9_needTocks 96 = .ok (.iload 5, 2) := by decide +kernel
theorem dX9_needTocks_98 : decode cX9_needTocks 98 = .ok (.invokevirtual 98, 3) := by decide +kernel
theorem dX9_needTocks_101 : decode cX9_needTocks 101 = .ok (.iconst 0, 1) := by decide +kernel
theorem dX9_needTocks_102 : decode cX9_needTocks 102 = .ok (.bipush 99, 2) := by decide +kernel
theorem dX9_needTocks_104 : decode cX9_needTocks 104 = .ok (.invokestatic 80, 3) := by decide +kernel
theorem dX9_needTocks_107 : decode cX9_needTocks 107 = .ok (.ifCond .eq 7, 3) := by decide +kernel
theorem dX9_needTocks_110 : decode cX9_needTocks 110 = .ok (.iconst 1, 1) := by decide +kernel
theorem dX9_needTocks_111 : decode cX9_needTocks 111 = .ok (.goto 4, 3) := by decide +kernel
theorem dX9_needTocks_114 : decode cX9_needTocks 114 = .ok (.iconst 0, 1) := by decide +kernel
theorem dX9_needTocks_115 : decode cX9_needTocks 115 = .ok (.istore 4, 2) := by decide +kernel
theorem dX9_needTocks_117 : decode cX9_needTocks 117 = .ok (.iinc 5 1, 3) := by decide +kernel
theorem dX9_needTocks_120 : decode cX9_needTocks 120 = .ok (.goto (-42), 3) := by decide +kernel
theorem dX9_needTocks_123 : decode cX9_needTocks 123 = .ok (.iload 4, 2) := by decide +kernel
theorem dX9_needTocks_125 : decode cX9_needTocks 125 = .ok (.ifCond .ne 9, 3) := by decide +kernel
theorem dX9_needTocks_128 : decode cX9_needTocks 128 = .ok (.aload_n 0, 1) := by decide +kernel
theorem dX9_needTocks_129 : decode cX9_needTocks 129 = .ok (.iconst 3, 1) := by decide +kernel
theorem dX9_needTocks_130 : decode cX9_needTocks 130 = .ok (.invokevirtual 94, 3) := by decide +kernel
theorem dX9_needTocks_133 : decode cX9_needTocks 133 = .ok (.ireturn, 1) := by decide +kernel
theorem dX9_needTocks_134 : decode cX9_needTocks 134 = .ok (.aload_n 0, 1) := by decide +kernel
theorem dX9_needTocks_135 : decode cX9_needTocks 135 = .ok (.iload_n 1, 1) := by decide +kernel
theorem dX9_needTocks_136 : decode cX9_needTocks 136 = .ok (.iload_n 2, 1) := by decide +kernel
theorem dX9_needTocks_137 : decode cX9_needTocks 137 = .ok (.iconst 0, 1) := by decide +kernel
theorem dX9_needTocks_138 : decode cX9_needTocks 138 = .ok (.invokevirtual 234, 3) := by decide +kernel
theorem dX9_needTocks_141 : decode cX9_needTocks 141 = .ok (.iconst 0, 1) := by decide +kernel
theorem dX9_needTocks_142 : decode cX9_needTocks 142 = .ok (.ireturn, 1) := by decide +kernel
theorem dX9_offTocks_0 : decode cX9_offTocks 0 = .ok (.aload_n 0, 1) := by decide +kernel
theorem dX9_offTocks_1 : decode cX9_offTocks 1 = .ok (.iload_n 2, 1) := by decide +kernel
theorem dX9_offTocks_2 : decode cX9_offTocks 2 = .ok (.putfield 148, 3) := by decide +kernel
theorem dX9_offTocks_5 : decode cX9_offTocks 5 = .ok (.aload_n 0, 1) := by decide +kernel
theorem dX9_offTocks_6 : decode cX9_offTocks 6 = .ok (.getfield 48, 3) := by decide +kernel
theorem dX9_offTocks_9 : decode cX9_offTocks 9 = .ok (.iconst 4, 1) := by decide +kernel
theorem dX9_offTocks_10 : decode cX9_offTocks 10 = .ok (.iload_n 3, 1) := by decide +kernel
theorem dX9_offTocks_11 : decode cX9_offTocks 11 = .ok (.iastore, 1) := by decide +kernel
theorem dX9_offTocks_12 : decode cX9_offTocks 12 = .ok (.aload_n 0, 1) := by decide +kernel
theorem dX9_offTocks_13 : decode cX9_offTocks 13 = .ok (.getfield 48, 3) := by decide +kernel
theorem dX9_offTocks_16 : decode cX9_offTocks 16 = .ok (.iconst 5, 1) := by decide +kernel
theorem dX9_offTocks_17 : decode cX9_offTocks 17 = .ok (.iconst 0, 1) := by decide +kernel
theorem dX9_offTocks_18 : decode cX9_offTocks 18 = .ok (.iastore, 1) := by decide +kernel
theorem dX9_offTocks_19 : decode cX9_offTocks 19 = .ok (.aload_n 0, 1) := by decide +kernel
theorem dX9_offTocks_20 : decode cX9_offTocks 20 = .ok (.aload_n 0, 1) := by decide +kernel
theorem dX9_offTocks_21 : decode cX9_offTocks 21 = .ok (.iload_n 1, 1) := by decide +kernel
theorem dX9_offTocks_22 : decode cX9_offTocks 22 = .ok (.iconst 0, 1) := by decide +kernel
theorem dX9_offTocks_23 : decode cX9_offTocks 23 = .ok (.invokevirtual 98, 3) := by decide +kernel
theorem dX9_offTocks_26 : decode cX9_offTocks 26 = .ok (.iconst 0, 1) := by decide +kernel
theorem dX9_offTocks_27 : decode cX9_offTocks 27 = .ok (.invokevirtual 183, 3) := by decide +kernel
theorem dX9_offTocks_30 : decode cX9_offTocks 30 = .ok (.iconst 0, 1) := by decide +kernel
theorem dX9_offTocks_31 : decode cX9_offTocks 31 = .ok (.istore 4, 2) := by decide +kernel
theorem dX9_offTocks_33 : decode cX9_offTocks 33 = .ok (.iconst 1, 1) := by decide +kernel
theorem dX9_offTocks_34 : decode cX9_offTocks 34 = .ok (.istore 5, 2) := by decide +kernel
theorem dX9_offTocks_36 : decode cX9_offTocks 36 = .ok (.iload 5, 2) := by decide +kernel
theorem dX9_offTocks_38 : decode cX9_offTocks 38 = .ok (.aload_n 0, 1) := by decide +kernel
theorem dX9_offTocks_39 : decode cX9_offTocks 39 = .ok (.getfield 13, 3) := by decide +kernel
theorem dX9_offTocks_42 : decode cX9_offTocks 42 = .ok (.iload_n 1, 1) := by decide +kernel
theorem dX9_offTocks_43 : decode cX9_offTocks 43 = .ok (.iaload, 1) := by decide +kernel
theorem dX9_offTocks_44 : decode cX9_offTocks 44 = .ok (.if_icmp .ge 81, 3) := by decide +kernel
theorem dX9_offTocks_47 : decode cX9_offTocks 47 = .ok (.aload_n 0, 1) := by decide +kernel
theorem dX9_offTocks_48 : decode cX9_offTocks 48 = .ok (.getfield 160, 3) := by decide +kernel
theorem dX9_offTocks_51 : decode cX9_offTocks 51 = .ok (.ifCond .ne 11, 3) := by decide +kernel
theorem dX9_offTocks_54 : decode cX9_offTocks 54 = .ok (.aload_n 0, 1) := by decide +kernel
theorem dX9_offTocks_55 : decode cX9_offTocks 55 = .ok (.iload 5, 2) := by decide +kernel
theorem dX9_offTocks_57 : decode cX9_offTocks 57 = .ok (.iconst 1, 1) := by decide +kernel
theorem dX9_offTocks_58 : decode cX9_offTocks 58 = .ok (.isub, 1) := by decide +kernel
theorem dX9_offTocks_59 : decode cX9_offTocks 59 = .ok (.invokevirtual 206, 3) := by decide +kernel
theorem dX9_offTocks_62 : decode cX9_offTocks 62 = .ok (.aload_n 0, 1) := by decide +kernel
theorem dX9_offTocks_63 : decode cX9_offTocks 63 = .ok (.getfield 160, 3) := by decide +kernel
theorem dX9_offTocks_66 : decode cX9_offTocks 66 = .ok (.ifCond .ne 10, 3) := by decide +kernel
theorem dX9_offTocks_69 : decode cX9_offTocks 69 = .ok (.aload_n 0, 1) := by decide +kernel
theorem dX9_offTocks_70 : decode cX9_offTocks 70 = .ok (.getfield 154, 3) := by decide +kernel
theorem dX9_offTocks_73 : decode cX9_offTocks 73 = .ok (.goto 4, 3) := by decide +kernel
theorem dX9_offTocks_76 : decode cX9_offTocks 76 = .ok (.iconst 0, 1) := by decide +kernel
theorem dX9_offTocks_77 : decode cX9_offTocks 77 = .ok (.istore 6, 2) := by decide +kernel
theorem dX9_offTocks_79 : decode cX9_offTocks 79 = .ok (.iload 4, 2) := by decide +kernel
theorem dX9_offTocks_81 : decode cX9_offTocks 81 = .ok (.iload 6, 2) := by decide +kernel
theorem dX9_offTocks_83 : decode cX9_offTocks 83 = .ok (.aload_n 0, 1) := by decide +kernel
theorem dX9_offTocks_84 : decode cX9_offTocks 84 = .ok (.iload_n 1, 1) := by decide +kernel
theorem dX9_offTocks_85 : decode cX9_offTocks 85 = .ok (.iload 5, 2) := by decide +kernel
theorem dX9_offTocks_87 : decode cX9_offTocks 87 = .ok (.invokevirtual 98, 3) := by decide +kernel
theorem dX9_offTocks_90 : decode cX9_offTocks 90 = .ok (.if_icmp .ge 16, 3) := by decide +kernel
theorem dX9_offTocks_93 : decode cX9_offTocks 93 = .ok (.aload_n 0, 1) := by decide +kernel
theorem dX9_offTocks_94 : decode cX9_offTocks 94 = .ok (.iload_n 1, 1) := by decide +kernel
theorem dX9_offTocks_95 : decode cX9_offTocks 95 = .ok (.iload 5, 2) := by decide +kernel
theorem dX9_offTocks_97 : decode cX9_offTocks 97 = .ok (.invokevirtual 98, 3) := by decide +kernel
theorem dX9_offTocks_100 : decode cX9_offTocks 100 = .ok (.iload 6, 2) := by decide +kernel
theorem dX9_offTocks_102 : decode cX9_offTocks 102 = .ok (.isub, 1) := by decide +kernel
theorem dX9_offTocks_103 : decode cX9_offTocks 103 = .ok (.goto 13, 3) := by decide +kernel
theorem dX9_offTocks_106 : decode cX9_offTocks 106 = .ok (.iload 6, 2) := by decide +kernel
theorem dX9_offTocks_108 : decode cX9_offTocks 108 = .ok (.aload_n 0, 1) := by decide +kernel
theorem dX9_offTocks_109 : decode cX9_offTocks 109 = .ok (.iload_n 1, 1) := by decide +kernel
theorem dX9_offTocks_110 : decode cX9_offTocks 110 = .ok (.iload 5, 2) := by decide +kernel
theorem dX9_offTocks_112 : decode cX9_offTocks 112 = .ok (.invokevirtual 98, 3) := by decide +kernel
theorem dX9_offTocks_115 : decode cX9_offTocks 115 = .ok (.isub, 1) := by decide +kernel
theorem dX9_offTocks_116 : decode cX9_offTocks 116 = .ok (.iadd, 1) := by decide +kernel
theorem dX9_offTocks_117 : decode cX9_offTocks 117 = .ok (.istore 4, 2) := by decide +kernel
theorem dX9_offTocks_119 : decode cX9_offTocks 119 = .ok (.iinc 5 1, 3) := by decide +kernel
theorem dX9_offTocks_122 : decode cX9_offTocks 122 = .ok (.goto (-86), 3) := by decide +kernel
theorem dX9_offTocks_125 : decode cX9_offTocks 125 = .ok (.iload 4, 2) := by decide +kernel
theorem dX9_offTocks_127 : decode cX9_offTocks 127 = .ok (.ireturn, 1) := by decide +kernel
theorem dX9_limp_0 : decode cX9_limp 0 = .ok (.aload_n 0, 1) := by decide +kernel
theorem dX9_limp_1 : decode cX9_limp 1 = .ok (.iload_n 1, 1) := by decide +kernel
theorem dX9_limp_2 : decode cX9_limp 2 = .ok (.iload_n 2, 1) := by decide +kernel
theorem dX9_limp_3 : decode cX9_limp 3 = .ok (.iload_n 3, 1) := by decide +kernel
theorem dX9_limp_4 : decode cX9_limp 4 = .ok (.invokevirtual 251, 3) := by decide +kernel
theorem dX9_limp_7 : decode cX9_limp 7 = .ok (.istore 4, 2) := by decide +kernel
theorem dX9_limp_9 : decode cX9_limp 9 = .ok (.iload 4, 2) := by decide +kernel
theorem dX9_limp_11 : decode cX9_limp 11 = .ok (.ifCond .ge 6, 3) := by decide +kernel
theorem dX9_limp_14 : decode cX9_limp 14 = .ok (.iload 4, 2) := by decide +kernel
theorem dX9_limp_16 : decode cX9_limp 16 = .ok (.ireturn, 1) := by decide +kernel
theorem dX9_limp_17 : decode cX9_limp 17 = .ok (.bipush (-9), 2) := by decide +kernel
theorem dX9_limp_19 : decode cX9_limp 19 = .ok (.istore 5, 2) := by decide +kernel
theorem dX9_limp_21 : decode cX9_limp 21 = .ok (.iconst 0, 1) := by decide +kernel
theorem dX9_limp_22 : decode cX9_limp 22 = .ok (.istore 6, 2) := by decide +kernel
theorem dX9_limp_24 : decode cX9_limp 24 = .ok (.iconst 0, 1) := by decide +kernel
theorem dX9_limp_25 : decode cX9_limp 25 = .ok (.istore 7, 2) := by decide +kernel
theorem dX9_limp_27 : decode cX9_limp 27 = .ok (.iload 7, 2) := by decide +kernel
theorem dX9_limp_29 : decode cX9_limp 29 = .ok (.sipush 1000, 3) := by decide +kernel
theorem dX9_limp_32 : decode cX9_limp 32 = .ok (.if_icmp .ge 48, 3) := by decide +kernel
theorem dX9_limp_35 : decode cX9_limp 35 = .ok (.aload_n 0, 1) := by decide +kernel
theorem dX9_limp_36 : decode cX9_limp 36 = .ok (.iload_n 3, 1) := by decide +kernel
theorem dX9_limp_37 : decode cX9_limp 37 = .ok (.iload 7, 2) := by decide +kernel
theorem dX9_limp_39 : decode cX9_limp 39 = .ok (.bipush 10, 2) := by decide +kernel
theorem dX9_limp_41 : decode cX9_limp 41 = .ok (.idiv, 1) := by decide +kernel
theorem dX9_limp_42 : decode cX9_limp 42 = .ok (.iload 7, 2) := by decide +kernel
theorem dX9_limp_44 : decode cX9_limp 44 = .ok (.bipush 10, 2) := by decide +kernel
theorem dX9_limp_46 : decode cX9_limp 46 = .ok (.irem, 1) := by decide +kernel
theorem dX9_limp_47 : decode cX9_limp 47 = .ok (.invokevirtual 255, 3) := by decide +kernel
theorem dX9_limp_50 : decode cX9_limp 50 = .ok (.istore 8, 2) := by decide +kernel
theorem dX9_limp_52 : decode cX9_limp 52 = .ok (.iload 5, 2) := by decide +kernel
theorem dX9_limp_54 : decode cX9_limp 54 = .ok (.bipush (-9), 2) := by decide +kernel
theorem dX9_limp_56 : decode cX9_limp 56 = .ok (.if_icmp .eq 10, 3) := by decide +kernel
theorem dX9_limp_59 : decode cX9_limp 59 = .ok (.iload 8, 2) := by decide +kernel
theorem dX9_limp_61 : decode cX9_limp 61 = .ok (.iload 6, 2) := by decide +kernel
theorem dX9_limp_63 : decode cX9_limp 63 = .ok (.if_icmp .ge 11, 3) := by decide +kernel
theorem dX9_limp_66 : decode cX9_limp 66 = .ok (.iload 7, 2) := by decide +kernel
theorem dX9_limp_68 : decode cX9_limp 68 = .ok (.istore 5, 2) := by decide +kernel
theorem dX9_limp_70 : decode cX9_limp 70 = .ok (.iload 8, 2) := by decide +kernel
theorem dX9_limp_72 : decode cX9_limp 72 = .ok (.istore 6, 2) := by decide +kernel
theorem dX9_limp_74 : decode cX9_limp 74 = .ok (.iinc 7 1, 3) := by decide +kernel
theorem dX9_limp_77 : decode cX9_limp 77 = .ok (.goto (-50), 3) := by decide +kernel
theorem dX9_limp_80 : decode cX9_limp 80 = .ok (.aload_n 0, 1) := by decide +kernel
theorem dX9_limp_81 : decode cX9_limp 81 = .ok (.iload 6, 2) := by decide +kernel
theorem dX9_limp_83 : decode cX9_limp 83 = .ok (.iload 5, 2) := by decide +kernel
theorem dX9_limp_85 : decode cX9_limp 85 = .ok (.invokevirtual 102, 3) := by decide +kernel
theorem dX9_limp_88 : decode cX9_limp 88 = .ok (.ireturn, 1) := by decide +kernel
theorem dX9_odds_0 : decode cX9_odds 0 = .ok (.aload_n 0, 1) := by decide +kernel
theorem dX9_odds_1 : decode cX9_odds 1 = .ok (.iload_n 1, 1) := by decide +kernel
theorem dX9_odds_2 : decode cX9_odds 2 = .ok (.iload_n 2, 1) := by decide +kernel
theorem dX9_odds_3 : decode cX9_odds 3 = .ok (.iload_n 3, 1) := by decide +kernel
theorem dX9_odds_4 : decode cX9_odds 4 = .ok (.invokevirtual 251, 3) := by decide +kernel
theorem dX9_odds_7 : decode cX9_odds 7 = .ok (.istore 4, 2) := by decide +kernel
theorem dX9_odds_9 : decode cX9_odds 9 = .ok (.iload 4, 2) := by decide +kernel
theorem dX9_odds_11 : decode cX9_odds 11 = .ok (.ifCond .ge 6, 3) := by decide +kernel
theorem dX9_odds_14 : decode cX9_odds 14 = .ok (.iload 4, 2) := by decide +kernel
theorem dX9_odds_16 : decode cX9_odds 16 = .ok (.ireturn, 1) := by decide +kernel
theorem dX9_odds_17 : decode cX9_odds 17 = .ok (.bipush (-9), 2) := by decide +kernel
theorem dX9_odds_19 : decode cX9_odds 19 = .ok (.istore 5, 2) := by decide +kernel
theorem dX9_odds_21 : decode cX9_odds 21 = .ok (.iconst 0, 1) := by decide +kernel
theorem dX9_odds_22 : decode cX9_odds 22 = .ok (.istore 6, 2) := by decide +kernel
theorem dX9_odds_24 : decode cX9_odds 24 = .ok (.iconst 0, 1) := by decide +kernel
theorem dX9_odds_25 : decode cX9_odds 25 = .ok (.istore 7, 2) := by decide +kernel
theorem dX9_odds_27 : decode cX9_odds 27 = .ok (.iconst 0, 1) := by decide +kernel
theorem dX9_odds_28 : decode cX9_odds 28 = .ok (.istore 8, 2) := by decide +kernel
theorem dX9_odds_30 : decode cX9_odds 30 = .ok (.iload 8, 2) := by decide +kernel
theorem dX9_odds_32 : decode cX9_odds 32 = .ok (.sipush 1000, 3) := by decide +kernel
theorem dX9_odds_35 : decode cX9_odds 35 = .ok (.if_icmp .ge 92, 3) := by decide +kernel
theorem dX9_odds_38 : decode cX9_odds 38 = .ok (.aload_n 0, 1) := by decide +kernel
theorem dX9_odds_39 : decode cX9_odds 39 = .ok (.iload_n 3, 1) := by decide +kernel
theorem dX9_odds_40 : decode cX9_odds 40 = .ok (.iload 8, 2) := by decide +kernel
theorem dX9_odds_42 : decode cX9_odds 42 = .ok (.bipush 10, 2) := by decide +kernel
theorem dX9_odds_44 : decode cX9_odds 44 = .ok (.idiv, 1) := by decide +kernel
theorem dX9_odds_45 : decode cX9_odds 45 = .ok (.iload 8, 2) := by decide +kernel
theorem dX9_odds_47 : decode cX9_odds 47 = .ok (.bipush 10, 2) := by decide +kernel
theorem dX9_odds_49 : decode cX9_odds 49 = .ok (.irem, 1) := by decide +kernel
theorem dX9_odds_50 : decode cX9_odds 50 = .ok (.invokevirtual 255, 3) := by decide +kernel
theorem dX9_odds_53 : decode cX9_odds 53 = .ok (.istore 9, 2) := by decide +kernel
theorem dX9_odds_55 : decode cX9_odds 55 = .ok (.iload 5, 2) := by decide +kernel
theorem dX9_odds_57 : decode cX9_odds 57 = .ok (.bipush (-9), 2) := by decide +kernel
theorem dX9_odds_59 : decode cX9_odds 59 = .ok (.if_icmp .eq 10, 3) := by decide +kernel
theorem dX9_odds_62 : decode cX9_odds 62 = .ok (.iload 9, 2) := by decide +kernel
theorem dX9_odds_64 : decode cX9_odds 64 = .ok (.iload 5, 2) := by decide +kernel
theorem dX9_odds_66 : decode cX9_odds 66 = .ok (.if_icmp .ge 13, 3) := by decide +kernel
theorem dX9_odds_69 : decode cX9_odds 69 = .ok (.iload 9, 2) := by decide +kernel
theorem dX9_odds_71 : decode cX9_odds 71 = .ok (.istore 5, 2) := by decide +kernel
theorem dX9_odds_73 : decode cX9_odds 73 = .ok (.iconst 0, 1) := by decide +kernel
theorem dX9_odds_74 : decode cX9_odds 74 = .ok (.istore 6, 2) := by decide +kernel
theorem dX9_odds_76 : decode cX9_odds 76 = .ok (.iconst 0, 1) := by decide +kernel
theorem dX9_odds_77 : decode cX9_odds 77 = .ok (.istore 7, 2) := by decide +kernel
theorem dX9_odds_79 : decode cX9_odds 79 = .ok (.iload 6, 2) := by decide +kernel
theorem dX9_odds_81 : decode cX9_odds 81 = .ok (.iload 9, 2) := by decide +kernel
theorem dX9_odds_83 : decode cX9_odds 83 = .ok (.iload 5, 2) := by decide +kernel
theorem dX9_odds_85 : decode cX9_odds 85 = .ok (.if_icmp .ne 7, 3) := by decide +kernel
theorem dX9_odds_88 : decode cX9_odds 88 = .ok (.iconst 1, 1) := by decide +kernel
theorem dX9_odds_89 : decode cX9_odds 89 = .ok (.goto 4, 3) := by decide +kernel
theorem dX9_odds_92 : decode cX9_odds 92 = .ok (.iconst 0, 1) := by decide +kernel
theorem dX9_odds_93 : decode cX9_odds 93 = .ok (.iadd, 1) := by decide +kernel
theorem dX9_odds_94 : decode cX9_odds 94 = .ok (.istore 6, 2) := by decide +kernel
theorem dX9_odds_96 : decode cX9_odds 96 = .ok (.iload 7, 2) := by decide +kernel
theorem dX9_odds_98 : decode cX9_odds 98 = .ok (.iload 9, 2) := by decide +kernel
theorem dX9_odds_100 : decode cX9_odds 100 = .ok (.iload 5, 2) := by decide +kernel
theorem dX9_odds_102 : decode cX9_odds 102 = .ok (.if_icmp .ne 15, 3) := by decide +kernel
theorem dX9_odds_105 : decode cX9_odds 105 = .ok (.iload 8, 2) := by decide +kernel
theorem dX9_odds_107 : decode cX9_odds 107 = .ok (.bipush 10, 2) := by decide +kernel
theorem dX9_odds_109 : decode cX9_odds 109 = .ok (.irem, 1) := by decide +kernel
theorem dX9_odds_110 : decode cX9_odds 110 = .ok (.ifCond .le 7, 3) := by decide +kernel
theorem dX9_odds_113 : decode cX9_odds 113 = .ok (.iconst 1, 1) := by decide +kernel
theorem dX9_odds_114 : decode cX9_odds 114 = .ok (.goto 4, 3) := by decide +kernel
theorem dX9_odds_117 : decode cX9_odds 117 = .ok (.iconst 0, 1) := by decide +kernel
theorem dX9_odds_118 : decode cX9_odds 118 = .ok (.iadd, 1) := by decide +kernel
theorem dX9_odds_119 : decode cX9_odds 119 = .ok (.istore 7, 2) := by decide +kernel
theorem dX9_odds_121 : decode cX9_odds 121 = .ok (.iinc 8 1, 3) := by decide +kernel
theorem dX9_odds_124 : decode cX9_odds 124 = .ok (.goto (-94), 3) := by decide +kernel
theorem dX9_odds_127 : decode cX9_odds 127 = .ok (.aload_n 0, 1) := by decide +kernel
theorem dX9_odds_128 : decode cX9_odds 128 = .ok (.iload 7, 2) := by decide +kernel
theorem dX9_odds_130 : decode cX9_odds 130 = .ok (.i2l, 1) := by decide +kernel
theorem dX9_odds_131 : decode cX9_odds 131 = .ok (.iload 6, 2) := by decide +kernel
theorem dX9_odds_133 : decode cX9_odds 133 = .ok (.i2l, 1) := by decide +kernel
theorem dX9_odds_134 : decode cX9_odds 134 = .ok (.iload 6, 2) := by decide +kernel
theorem dX9_odds_136 : decode cX9_odds 136 = .ok (.invokevirtual 258, 3) := by decide +kernel
theorem dX9_odds_139 : decode cX9_odds 139 = .ok (.ireturn, 1) := by decide +kernel
theorem dX9_part_0 : decode cX9_part 0 = .ok (.aload_n 0, 1) := by decide +kernel
theorem dX9_part_1 : decode cX9_part 1 = .ok (.iload 4, 2) := by decide +kernel
theorem dX9_part_3 : decode cX9_part 3 = .ok (.iconst 0, 1) := by decide +kernel
theorem dX9_part_4 : decode cX9_part 4 = .ok (.iconst 3, 1) := by decide +kernel
theorem dX9_part_5 : decode cX9_part 5 = .ok (.invokestatic 80, 3) := by decide +kernel
theorem dX9_part_8 : decode cX9_part 8 = .ok (.iload_n 1, 1) := by decide +kernel
theorem dX9_part_9 : decode cX9_part 9 = .ok (.iload_n 2, 1) := by decide +kernel
theorem dX9_part_10 : decode cX9_part 10 = .ok (.iconst 0, 1) := by decide +kernel
theorem dX9_part_11 : decode cX9_part 11 = .ok (.iload_n 3, 1) := by decide +kernel
theorem dX9_part_12 : decode cX9_part 12 = .ok (.invokevirtual 238, 3) := by decide +kernel
theorem dX9_part_15 : decode cX9_part 15 = .ok (.istore 5, 2) := by decide +kernel
theorem dX9_part_17 : decode cX9_part 17 = .ok (.iload 5, 2) := by decide +kernel
theorem dX9_part_19 : decode cX9_part 19 = .ok (.ifCond .ge 6, 3) := by decide +kernel
theorem dX9_part_22 : decode cX9_part 22 = .ok (.iload 5, 2) := by decide +kernel
theorem dX9_part_24 : decode cX9_part 24 = .ok (.ireturn, 1) := by decide +kernel
theorem dX9_part_25 : decode cX9_part 25 = .ok (.aload_n 0, 1) := by decide +kernel
theorem dX9_part_26 : decode cX9_part 26 = .ok (.iload_n 3, 1) := by decide +kernel
theorem dX9_part_27 : decode cX9_part 27 = .ok (.invokevirtual 248, 3) := by decide +kernel
theorem dX9_part_30 : decode cX9_part 30 = .ok (.istore 6, 2) := by decide +kernel
theorem dX9_part_32 : decode cX9_part 32 = .ok (.aload_n 0, 1) := by decide +kernel
theorem dX9_part_33 : decode cX9_part 33 = .ok (.getfield 48, 3) := by decide +kernel
theorem dX9_part_36 : decode cX9_part 36 = .ok (.iload 4, 2) := by decide +kernel
theorem dX9_part_38 : decode cX9_part 38 = .ok (.iconst 1, 1) := by decide +kernel
theorem dX9_part_39 : decode cX9_part 39 = .ok (.iastore, 1) := by decide +kernel
theorem dX9_part_40 : decode cX9_part 40 = .ok (.aload_n 0, 1) := by decide +kernel
theorem dX9_part_41 : decode cX9_part 41 = .ok (.iload_n 3, 1) := by decide +kernel
theorem dX9_part_42 : decode cX9_part 42 = .ok (.invokevirtual 248, 3) := by decide +kernel
theorem dX9_part_45 : decode cX9_part 45 = .ok (.istore 7, 2) := by decide +kernel
theorem dX9_part_47 : decode cX9_part 47 = .ok (.aload_n 0, 1) := by decide +kernel
theorem dX9_part_48 : decode cX9_part 48 = .ok (.iload 7, 2) := by decide +kernel
theorem dX9_part_50 : decode cX9_part 50 = .ok (.bipush 100, 2) := by decide +kernel
theorem dX9_part_52 : decode cX9_part 52 = .ok (.iload 6, 2) := by decide +kernel
theorem dX9_part_54 : decode cX9_part 54 = .ok (.iadd, 1) := by decide +kernel
theorem dX9_part_55 : decode cX9_part 55 = .ok (.iload 7, 2) := by decide +kernel
theorem dX9_part_57 : decode cX9_part 57 = .ok (.isub, 1) := by decide +kernel
theorem dX9_part_58 : decode cX9_part 58 = .ok (.invokevirtual 102, 3) := by decide +kernel
theorem dX9_part_61 : decode cX9_part 61 = .ok (.ireturn, 1) := by decide +kernel
theorem dX9_made_0 : decode cX9_made 0 = .ok (.aload_n 0, 1) := by decide +kernel
theorem dX9_made_1 : decode cX9_made 1 = .ok (.iconst 1, 1) := by decide +kernel
theorem dX9_made_2 : decode cX9_made 2 = .ok (.iload_n 1, 1) := by decide +kernel
theorem dX9_made_3 : decode cX9_made 3 = .ok (.iload_n 2, 1) := by decide +kernel
theorem dX9_made_4 : decode cX9_made 4 = .ok (.iload_n 3, 1) := by decide +kernel
theorem dX9_made_5 : decode cX9_made 5 = .ok (.iload 4, 2) := by decide +kernel
theorem dX9_made_7 : decode cX9_made 7 = .ok (.invokevirtual 238, 3) := by decide +kernel
theorem dX9_made_10 : decode cX9_made 10 = .ok (.istore 5, 2) := by decide +kernel
theorem dX9_made_12 : decode cX9_made 12 = .ok (.iload 5, 2) := by decide +kernel
theorem dX9_made_14 : decode cX9_made 14 = .ok (.ifCond .ge 6, 3) := by decide +kernel
theorem dX9_made_17 : decode cX9_made 17 = .ok (.iload 5, 2) := by decide +kernel
theorem dX9_made_19 : decode cX9_made 19 = .ok (.ireturn, 1) := by decide +kernel
theorem dX9_made_20 : decode cX9_made 20 = .ok (.iconst 0, 1) := by decide +kernel
theorem dX9_made_21 : decode cX9_made 21 = .ok (.istore 6, 2) := by decide +kernel
theorem dX9_made_23 : decode cX9_made 23 = .ok (.iconst 0, 1) := by decide +kernel
theorem dX9_made_24 : decode cX9_made 24 = .ok (.istore 7, 2) := by decide +kernel
theorem dX9_made_26 : decode cX9_made 26 = .ok (.iconst 0, 1) := by decide +kernel
theorem dX9_made_27 : decode cX9_made 27 = .ok (.istore 8, 2) := by decide +kernel
theorem dX9_made_29 : decode cX9_made 29 = .ok (.iload 8, 2) := by decide +kernel
theorem dX9_made_31 : decode cX9_made 31 = .ok (.bipush 27, 2) := by decide +kernel
theorem dX9_made_33 : decode cX9_made 33 = .ok (.if_icmp .ge 131, 3) := by decide +kernel
theorem dX9_made_36 : decode cX9_made 36 = .ok (.aload_n 0, 1) := by decide +kernel
theorem dX9_made_37 : decode cX9_made 37 = .ok (.iload_n 1, 1) := by decide +kernel
theorem dX9_made_38 : decode cX9_made 38 = .ok (.iload_n 2, 1) := by decide +kernel
theorem dX9_made_39 : decode cX9_made 39 = .ok (.iload_n 3, 1) := by decide +kernel
theorem dX9_made_40 : decode cX9_made 40 = .ok (.invokevirtual 234, 3) := by decide +kernel
theorem dX9_made_43 : decode cX9_made 43 = .ok (.aload_n 0, 1) := by decide +kernel
theorem dX9_made_44 : decode cX9_made 44 = .ok (.getfield 48, 3) := by decide +kernel
theorem dX9_made_47 : decode cX9_made 47 = .ok (.iconst 0, 1) := by decide +kernel
theorem dX9_made_48 : decode cX9_made 48 = .ok (.dup2, 1) := by decide +kernel
theorem dX9_made_49 : decode cX9_made 49 = .ok (.iaload, 1) := by decide +kernel
theorem dX9_made_50 : decode cX9_made 50 = .ok (.iload 8, 2) := by decide +kernel
theorem dX9_made_52 : decode cX9_made 52 = .ok (.bipush 9, 2) := by decide +kernel
theorem dX9_made_54 : decode cX9_made 54 = .ok (.idiv, 1) := by decide +kernel
theorem dX9_made_55 : decode cX9_made 55 = .ok (.iconst 1, 1) := by decide +kernel
theorem dX9_made_56 : decode cX9_made 56 = .ok (.isub, 1) := by decide +kernel
theorem dX9_made_57 : decode cX9_made 57 = .ok (.iadd, 1) := by decide +kernel
theorem dX9_made_58 : decode cX9_made 58 = .ok (.iastore, 1) := by decide +kernel
theorem dX9_made_59 : decode cX9_made 59 = .ok (.aload_n 0, 1) := by decide +kernel
theorem dX9_made_60 : decode cX9_made 60 = .ok (.getfield 48, 3) := by decide +kernel
theorem dX9_made_63 : decode cX9_made 63 = .ok (.iconst 1, 1) := by decide +kernel
theorem dX9_made_64 : decode cX9_made 64 = .ok (.dup2, 1) := by decide +kernel
theorem dX9_made_65 : decode cX9_made 65 = .ok (.iaload, 1) := by decide +kernel
theorem dX9_made_66 : decode cX9_made 66 = .ok (.iload 8, 2) := by decide +kernel
theorem dX9_made_68 : decode cX9_made 68 = .ok (.iconst 3, 1) := by decide +kernel
theorem dX9_made_69 : decode cX9_made 69 = .ok (.idiv, 1) := by decide +kernel
theorem dX9_made_70 : decode cX9_made 70 = .ok (.iconst 3, 1) := by decide +kernel
theorem dX9_made_71 : decode cX9_made 71 = .ok (.irem, 1) := by decide +kernel
theorem dX9_made_72 : decode cX9_made 72 = .ok (.iconst 1, 1) := by decide +kernel
theorem dX9_made_73 : decode cX9_made 73 = .ok (.isub, 1) := by decide +kernel
theorem dX9_made_74 : decode cX9_made 74 = .ok (.iadd, 1) := by decide +kernel
theorem dX9_made_75 : decode cX9_made 75 = .ok (.iastore, 1) := by decide +kernel
theorem dX9_made_76 : decode cX9_made 76 = .ok (.aload_n 0, 1) := by decide +kernel
theorem dX9_made_77 : decode cX9_made 77 = .ok (.getfield 48, 3) := by decide +kernel
theorem dX9_made_80 : decode cX9_made 80 = .ok (.iconst 2, 1) := by decide +kernel
theorem dX9_made_81 : decode cX9_made 81 = .ok (.dup2, 1) := by decide +kernel
theorem dX9_made_82 : decode cX9_made 82 = .ok (.iaload, 1) := by decide +kernel
theorem dX9_made_83 : decode cX9_made 83 = .ok (.iload 8, 2) := by decide +kernel
theorem dX9_made_85 : decode cX9_made 85 = .ok (.iconst 3, 1) := by decide +kernel
theorem dX9_made_86 : decode cX9_made 86 = .ok (.irem, 1) := by decide +kernel
theorem dX9_made_87 : decode cX9_made 87 = .ok (.iconst 1, 1) := by decide +kernel
theorem dX9_made_88 : decode cX9_made 88 = .ok (.isub, 1) := by decide +kernel
theorem dX9_made_89 : decode cX9_made 89 = .ok (.iadd, 1) := by decide +kernel
theorem dX9_made_90 : decode cX9_made 90 = .ok (.iastore, 1) := by decide +kernel
theorem dX9_made_91 : decode cX9_made 91 = .ok (.aload_n 0, 1) := by decide +kernel
theorem dX9_made_92 : decode cX9_made 92 = .ok (.getfield 48, 3) := by decide +kernel
theorem dX9_made_95 : decode cX9_made 95 = .ok (.iconst 0, 1) := by decide +kernel
theorem dX9_made_96 : decode cX9_made 96 = .ok (.iaload, 1) := by decide +kernel
theorem dX9_made_97 : decode cX9_made 97 = .ok (.iconst 1, 1) := by decide +kernel
theorem dX9_made_98 : decode cX9_made 98 = .ok (.bipush 9, 2) := by decide +kernel
theorem dX9_made_100 : decode cX9_made 100 = .ok (.invokestatic 80, 3) := by decide +kernel
theorem dX9_made_103 : decode cX9_made 103 = .ok (.ifCond .eq 55, 3) := by decide +kernel
theorem dX9_made_106 : decode cX9_made 106 = .ok (.aload_n 0, 1) := by decide +kernel
theorem dX9_made_107 : decode cX9_made 107 = .ok (.getfield 48, 3) := by decide +kernel
theorem dX9_made_110 : decode cX9_made 110 = .ok (.iconst 1, 1) := by decide +kernel
theorem dX9_made_111 : decode cX9_made 111 = .ok (.iaload, 1) := by decide +kernel
theorem dX9_made_112 : decode cX9_made 112 = .ok (.iconst 1, 1) := by decide +kernel
theorem dX9_made_113 : decode cX9_made 113 = .ok (.bipush 9, 2) := by decide +kernel
theorem dX9_made_115 : decode cX9_made 115 = .ok (.invokestatic 80, 3) := by decide +kernel
theorem dX9_made_118 : decode cX9_made 118 = .ok (.ifCond .eq 40, 3) := by decide +kernel
theorem dX9_made_121 : decode cX9_made 121 = .ok (.aload_n 0, 1) := by decide +kernel
theorem dX9_made_122 : decode cX9_made 122 = .ok (.getfield 48, 3) := by decide +kernel
theorem dX9_made_125 : decode cX9_made 125 = .ok (.iconst 2, 1) := by decide +kernel
theorem dX9_made_126 : decode cX9_made 126 = .ok (.iaload, 1) := by decide +kernel
theorem dX9_made_127 : decode cX9_made 127 = .ok (.iconst 1, 1) := by decide +kernel
theorem dX9_made_128 : decode cX9_made 128 = .ok (.bipush 9, 2) := by decide +kernel
theorem dX9_made_130 : decode cX9_made 130 = .ok (.invokestatic 80, 3) := by decide +kernel
theorem dX9_made_133 : decode cX9_made 133 = .ok (.ifCond .eq 25, 3) := by decide +kernel
theorem dX9_made_136 : decode cX9_made 136 = .ok (.iinc 6 1, 3) := by decide +kernel
theorem dX9_made_139 : decode cX9_made 139 = .ok (.iload 7, 2) := by decide +kernel
theorem dX9_made_141 : decode cX9_made 141 = .ok (.aload_n 0, 1) := by decide +kernel
theorem dX9_made_142 : decode cX9_made 142 = .ok (.iload 4, 2) := by decide +kernel
theorem dX9_made_144 : decode cX9_made 144 = .ok (.invokevirtual 245, 3) := by decide +kernel
theorem dX9_made_147 : decode cX9_made 147 = .ok (.ifCond .eq 7, 3) := by decide +kernel
theorem dX9_made_150 : decode cX9_made 150 = .ok (.iconst 1, 1) := by decide +kernel
theorem dX9_made_151 : decode cX9_made 151 = .ok (.goto 4, 3) := by decide +kernel
theorem dX9_made_154 : decode cX9_made 154 = .ok (.iconst 0, 1) := by decide +kernel
theorem dX9_made_155 : decode cX9_made 155 = .ok (.iadd, 1) := by decide +kernel
theorem dX9_made_156 : decode cX9_made 156 = .ok (.istore 7, 2) := by decide +kernel
theorem dX9_made_158 : decode cX9_made 158 = .ok (.iinc 8 1, 3) := by decide +kernel
theorem dX9_made_161 : decode cX9_made 161 = .ok (.goto (-132), 3) := by decide +kernel
theorem dX9_made_164 : decode cX9_made 164 = .ok (.aload_n 0, 1) := by decide +kernel
theorem dX9_made_165 : decode cX9_made 165 = .ok (.iload 7, 2) := by decide +kernel
theorem dX9_made_167 : decode cX9_made 167 = .ok (.i2l, 1) := by decide +kernel
theorem dX9_made_168 : decode cX9_made 168 = .ok (.iload 6, 2) := by decide +kernel
theorem dX9_made_170 : decode cX9_made 170 = .ok (.i2l, 1) := by decide +kernel
theorem dX9_made_171 : decode cX9_made 171 = .ok (.iload 6, 2) := by decide +kernel
theorem dX9_made_173 : decode cX9_made 173 = .ok (.invokevirtual 258, 3) := by decide +kernel
theorem dX9_made_176 : decode cX9_made 176 = .ok (.ireturn, 1) := by decide +kernel
theorem dX9_would_0 : decode cX9_would 0 = .ok (.aload_n 0, 1) := by decide +kernel
theorem dX9_would_1 : decode cX9_would 1 = .ok (.iconst 1, 1) := by decide +kernel
theorem dX9_would_2 : decode cX9_would 2 = .ok (.iload_n 1, 1) := by decide +kernel
theorem dX9_would_3 : decode cX9_would 3 = .ok (.iload_n 2, 1) := by decide +kernel
theorem dX9_would_4 : decode cX9_would 4 = .ok (.iload_n 3, 1) := by decide +kernel
theorem dX9_would_5 : decode cX9_would 5 = .ok (.iload 4, 2) := by decide +kernel
theorem dX9_would_7 : decode cX9_would 7 = .ok (.invokevirtual 238, 3) := by decide +kernel
theorem dX9_would_10 : decode cX9_would 10 = .ok (.istore 5, 2) := by decide +kernel
theorem dX9_would_12 : decode cX9_would 12 = .ok (.iload 5, 2) := by decide +kernel
theorem dX9_would_14 : decode cX9_would 14 = .ok (.ifCond .ge 6, 3) := by decide +kernel
theorem dX9_would_17 : decode cX9_would 17 = .ok (.iload 5, 2) := by decide +kernel
theorem dX9_would_19 : decode cX9_would 19 = .ok (.ireturn, 1) := by decide +kernel
theorem dX9_would_20 : decode cX9_would 20 = .ok (.aload_n 0, 1) := by decide +kernel
theorem dX9_would_21 : decode cX9_would 21 = .ok (.getfield 33, 3) := by decide +kernel
theorem dX9_would_24 : decode cX9_would 24 = .ok (.bipush 7, 2) := by decide +kernel
theorem dX9_would_26 : decode cX9_would 26 = .ok (.iload_n 1, 1) := by decide +kernel
theorem dX9_would_27 : decode cX9_would 27 = .ok (.imul, 1) := by decide +kernel
theorem dX9_would_28 : decode cX9_would 28 = .ok (.bipush 6, 2) := by decide +kernel
theorem dX9_would_30 : decode cX9_would 30 = .ok (.iadd, 1) := by decide +kernel
theorem dX9_would_31 : decode cX9_would 31 = .ok (.iaload, 1) := by decide +kernel
theorem dX9_would_32 : decode cX9_would 32 = .ok (.istore 6, 2) := by decide +kernel
theorem dX9_would_34 : decode cX9_would 34 = .ok (.iload 6, 2) := by decide +kernel
theorem dX9_would_36 : decode cX9_would 36 = .ok (.invokestatic 142, 3) := by decide +kernel
theorem dX9_would_39 : decode cX9_would 39 = .ok (.iconst 3, 1) := by decide +kernel
theorem dX9_would_40 : decode cX9_would 40 = .ok (.if_icmp .le 6, 3) := by decide +kernel
theorem dX9_would_43 : decode cX9_would 43 = .ok (.bipush (-6), 2) := by decide +kernel
theorem dX9_would_45 : decode cX9_would 45 = .ok (.ireturn, 1) := by decide +kernel
theorem dX9_would_46 : decode cX9_would 46 = .ok (.iconst 1, 1) := by decide +kernel
theorem dX9_would_47 : decode cX9_would 47 = .ok (.istore 7, 2) := by decide +kernel
theorem dX9_would_49 : decode cX9_would 49 = .ok (.iconst 0, 1) := by decide +kernel
theorem dX9_would_50 : decode cX9_would 50 = .ok (.istore 8, 2) := by decide +kernel
theorem dX9_would_52 : decode cX9_would 52 = .ok (.iload 8, 2) := by decide +kernel
theorem dX9_would_54 : decode cX9_would 54 = .ok (.iload 6, 2) := by decide +kernel
theorem dX9_would_56 : decode cX9_would 56 = .ok (.invokestatic 142, 3) := by decide +kernel
theorem dX9_would_59 : decode cX9_would 59 = .ok (.if_icmp .ge 16, 3) := by decide +kernel
theorem dX9_would_62 : decode cX9_would 62 = .ok (.iload 7, 2) := by decide +kernel
theorem dX9_would_64 : decode cX9_would 64 = .ok (.bipush 9, 2) := by decide +kernel
theorem dX9_would_66 : decode cX9_would 66 = .ok (.imul, 1) := by decide +kernel
theorem dX9_would_67 : decode cX9_would 67 = .ok (.istore 7, 2) := by decide +kernel
theorem dX9_would_69 : decode cX9_would 69 = .ok (.iinc 8 1, 3) := by decide +kernel
theorem dX9_would_72 : decode cX9_would 72 = .ok (.goto (-20), 3) := by decide +kernel
theorem dX9_would_75 : decode cX9_would 75 = .ok (.iconst 0, 1) := by decide +kernel
theorem dX9_would_76 : decode cX9_would 76 = .ok (.istore 8, 2) := by decide +kernel
theorem dX9_would_78 : decode cX9_would 78 = .ok (.bipush (-9), 2) := by decide +kernel
theorem dX9_would_80 : decode cX9_would 80 = .ok (.istore 9, 2) := by decide +kernel
theorem dX9_would_82 : decode cX9_would 82 = .ok (.iconst 0, 1) := by decide +kernel
theorem dX9_would_83 : decode cX9_would 83 = .ok (.istore 10, 2) := by decide +kernel
theorem dX9_would_85 : decode cX9_would 85 = .ok (.iload 10, 2) := by decide +kernel
theorem dX9_would_87 : decode cX9_would 87 = .ok (.iload 7, 2) := by decide +kernel
theorem dX9_would_89 : decode cX9_would 89 = .ok (.if_icmp .ge 120, 3) := by decide +kernel
theorem dX9_would_92 : decode cX9_would 92 = .ok (.iload 10, 2) := by decide +kernel
theorem dX9_would_94 : decode cX9_would 94 = .ok (.istore 11, 2) := by decide +kernel
theorem dX9_would_96 : decode cX9_would 96 = .ok (.iconst 3, 1) := by decide +kernel
theorem dX9_would_97 : decode cX9_would 97 = .ok (.istore 12, 2) := by decide +kernel
theorem dX9_would_99 : decode cX9_would 99 = .ok (.iload 12, 2) := by decide +kernel
theorem dX9_would_101 : decode cX9_would 101 = .ok (.ifCond .lt 41, 3) := by decide +kernel
theorem dX9_would_104 : decode cX9_would 104 = .ok (.iload 6, 2) := by decide +kernel
theorem dX9_would_106 : decode cX9_would 106 = .ok (.iload 12, 2) := by decide +kernel
theorem dX9_would_108 : decode cX9_would 108 = .ok (.ishr, 1) := by decide +kernel
theorem dX9_would_109 : decode cX9_would 109 = .ok (.iconst 1, 1) := by decide +kernel
theorem dX9_would_110 : decode cX9_would 110 = .ok (.iand, 1) := by decide +kernel
theorem dX9_would_111 : decode cX9_would 111 = .ok (.iconst 1, 1) := by decide +kernel
theorem dX9_would_112 : decode cX9_would 112 = .ok (.if_icmp .ne 24, 3) := by decide +kernel
theorem dX9_would_115 : decode cX9_would 115 = .ok (.aload_n 0, 1) := by decide +kernel
theorem dX9_would_116 : decode cX9_would 116 = .ok (.getfield 48, 3) := by decide +kernel
theorem dX9_would_119 : decode cX9_would 119 = .ok (.iload 12, 2) := by decide +kernel
theorem dX9_would_121 : decode cX9_would 121 = .ok (.iconst 1, 1) := by decide +kernel
theorem dX9_would_122 : decode cX9_would 122 = .ok (.iload 11, 2) := by decide +kernel
theorem dX9_would_124 : decode cX9_would 124 = .ok (.bipush 9, 2) := by decide +kernel
theorem dX9_would_126 : decode cX9_would 126 = .ok (.irem, 1) := by decide +kernel
theorem dX9_would_127 : decode cX9_would 127 = .ok (.iadd, 1) := by decide +kernel
theorem dX9_would_128 : decode cX9_would 128 = .ok (.iastore, 1) := by decide +kernel
theorem dX9_would_129 : decode cX9_would 129 = .ok (.iload 11, 2) := by decide +kernel
theorem dX9_would_131 : decode cX9_would 131 = .ok (.bipush 9, 2) := by decide +kernel
theorem dX9_would_133 : decode cX9_would 133 = .ok (.idiv, 1) := by decide +kernel
theorem dX9_would_134 : decode cX9_would 134 = .ok (.istore 11, 2) := by decide +kernel
theorem dX9_would_136 : decode cX9_would 136 = .ok (.iinc 12 (-1), 3) := by decide +kernel
theorem dX9_would_139 : decode cX9_would 139 = .ok (.goto (-40), 3) := by decide +kernel
theorem dX9_would_142 : decode cX9_would 142 = .ok (.aload_n 0, 1) := by decide +kernel
theorem dX9_would_143 : decode cX9_would 143 = .ok (.iload 4, 2) := by decide +kernel
theorem dX9_would_145 : decode cX9_would 145 = .ok (.invokevirtual 245, 3) := by decide +kernel
theorem dX9_would_148 : decode cX9_would 148 = .ok (.ifCond .eq 55, 3) := by decide +kernel
theorem dX9_would_151 : decode cX9_would 151 = .ok (.iload 8, 2) := by decide +kernel
theorem dX9_would_153 : decode cX9_would 153 = .ok (.ifCond .ne 43, 3) := by decide +kernel
theorem dX9_would_156 : decode cX9_would 156 = .ok (.sipush 1000, 3) := by decide +kernel
theorem dX9_would_159 : decode cX9_would 159 = .ok (.aload_n 0, 1) := by decide +kernel
theorem dX9_would_160 : decode cX9_would 160 = .ok (.getfield 48, 3) := by decide +kernel
theorem dX9_would_163 : decode cX9_would 163 = .ok (.iconst 0, 1) := by decide +kernel
theorem dX9_would_164 : decode cX9_would 164 = .ok (.iaload, 1) := by decide +kernel
theorem dX9_would_165 : decode cX9_would 165 = .ok (.imul, 1) := by decide +kernel
theorem dX9_would_166 : decode cX9_would 166 = .ok (.bipush 100, 2) := by decide +kernel
theorem dX9_would_168 : decode cX9_would 168 = .ok (.aload_n 0, 1) := by decide +kernel
theorem dX9_would_169 : decode cX9_would 169 = .ok (.getfield 48, 3) := by decide +kernel
theorem dX9_would_172 : decode cX9_would 172 = .ok (.iconst 1, 1) := by decide +kernel
theorem dX9_would_173 : decode cX9_would 173 = .ok (.iaload, 1) := by decide +kernel
theorem dX9_would_174 : decode cX9_would 174 = .ok (.imul, 1) := by decide +kernel
theorem dX9_would_175 : decode cX9_would 175 = .ok (.iadd, 1) := by decide +kernel
theorem dX9_would_176 : decode cX9_would 176 = .ok (.bipush 10, 2) := by decide +kernel
theorem dX9_would_178 : decode cX9_would 178 = .ok (.aload_n 0, 1) := by decide +kernel
theorem dX9_would_179 : decode cX9_would 179 = .ok (.getfield 48, 3) := by decide +kernel
theorem dX9_would_182 : decode cX9_would 182 = .ok (.iconst 2, 1) := by decide +kernel
theorem dX9_would_183 : decode cX9_would 183 = .ok (.iaload, 1) := by decide +kernel
theorem dX9_would_184 : decode cX9_would 184 = .ok (.imul, 1) := by decide +kernel
theorem dX9_would_185 : decode cX9_would 185 = .ok (.iadd, 1) := by decide +kernel
theorem dX9_would_186 : decode cX9_would 186 = .ok (.aload_n 0, 1) := by decide +kernel
theorem dX9_would_187 : decode cX9_would 187 = .ok (.getfield 48, 3) := by decide +kernel
theorem dX9_would_190 : decode cX9_would 190 = .ok (.iconst 3, 1) := by decide +kernel
theorem dX9_would_191 : decode cX9_would 191 = .ok (.iaload, 1) := by decide +kernel
theorem dX9_would_192 : decode cX9_would 192 = .ok (.iadd, 1) := by decide +kernel
theorem dX9_would_193 : decode cX9_would 193 = .ok (.goto 5, 3) := by decide +kernel
theorem dX9_would_196 : decode cX9_would 196 = .ok (.iload 9, 2) := by decide +kernel
theorem dX9_would_198 : decode cX9_would 198 = .ok (.istore 9, 2) := by decide +kernel
theorem dX9_would_200 : decode cX9_would 200 = .ok (.iinc 8 1, 3) := by decide +kernel
theorem dX9_would_203 : decode cX9_would 203 = .ok (.iinc 10 1, 3) := by decide +kernel
theorem dX9_would_206 : decode cX9_would 206 = .ok (.goto (-121), 3) := by decide +kernel
theorem dX9_would_209 : decode cX9_would 209 = .ok (.aload_n 0, 1) := by decide +kernel
theorem dX9_would_210 : decode cX9_would 210 = .ok (.iload 9, 2) := by decide +kernel
theorem dX9_would_212 : decode cX9_would 212 = .ok (.iload 8, 2) := by decide +kernel
theorem dX9_would_214 : decode cX9_would 214 = .ok (.invokevirtual 102, 3) := by decide +kernel
theorem dX9_would_217 : decode cX9_would 217 = .ok (.ireturn, 1) := by decide +kernel
theorem dX9_yard_0 : decode cX9_yard 0 = .ok (.aload_n 0, 1) := by decide +kernel
theorem dX9_yard_1 : decode cX9_yard 1 = .ok (.iload 5, 2) := by decide +kernel
theorem dX9_yard_3 : decode cX9_yard 3 = .ok (.iconst 1, 1) := by decide +kernel
theorem dX9_yard_4 : decode cX9_yard 4 = .ok (.sipush 2000, 3) := by decide +kernel
theorem dX9_yard_7 : decode cX9_yard 7 = .ok (.invokestatic 80, 3) := by decide +kernel
theorem dX9_yard_10 : decode cX9_yard 10 = .ok (.iload_n 1, 1) := by decide +kernel
theorem dX9_yard_11 : decode cX9_yard 11 = .ok (.iload_n 2, 1) := by decide +kernel
theorem dX9_yard_12 : decode cX9_yard 12 = .ok (.iload_n 3, 1) := by decide +kernel
theorem dX9_yard_13 : decode cX9_yard 13 = .ok (.iload 4, 2) := by decide +kernel
theorem dX9_yard_15 : decode cX9_yard 15 = .ok (.invokevirtual 238, 3) := by decide +kernel
theorem dX9_yard_18 : decode cX9_yard 18 = .ok (.istore 6, 2) := by decide +kernel
theorem dX9_yard_20 : decode cX9_yard 20 = .ok (.iload 6, 2) := by decide +kernel
theorem dX9_yard_22 : decode cX9_yard 22 = .ok (.ifCond .ge 6, 3) := by decide +kernel
theorem dX9_yard_25 : decode cX9_yard 25 = .ok (.iload 6, 2) := by decide +kernel
theorem dX9_yard_27 : decode cX9_yard 27 = .ok (.ireturn, 1) := by decide +kernel
theorem dX9_yard_28 : decode cX9_yard 28 = .ok (.aload_n 0, 1) := by decide +kernel
theorem dX9_yard_29 : decode cX9_yard 29 = .ok (.iload 4, 2) := by decide +kernel
theorem dX9_yard_31 : decode cX9_yard 31 = .ok (.iconst 0, 1) := by decide +kernel
theorem dX9_yard_32 : decode cX9_yard 32 = .ok (.invokevirtual 183, 3) := by decide +kernel
theorem dX9_yard_35 : decode cX9_yard 35 = .ok (.iconst 0, 1) := by decide +kernel
theorem dX9_yard_36 : decode cX9_yard 36 = .ok (.istore 7, 2) := by decide +kernel
theorem dX9_yard_38 : decode cX9_yard 38 = .ok (.iload 7, 2) := by decide +kernel
theorem dX9_yard_40 : decode cX9_yard 40 = .ok (.sipush 400, 3) := by decide +kernel
theorem dX9_yard_43 : decode cX9_yard 43 = .ok (.if_icmp .ge 44, 3) := by decide +kernel
theorem dX9_yard_46 : decode cX9_yard 46 = .ok (.aload_n 0, 1) := by decide +kernel
theorem dX9_yard_47 : decode cX9_yard 47 = .ok (.getfield 160, 3) := by decide +kernel
theorem dX9_yard_50 : decode cX9_yard 50 = .ok (.ifCond .ne 37, 3) := by decide +kernel
theorem dX9_yard_53 : decode cX9_yard 53 = .ok (.aload_n 0, 1) := by decide +kernel
theorem dX9_yard_54 : decode cX9_yard 54 = .ok (.iload 7, 2) := by decide +kernel
theorem dX9_yard_56 : decode cX9_yard 56 = .ok (.invokevirtual 206, 3) := by decide +kernel
theorem dX9_yard_59 : decode cX9_yard 59 = .ok (.aload_n 0, 1) := by decide +kernel
theorem dX9_yard_60 : decode cX9_yard 60 = .ok (.getfield 166, 3) := by decide +kernel
theorem dX9_yard_63 : decode cX9_yard 63 = .ok (.iload 5, 2) := by decide +kernel
theorem dX9_yard_65 : decode cX9_yard 65 = .ok (.if_icmp .lt 16, 3) := by decide +kernel
theorem dX9_yard_68 : decode cX9_yard 68 = .ok (.aload_n 0, 1) := by decide +kernel
theorem dX9_yard_69 : decode cX9_yard 69 = .ok (.aload_n 0, 1) := by decide +kernel
theorem dX9_yard_70 : decode cX9_yard 70 = .ok (.getfield 163, 3) := by decide +kernel
theorem dX9_yard_73 : decode cX9_yard 73 = .ok (.iload 7, 2) := by decide +kernel
theorem dX9_yard_75 : decode cX9_yard 75 = .ok (.iconst 1, 1) := by decide +kernel
theorem dX9_yard_76 : decode cX9_yard 76 = .ok (.iadd, 1) := by decide +kernel
theorem dX9_yard_77 : decode cX9_yard 77 = .ok (.invokevirtual 102, 3) := by decide +kernel
theorem dX9_yard_80 : decode cX9_yard 80 = .ok (.ireturn, 1) := by decide +kernel
theorem dX9_yard_81 : decode cX9_yard 81 = .ok (.iinc 7 1, 3) := by decide +kernel
theorem dX9_yard_84 : decode cX9_yard 84 = .ok (.goto (-46), 3) := by decide +kernel
theorem dX9_yard_87 : decode cX9_yard 87 = .ok (.bipush (-9), 2) := by decide +kernel
theorem dX9_yard_89 : decode cX9_yard 89 = .ok (.ireturn, 1) := by decide +kernel
theorem dX9_push_0 : decode cX9_push 0 = .ok (.aload_n 0, 1) := by decide +kernel
theorem dX9_push_1 : decode cX9_push 1 = .ok (.iconst 1, 1) := by decide +kernel
theorem dX9_push_2 : decode cX9_push 2 = .ok (.iload_n 1, 1) := by decide +kernel
theorem dX9_push_3 : decode cX9_push 3 = .ok (.iload_n 2, 1) := by decide +kernel
theorem dX9_push_4 : decode cX9_push 4 = .ok (.iconst 0, 1) := by decide +kernel
theorem dX9_push_5 : decode cX9_push 5 = .ok (.iload_n 3, 1) := by decide +kernel
theorem dX9_push_6 : decode cX9_push 6 = .ok (.invokevirtual 238, 3) := by decide +kernel
theorem dX9_push_9 : decode cX9_push 9 = .ok (.istore 4, 2) := by decide +kernel
theorem dX9_push_11 : decode cX9_push 11 = .ok (.iload 4, 2) := by decide +kernel
theorem dX9_push_13 : decode cX9_push 13 = .ok (.ifCond .ge 6, 3) := by decide +kernel
theorem dX9_push_16 : decode cX9_push 16 = .ok (.iload 4, 2) := by decide +kernel
theorem dX9_push_18 : decode cX9_push 18 = .ok (.ireturn, 1) := by decide +kernel
theorem dX9_push_19 : decode cX9_push 19 = .ok (.bipush (-9), 2) := by decide +kernel
theorem dX9_push_21 : decode cX9_push 21 = .ok (.istore 5, 2) := by decide +kernel
theorem dX9_push_23 : decode cX9_push 23 = .ok (.bipush (-9), 2) := by decide +kernel
theorem dX9_push_25 : decode cX9_push 25 = .ok (.istore 6, 2) := by decide +kernel
theorem dX9_push_27 : decode cX9_push 27 = .ok (.bipush 99, 2) := by decide +kernel
theorem dX9_push_29 : decode cX9_push 29 = .ok (.istore 7, 2) := by decide +kernel
theorem dX9_push_31 : decode cX9_push 31 = .ok (.iload 7, 2) := by decide +kernel
theorem dX9_push_33 : decode cX9_push 33 = .ok (.iconst 1, 1) := by decide +kernel
theorem dX9_push_34 : decode cX9_push 34 = .ok (.if_icmp .lt 77, 3) := by decide +kernel
theorem dX9_push_37 : decode cX9_push 37 = .ok (.aload_n 0, 1) := by decide +kernel
theorem dX9_push_38 : decode cX9_push 38 = .ok (.getfield 51, 3) := by decide +kernel
theorem dX9_push_41 : decode cX9_push 41 = .ok (.iconst 0, 1) := by decide +kernel
theorem dX9_push_42 : decode cX9_push 42 = .ok (.iload 7, 2) := by decide +kernel
theorem dX9_push_44 : decode cX9_push 44 = .ok (.iastore, 1) := by decide +kernel
theorem dX9_push_45 : decode cX9_push 45 = .ok (.aload_n 0, 1) := by decide +kernel
theorem dX9_push_46 : decode cX9_push 46 = .ok (.getfield 51, 3) := by decide +kernel
theorem dX9_push_49 : decode cX9_push 49 = .ok (.iconst 1, 1) := by decide +kernel
theorem dX9_push_50 : decode cX9_push 50 = .ok (.iload 7, 2) := by decide +kernel
theorem dX9_push_52 : decode cX9_push 52 = .ok (.iastore, 1) := by decide +kernel
theorem dX9_push_53 : decode cX9_push 53 = .ok (.aload_n 0, 1) := by decide +kernel
theorem dX9_push_54 : decode cX9_push 54 = .ok (.iload_n 3, 1) := by decide +kernel
theorem dX9_push_55 : decode cX9_push 55 = .ok (.invokevirtual 245, 3) := by decide +kernel
theorem dX9_push_58 : decode cX9_push 58 = .ok (.ifCond .eq 8, 3) := by decide +kernel
theorem dX9_push_61 : decode cX9_push 61 = .ok (.iload 7, 2) := by decide +kernel
theorem dX9_push_63 : decode cX9_push 63 = .ok (.goto 5, 3) := by decide +kernel
theorem dX9_push_66 : decode cX9_push 66 = .ok (.iload 5, 2) := by decide +kernel
theorem dX9_push_68 : decode cX9_push 68 = .ok (.istore 5, 2) := by decide +kernel
theorem dX9_push_70 : decode cX9_push 70 = .ok (.aload_n 0, 1) := by decide +kernel
theorem dX9_push_71 : decode cX9_push 71 = .ok (.getfield 51, 3) := by decide +kernel
theorem dX9_push_74 : decode cX9_push 74 = .ok (.iconst 1, 1) := by decide +kernel
theorem dX9_push_75 : decode cX9_push 75 = .ok (.iconst 0, 1) := by decide +kernel
theorem dX9_push_76 : decode cX9_push 76 = .ok (.iastore, 1) := by decide +kernel
theorem dX9_push_77 : decode cX9_push 77 = .ok (.aload_n 0, 1) := by decide +kernel
theorem dX9_push_78 : decode cX9_push 78 = .ok (.iload_n 3, 1) := by decide +kernel
theorem dX9_push_79 : decode cX9_push 79 = .ok (.invokevirtual 224, 3) := by decide +kernel
theorem dX9_push_82 : decode cX9_push 82 = .ok (.istore 8, 2) := by decide +kernel
theorem dX9_push_84 : decode cX9_push 84 = .ok (.iload 8, 2) := by decide +kernel
theorem dX9_push_86 : decode cX9_push 86 = .ok (.iconst 4, 1) := by decide +kernel
theorem dX9_push_87 : decode cX9_push 87 = .ok (.if_icmp .eq 14, 3) := by decide +kernel
theorem dX9_push_90 : decode cX9_push 90 = .ok (.iload 8, 2) := by decide +kernel
theorem dX9_push_92 : decode cX9_push 92 = .ok (.iconst 5, 1) := by decide +kernel
theorem dX9_push_93 : decode cX9_push 93 = .ok (.if_icmp .eq 8, 3) := by decide +kernel
theorem dX9_push_96 : decode cX9_push 96 = .ok (.iload 7, 2) := by decide +kernel
theorem dX9_push_98 : decode cX9_push 98 = .ok (.goto 5, 3) := by decide +kernel
theorem dX9_push_101 : decode cX9_push 101 = .ok (.iload 6, 2) := by decide +kernel
theorem dX9_push_103 : decode cX9_push 103 = .ok (.istore 6, 2) := by decide +kernel
theorem dX9_push_105 : decode cX9_push 105 = .ok (.iinc 7 (-1), 3) := by decide +kernel
theorem dX9_push_108 : decode cX9_push 108 = .ok (.goto (-77), 3) := by decide +kernel
theorem dX9_push_111 : decode cX9_push 111 = .ok (.iload 5, 2) := by decide +kernel
theorem dX9_push_113 : decode cX9_push 113 = .ok (.bipush (-9), 2) := by decide +kernel
theorem dX9_push_115 : decode cX9_push 115 = .ok (.if_icmp .ne 8, 3) := by decide +kernel
theorem dX9_push_118 : decode cX9_push 118 = .ok (.bipush (-9), 2) := by decide +kernel
theorem dX9_push_120 : decode cX9_push 120 = .ok (.goto 11, 3) := by decide +kernel
theorem dX9_push_123 : decode cX9_push 123 = .ok (.aload_n 0, 1) := by decide +kernel
theorem dX9_push_124 : decode cX9_push 124 = .ok (.iload 6, 2) := by decide +kernel
theorem dX9_push_126 : decode cX9_push 126 = .ok (.iload 5, 2) := by decide +kernel
theorem dX9_push_128 : decode cX9_push 128 = .ok (.invokevirtual 102, 3) := by decide +kernel
theorem dX9_push_131 : decode cX9_push 131 = .ok (.ireturn, 1) := by decide +kernel
theorem dX9_bears_0 : decode cX9_bears 0 = .ok (.aload_n 0, 1) := by decide +kernel
theorem dX9_bears_1 : decode cX9_bears 1 = .ok (.iload 5, 2) := by decide +kernel
theorem dX9_bears_3 : decode cX9_bears 3 = .ok (.iconst 0, 1) := by decide +kernel
theorem dX9_bears_4 : decode cX9_bears 4 = .ok (.bipush 99, 2) := by decide +kernel
theorem dX9_bears_6 : decode cX9_bears 6 = .ok (.invokestatic 80, 3) := by decide +kernel
theorem dX9_bears_9 : decode cX9_bears 9 = .ok (.iload_n 1, 1) := by decide +kernel
theorem dX9_bears_10 : decode cX9_bears 10 = .ok (.iload_n 2, 1) := by decide +kernel
theorem dX9_bears_11 : decode cX9_bears 11 = .ok (.iload_n 3, 1) := by decide +kernel
theorem dX9_bears_12 : decode cX9_bears 12 = .ok (.iload 4, 2) := by decide +kernel
theorem dX9_bears_14 : decode cX9_bears 14 = .ok (.invokevirtual 238, 3) := by decide +kernel
theorem dX9_bears_17 : decode cX9_bears 17 = .ok (.istore 6, 2) := by decide +kernel
theorem dX9_bears_19 : decode cX9_bears 19 = .ok (.iload 6, 2) := by decide +kernel
theorem dX9_bears_21 : decode cX9_bears 21 = .ok (.ifCond .ge 6, 3) := by decide +kernel
theorem dX9_bears_24 : decode cX9_bears 24 = .ok (.iload 6, 2) := by decide +kernel
theorem dX9_bears_26 : decode cX9_bears 26 = .ok (.ireturn, 1) := by decide +kernel
theorem dX9_bears_27 : decode cX9_bears 27 = .ok (.bipush (-9), 2) := by decide +kernel
theorem dX9_bears_29 : decode cX9_bears 29 = .ok (.istore 7, 2) := by decide +kernel
theorem dX9_bears_31 : decode cX9_bears 31 = .ok (.aload_n 0, 1) := by decide +kernel
theorem dX9_bears_32 : decode cX9_bears 32 = .ok (.iload 5, 2) := by decide +kernel
theorem dX9_bears_34 : decode cX9_bears 34 = .ok (.putfield 151, 3) := by decide +kernel
theorem dX9_bears_37 : decode cX9_bears 37 = .ok (.bipush 99, 2) := by decide +kernel
theorem dX9_bears_39 : decode cX9_bears 39 = .ok (.istore 8, 2) := by decide +kernel
theorem dX9_bears_41 : decode cX9_bears 41 = .ok (.iload 8, 2) := by decide +kernel
theorem dX9_bears_43 : decode cX9_bears 43 = .ok (.ifCond .lt 90, 3) := by decide +kernel
theorem dX9_bears_46 : decode cX9_bears 46 = .ok (.aload_n 0, 1) := by decide +kernel
theorem dX9_bears_47 : decode cX9_bears 47 = .ok (.iload 8, 2) := by decide +kernel
theorem dX9_bears_49 : decode cX9_bears 49 = .ok (.putfield 176, 3) := by decide +kernel
theorem dX9_bears_52 : decode cX9_bears 52 = .ok (.aload_n 0, 1) := by decide +kernel
theorem dX9_bears_53 : decode cX9_bears 53 = .ok (.iload 4, 2) := by decide +kernel
theorem dX9_bears_55 : decode cX9_bears 55 = .ok (.iconst 0, 1) := by decide +kernel
theorem dX9_bears_56 : decode cX9_bears 56 = .ok (.invokevirtual 183, 3) := by decide +kernel
theorem dX9_bears_59 : decode cX9_bears 59 = .ok (.iconst 0, 1) := by decide +kernel
theorem dX9_bears_60 : decode cX9_bears 60 = .ok (.istore 9, 2) := by decide +kernel
theorem dX9_bears_62 : decode cX9_bears 62 = .ok (.iload 9, 2) := by decide +kernel
theorem dX9_bears_64 : decode cX9_bears 64 = .ok (.sipush 200, 3) := by decide +kernel
theorem dX9_bears_67 : decode cX9_bears 67 = .ok (.if_icmp .ge 22, 3) := by decide +kernel
theorem dX9_bears_70 : decode cX9_bears 70 = .ok (.aload_n 0, 1) := by decide +kernel
theorem dX9_bears_71 : decode cX9_bears 71 = .ok (.getfield 160, 3) := by decide +kernel
theorem dX9_bears_74 : decode cX9_bears 74 = .ok (.ifCond .ne 15, 3) := by decide +kernel
theorem dX9_bears_77 : decode cX9_bears 77 = .ok (.aload_n 0, 1) := by decide +kernel
theorem dX9_bears_78 : decode cX9_bears 78 = .ok (.iload 9, 2) := by decide +kernel
theorem dX9_bears_80 : decode cX9_bears 80 = .ok (.invokevirtual 206, 3) := by decide +kernel
theorem dX9_bears_83 : decode cX9_bears 83 = .ok (.iinc 9 1, 3) := by decide +kernel
theorem dX9_bears_86 : decode cX9_bears 86 = .ok (.goto (-24), 3) := by decide +kernel
theorem dX9_bears_89 : decode cX9_bears 89 = .ok (.iload 8, 2) := by decide +kernel
theorem dX9_bears_91 : decode cX9_bears 91 = .ok (.ifCond .ne 13, 3) := by decide +kernel
theorem dX9_bears_94 : decode cX9_bears 94 = .ok (.aload_n 0, 1) := by decide +kernel
theorem dX9_bears_95 : decode cX9_bears 95 = .ok (.getfield 160, 3) := by decide +kernel
theorem dX9_bears_98 : decode cX9_bears 98 = .ok (.ifCond .eq 6, 3) := by decide +kernel
theorem dX9_bears_101 : decode cX9_bears 101 = .ok (.bipush (-9), 2) := by decide +kernel
theorem dX9_bears_103 : decode cX9_bears 103 = .ok (.ireturn, 1) := by decide +kernel
theorem dX9_bears_104 : decode cX9_bears 104 = .ok (.aload_n 0, 1) := by decide +kernel
theorem dX9_bears_105 : decode cX9_bears 105 = .ok (.getfield 160, 3) := by decide +kernel
theorem dX9_bears_108 : decode cX9_bears 108 = .ok (.ifCond .ne 15, 3) := by decide +kernel
theorem dX9_bears_111 : decode cX9_bears 111 = .ok (.iload 7, 2) := by decide +kernel
theorem dX9_bears_113 : decode cX9_bears 113 = .ok (.bipush (-9), 2) := by decide +kernel
theorem dX9_bears_115 : decode cX9_bears 115 = .ok (.if_icmp .ne 8, 3) := by decide +kernel
theorem dX9_bears_118 : decode cX9_bears 118 = .ok (.iload 8, 2) := by decide +kernel
theorem dX9_bears_120 : decode cX9_bears 120 = .ok (.goto 5, 3) := by decide +kernel
theorem dX9_bears_123 : decode cX9_bears 123 = .ok (.iload 7, 2) := by decide +kernel
theorem dX9_bears_125 : decode cX9_bears 125 = .ok (.istore 7, 2) := by decide +kernel
theorem dX9_bears_127 : decode cX9_bears 127 = .ok (.iinc 8 (-1), 3) := by decide +kernel
theorem dX9_bears_130 : decode cX9_bears 130 = .ok (.goto (-89), 3) := by decide +kernel
theorem dX9_bears_133 : decode cX9_bears 133 = .ok (.iload 7, 2) := by decide +kernel
theorem dX9_bears_135 : decode cX9_bears 135 = .ok (.ireturn, 1) := by decide +kernel
theorem dX9_meets_0 : decode cX9_meets 0 = .ok (.iload_n 2, 1) := by decide +kernel
theorem dX9_meets_1 : decode cX9_meets 1 = .ok (.invokestatic 139, 3) := by decide +kernel
theorem dX9_meets_4 : decode cX9_meets 4 = .ok (.ifCond .eq 16, 3) := by decide +kernel
theorem dX9_meets_7 : decode cX9_meets 7 = .ok (.aload_n 0, 1) := by decide +kernel
theorem dX9_meets_8 : decode cX9_meets 8 = .ok (.iload_n 1, 1) := by decide +kernel
theorem dX9_meets_9 : decode cX9_meets 9 = .ok (.iload_n 3, 1) := by decide +kernel
theorem dX9_meets_10 : decode cX9_meets 10 = .ok (.iload 4, 2) := by decide +kernel
theorem dX9_meets_12 : decode cX9_meets 12 = .ok (.iload 5, 2) := by decide +kernel
theorem dX9_meets_14 : decode cX9_meets 14 = .ok (.invokevirtual 230, 3) := by decide +kernel
theorem dX9_meets_17 : decode cX9_meets 17 = .ok (.ifCond .ne 5, 3) := by decide +kernel
theorem dX9_meets_20 : decode cX9_meets 20 = .ok (.iconst (-1), 1) := by decide +kernel
theorem dX9_meets_21 : decode cX9_meets 21 = .ok (.ireturn, 1) := by decide +kernel
theorem dX9_meets_22 : decode cX9_meets 22 = .ok (.aload_n 0, 1) := by decide +kernel
theorem dX9_meets_23 : decode cX9_meets 23 = .ok (.getfield 29, 3) := by decide +kernel
theorem dX9_meets_26 : decode cX9_meets 26 = .ok (.iload_n 1, 1) := by decide +kernel
theorem dX9_meets_27 : decode cX9_meets 27 = .ok (.baload, 1) := by decide +kernel
theorem dX9_meets_28 : decode cX9_meets 28 = .ok (.ifCond .eq 21, 3) := by decide +kernel
theorem dX9_meets_31 : decode cX9_meets 31 = .ok (.aload_n 0, 1) := by decide +kernel
theorem dX9_meets_32 : decode cX9_meets 32 = .ok (.getfield 29, 3) := by decide +kernel
theorem dX9_meets_35 : decode cX9_meets 35 = .ok (.iload_n 2, 1) := by decide +kernel
theorem dX9_meets_36 : decode cX9_meets 36 = .ok (.baload, 1) := by decide +kernel
theorem dX9_meets_37 : decode cX9_meets 37 = .ok (.ifCond .eq 12, 3) := by decide +kernel
theorem dX9_meets_40 : decode cX9_meets 40 = .ok (.aload_n 0, 1) := by decide +kernel
theorem dX9_meets_41 : decode cX9_meets 41 = .ok (.getfield 36, 3) := by decide +kernel
theorem dX9_meets_44 : decode cX9_meets 44 = .ok (.iload_n 3, 1) := by decide +kernel
theorem dX9_meets_45 : decode cX9_meets 45 = .ok (.baload, 1) := by decide +kernel
theorem dX9_meets_46 : decode cX9_meets 46 = .ok (.ifCond .ne 9, 3) := by decide +kernel
theorem dX9_meets_49 : decode cX9_meets 49 = .ok (.aload_n 0, 1) := by decide +kernel
theorem dX9_meets_50 : decode cX9_meets 50 = .ok (.iconst 1, 1) := by decide +kernel
theorem dX9_meets_51 : decode cX9_meets 51 = .ok (.invokevirtual 94, 3) := by decide +kernel
theorem dX9_meets_54 : decode cX9_meets 54 = .ok (.ireturn, 1) := by decide +kernel
theorem dX9_meets_55 : decode cX9_meets 55 = .ok (.aload_n 0, 1) := by decide +kernel
theorem dX9_meets_56 : decode cX9_meets 56 = .ok (.iload_n 2, 1) := by decide +kernel
theorem dX9_meets_57 : decode cX9_meets 57 = .ok (.iload_n 3, 1) := by decide +kernel
theorem dX9_meets_58 : decode cX9_meets 58 = .ok (.iload 4, 2) := by decide +kernel
theorem dX9_meets_60 : decode cX9_meets 60 = .ok (.invokevirtual 234, 3) := by decide +kernel
theorem dX9_meets_63 : decode cX9_meets 63 = .ok (.aload_n 0, 1) := by decide +kernel
theorem dX9_meets_64 : decode cX9_meets 64 = .ok (.iload 5, 2) := by decide +kernel
theorem dX9_meets_66 : decode cX9_meets 66 = .ok (.iconst 0, 1) := by decide +kernel
theorem dX9_meets_67 : decode cX9_meets 67 = .ok (.invokevirtual 183, 3) := by decide +kernel
theorem dX9_meets_70 : decode cX9_meets 70 = .ok (.iconst 1, 1) := by decide +kernel
theorem dX9_meets_71 : decode cX9_meets 71 = .ok (.istore 6, 2) := by decide +kernel
theorem dX9_meets_73 : decode cX9_meets 73 = .ok (.iload 6, 2) := by decide +kernel
theorem dX9_meets_75 : decode cX9_meets 75 = .ok (.sipush 400, 3) := by decide +kernel
theorem dX9_meets_78 : decode cX9_meets 78 = .ok (.if_icmp .gt 45, 3) := by decide +kernel
theorem dX9_meets_81 : decode cX9_meets 81 = .ok (.aload_n 0, 1) := by decide +kernel
theorem dX9_meets_82 : decode cX9_meets 82 = .ok (.getfield 160, 3) := by decide +kernel
theorem dX9_meets_85 : decode cX9_meets 85 = .ok (.ifCond .ne 9, 3) := by decide +kernel
theorem dX9_meets_88 : decode cX9_meets 88 = .ok (.aload_n 0, 1) := by decide +kernel
theorem dX9_meets_89 : decode cX9_meets 89 = .ok (.iload 6, 2) := by decide +kernel
theorem dX9_meets_91 : decode cX9_meets 91 = .ok (.invokevirtual 206, 3) := by decide +kernel
theorem dX9_meets_94 : decode cX9_meets 94 = .ok (.aload_n 0, 1) := by decide +kernel
theorem dX9_meets_95 : decode cX9_meets 95 = .ok (.getfield 69, 3) := by decide +kernel
theorem dX9_meets_98 : decode cX9_meets 98 = .ok (.iload 6, 2) := by decide +kernel
theorem dX9_meets_100 : decode cX9_meets 100 = .ok (.aload_n 0, 1) := by decide +kernel
theorem dX9_meets_101 : decode cX9_meets 101 = .ok (.getfield 160, 3) := by decide +kernel
theorem dX9_meets_104 : decode cX9_meets 104 = .ok (.ifCond .ne 10, 3) := by decide +kernel
theorem dX9_meets_107 : decode cX9_meets 107 = .ok (.aload_n 0, 1) := by decide +kernel
theorem dX9_meets_108 : decode cX9_meets 108 = .ok (.getfield 154, 3) := by decide +kernel
theorem dX9_meets_111 : decode cX9_meets 111 = .ok (.goto 5, 3) := by decide +kernel
theorem dX9_meets_114 : decode cX9_meets 114 = .ok (.bipush (-9), 2) := by decide +kernel
theorem dX9_meets_116 : decode cX9_meets 116 = .ok (.iastore, 1) := by decide +kernel
theorem dX9_meets_117 : decode cX9_meets 117 = .ok (.iinc 6 1, 3) := by decide +kernel
theorem dX9_meets_120 : decode cX9_meets 120 = .ok (.goto (-47), 3) := by decide +kernel
theorem dX9_meets_123 : decode cX9_meets 123 = .ok (.aload_n 0, 1) := by decide +kernel
theorem dX9_meets_124 : decode cX9_meets 124 = .ok (.iload_n 1, 1) := by decide +kernel
theorem dX9_meets_125 : decode cX9_meets 125 = .ok (.iload_n 3, 1) := by decide +kernel
theorem dX9_meets_126 : decode cX9_meets 126 = .ok (.iload 4, 2) := by decide +kernel
theorem dX9_meets_128 : decode cX9_meets 128 = .ok (.invokevirtual 234, 3) := by decide +kernel
theorem dX9_meets_131 : decode cX9_meets 131 = .ok (.aload_n 0, 1) := by decide +kernel
theorem dX9_meets_132 : decode cX9_meets 132 = .ok (.iload 5, 2) := by decide +kernel
theorem dX9_meets_134 : decode cX9_meets 134 = .ok (.iconst 0, 1) := by decide +kernel
theorem dX9_meets_135 : decode cX9_meets 135 = .ok (.invokevirtual 183, 3) := by decide +kernel
theorem dX9_meets_138 : decode cX9_meets 138 = .ok (.iconst 1, 1) := by decide +kernel
theorem dX9_meets_139 : decode cX9_meets 139 = .ok (.istore 6, 2) := by decide +kernel
theorem dX9_meets_141 : decode cX9_meets 141 = .ok (.iload 6, 2) := by decide +kernel
theorem dX9_meets_143 : decode cX9_meets 143 = .ok (.sipush 400, 3) := by decide +kernel
theorem dX9_meets_146 : decode cX9_meets 146 = .ok (.if_icmp .gt 46, 3) := by decide +kernel
theorem dX9_meets_149 : decode cX9_meets 149 = .ok (.aload_n 0, 1) := by decide +kernel
theorem dX9_meets_150 : decode cX9_meets 150 = .ok (.getfield 160, 3) := by decide +kernel
theorem dX9_meets_153 : decode cX9_meets 153 = .ok (.ifCond .ne 39, 3) := by decide +kernel
theorem dX9_meets_156 : decode cX9_meets 156 = .ok (.aload_n 0, 1) := by decide +kernel
theorem dX9_meets_157 : decode cX9_meets 157 = .ok (.iload 6, 2) := by decide +kernel
theorem dX9_meets_159 : decode cX9_meets 159 = .ok (.invokevirtual 206, 3) := by decide +kernel
theorem dX9_meets_162 : decode cX9_meets 162 = .ok (.aload_n 0, 1) := by decide +kernel
theorem dX9_meets_163 : decode cX9_meets 163 = .ok (.getfield 160, 3) := by decide +kernel
theorem dX9_meets_166 : decode cX9_meets 166 = .ok (.ifCond .ne 20, 3) := by decide +kernel
theorem dX9_meets_169 : decode cX9_meets 169 = .ok (.aload_n 0, 1) := by decide +kernel
theorem dX9_meets_170 : decode cX9_meets 170 = .ok (.getfield 154, 3) := by decide +kernel
theorem dX9_meets_173 : decode cX9_meets 173 = .ok (.aload_n 0, 1) := by decide +kernel
theorem dX9_meets_174 : decode cX9_meets 174 = .ok (.getfield 69, 3) := by decide +kernel
theorem dX9_meets_177 : decode cX9_meets 177 = .ok (.iload 6, 2) := by decide +kernel
theorem dX9_meets_179 : decode cX9_meets 179 = .ok (.iaload, 1) := by decide +kernel
theorem dX9_meets_180 : decode cX9_meets 180 = .ok (.if_icmp .ne 6, 3) := by decide +kernel
theorem dX9_meets_183 : decode cX9_meets 183 = .ok (.iload 6, 2) := by decide +kernel
theorem dX9_meets_185 : decode cX9_meets 185 = .ok (.ireturn, 1) := by decide +kernel
theorem dX9_meets_186 : decode cX9_meets 186 = .ok (.iinc 6 1, 3) := by decide +kernel
theorem dX9_meets_189 : decode cX9_meets 189 = .ok (.goto (-48), 3) := by decide +kernel
theorem dX9_meets_192 : decode cX9_meets 192 = .ok (.bipush (-9), 2) := by decide +kernel
theorem dX9_meets_194 : decode cX9_meets 194 = .ok (.ireturn, 1) := by decide +kernel
theorem dX9_counted_0 : decode cX9_counted 0 = .ok (.iconst 0, 1) := by decide +kernel
theorem dX9_counted_1 : decode cX9_counted 1 = .ok (.istore_n 2, 1) := by decide +kernel
theorem dX9_counted_2 : decode cX9_counted 2 = .ok (.iconst 0, 1) := by decide +kernel
theorem dX9_counted_3 : decode cX9_counted 3 = .ok (.istore_n 3, 1) := by decide +kernel
theorem dX9_counted_4 : decode cX9_counted 4 = .ok (.iload_n 3, 1) := by decide +kernel
theorem dX9_counted_5 : decode cX9_counted 5 = .ok (.iconst 4, 1) := by decide +kernel
theorem dX9_counted_6 : decode cX9_counted 6 = .ok (.if_icmp .ge 106, 3) := by decide +kernel
theorem dX9_counted_9 : decode cX9_counted 9 = .ok (.iload_n 2, 1) := by decide +kernel
theorem dX9_counted_10 : decode cX9_counted 10 = .ok (.iload_n 1, 1) := by decide +kernel
theorem dX9_counted_11 : decode cX9_counted 11 = .ok (.ifCond .ne 12, 3) := by decide +kernel
theorem dX9_counted_14 : decode cX9_counted 14 = .ok (.aload_n 0, 1) := by decide +kernel
theorem dX9_counted_15 : decode cX9_counted 15 = .ok (.getfield 29, 3) := by decide +kernel
theorem dX9_counted_18 : decode cX9_counted 18 = .ok (.iload_n 3, 1) := by decide +kernel
theorem dX9_counted_19 : decode cX9_counted 19 = .ok (.baload, 1) := by decide +kernel
theorem dX9_counted_20 : decode cX9_counted 20 = .ok (.ifCond .ne 79, 3) := by decide +kernel
theorem dX9_counted_23 : decode cX9_counted 23 = .ok (.iload_n 1, 1) := by decide +kernel
theorem dX9_counted_24 : decode cX9_counted 24 = .ok (.iconst 1, 1) := by decide +kernel
theorem dX9_counted_25 : decode cX9_counted 25 = .ok (.if_icmp .ne 12, 3) := by decide +kernel
theorem dX9_counted_28 : decode cX9_counted 28 = .ok (.aload_n 0, 1) := by decide +kernel
theorem dX9_counted_29 : decode cX9_counted 29 = .ok (.getfield 36, 3) := by decide +kernel
theorem dX9_counted_32 : decode cX9_counted 32 = .ok (.iload_n 3, 1) := by decide +kernel
theorem dX9_counted_33 : decode cX9_counted 33 = .ok (.baload, 1) := by decide +kernel
theorem dX9_counted_34 : decode cX9_counted 34 = .ok (.ifCond .ne 65, 3) := by decide +kernel
theorem dX9_counted_37 : decode cX9_counted 37 = .ok (.iload_n 1, 1) := by decide +kernel
theorem dX9_counted_38 : decode cX9_counted 38 = .ok (.iconst 2, 1) := by decide +kernel
theorem dX9_counted_39 : decode cX9_counted 39 = .ok (.if_icmp .ne 27, 3) := by decide +kernel
theorem dX9_counted_42 : decode cX9_counted 42 = .ok (.aload_n 0, 1) := by decide +kernel
theorem dX9_counted_43 : decode cX9_counted 43 = .ok (.getfield 29, 3) := by decide +kernel
theorem dX9_counted_46 : decode cX9_counted 46 = .ok (.iload_n 3, 1) := by decide +kernel
theorem dX9_counted_47 : decode cX9_counted 47 = .ok (.baload, 1) := by decide +kernel
theorem dX9_counted_48 : decode cX9_counted 48 = .ok (.ifCond .eq 18, 3) := by decide +kernel
theorem dX9_counted_51 : decode cX9_counted 51 = .ok (.aload_n 0, 1) := by decide +kernel
theorem dX9_counted_52 : decode cX9_counted 52 = .ok (.getfield 33, 3) := by decide +kernel
theorem dX9_counted_55 : decode cX9_counted 55 = .ok (.bipush 7, 2) := by decide +kernel
theorem dX9_counted_57 : decode cX9_counted 57 = .ok (.iload_n 3, 1) := by decide +kernel
theorem dX9_counted_58 : decode cX9_counted 58 = .ok (.imul, 1) := by decide +kernel
theorem dX9_counted_59 : decode cX9_counted 59 = .ok (.bipush 6, 2) := by decide +kernel
theorem dX9_counted_61 : decode cX9_counted 61 = .ok (.iadd, 1) := by decide +kernel
theorem dX9_counted_62 : decode cX9_counted 62 = .ok (.iaload, 1) := by decide +kernel
theorem dX9_counted_63 : decode cX9_counted 63 = .ok (.ifCond .gt 36, 3) := by decide +kernel
theorem dX9_counted_66 : decode cX9_counted 66 = .ok (.iload_n 1, 1) := by decide +kernel
theorem dX9_counted_67 : decode cX9_counted 67 = .ok (.iconst 4, 1) := by decide +kernel
theorem dX9_counted_68 : decode cX9_counted 68 = .ok (.if_icmp .ne 16, 3) := by decide +kernel
theorem dX9_counted_71 : decode cX9_counted 71 = .ok (.iload_n 3, 1) := by decide +kernel
theorem dX9_counted_72 : decode cX9_counted 72 = .ok (.ifCond .le 12, 3) := by decide +kernel
theorem dX9_counted_75 : decode cX9_counted 75 = .ok (.aload_n 0, 1) := by decide +kernel
theorem dX9_counted_76 : decode cX9_counted 76 = .ok (.getfield 54, 3) := by decide +kernel
theorem dX9_counted_79 : decode cX9_counted 79 = .ok (.iload_n 3, 1) := by decide +kernel
theorem dX9_counted_80 : decode cX9_counted 80 = .ok (.baload, 1) := by decide +kernel
theorem dX9_counted_81 : decode cX9_counted 81 = .ok (.ifCond .ne 18, 3) := by decide +kernel
theorem dX9_counted_84 : decode cX9_counted 84 = .ok (.iload_n 1, 1) := by decide +kernel
theorem dX9_counted_85 : decode cX9_counted 85 = .ok (.bipush 6, 2) := by decide +kernel
theorem dX9_counted_87 : decode cX9_counted 87 = .ok (.if_icmp .ne 16, 3) := by decide +kernel
theorem dX9_counted_90 : decode cX9_counted 90 = .ok (.aload_n 0, 1) := by decide +kernel
theorem dX9_counted_91 : decode cX9_counted 91 = .ok (.getfield 22, 3) := by decide +kernel
theorem dX9_counted_94 : decode cX9_counted 94 = .ok (.iload_n 3, 1) := by decide +kernel
theorem dX9_counted_95 : decode cX9_counted 95 = .ok (.iaload, 1) := by decide +kernel
theorem dX9_counted_96 : decode cX9_counted 96 = .ok (.ifCond .lt 7, 3) := by decide +kernel
theorem dX9_counted_99 : decode cX9_counted 99 = .ok (.iconst 1, 1) := by decide +kernel
theorem dX9_counted_100 : decode cX9_counted 100 = .ok (.goto 4, 3) := by decide +kernel
theorem dX9_counted_103 : decode cX9_counted 103 = .ok (.iconst 0, 1) := by decide +kernel
theorem dX9_counted_104 : decode cX9_counted 104 = .ok (.iadd, 1) := by decide +kernel
theorem dX9_counted_105 : decode cX9_counted 105 = .ok (.istore_n 2, 1) := by decide +kernel
theorem dX9_counted_106 : decode cX9_counted 106 = .ok (.iinc 3 1, 3) := by decide +kernel
theorem dX9_counted_109 : decode cX9_counted 109 = .ok (.goto (-105), 3) := by decide +kernel
theorem dX9_counted_112 : decode cX9_counted 112 = .ok (.iconst 0, 1) := by decide +kernel
theorem dX9_counted_113 : decode cX9_counted 113 = .ok (.istore_n 3, 1) := by decide +kernel
theorem dX9_counted_114 : decode cX9_counted 114 = .ok (.iload_n 3, 1) := by decide +kernel
theorem dX9_counted_115 : decode cX9_counted 115 = .ok (.bipush 6, 2) := by decide +kernel
theorem dX9_counted_117 : decode cX9_counted 117 = .ok (.if_icmp .ge 31, 3) := by decide +kernel
theorem dX9_counted_120 : decode cX9_counted 120 = .ok (.iload_n 2, 1) := by decide +kernel
theorem dX9_counted_121 : decode cX9_counted 121 = .ok (.iload_n 1, 1) := by decide +kernel
theorem dX9_counted_122 : decode cX9_counted 122 = .ok (.iconst 5, 1) := by decide +kernel
theorem dX9_counted_123 : decode cX9_counted 123 = .ok (.if_icmp .ne 16, 3) := by decide +kernel
theorem dX9_counted_126 : decode cX9_counted 126 = .ok (.aload_n 0, 1) := by decide +kernel
theorem dX9_counted_127 : decode cX9_counted 127 = .ok (.getfield 13, 3) := by decide +kernel
theorem dX9_counted_130 : decode cX9_counted 130 = .ok (.iload_n 3, 1) := by decide +kernel
theorem dX9_counted_131 : decode cX9_counted 131 = .ok (.iaload, 1) := by decide +kernel
theorem dX9_counted_132 : decode cX9_counted 132 = .ok (.ifCond .lt 7, 3) := by decide +kernel
theorem dX9_counted_135 : decode cX9_counted 135 = .ok (.iconst 1, 1) := by decide +kernel
theorem dX9_counted_136 : decode cX9_counted 136 = .ok (.goto 4, 3) := by decide +kernel
theorem dX9_counted_139 : decode cX9_counted 139 = .ok (.iconst 0, 1) := by decide +kernel
theorem dX9_counted_140 : decode cX9_counted 140 = .ok (.iadd, 1) := by decide +kernel
theorem dX9_counted_141 : decode cX9_counted 141 = .ok (.istore_n 2, 1) := by decide +kernel
theorem dX9_counted_142 : decode cX9_counted 142 = .ok (.iinc 3 1, 3) := by decide +kernel
theorem dX9_counted_145 : decode cX9_counted 145 = .ok (.goto (-31), 3) := by decide +kernel
theorem dX9_counted_148 : decode cX9_counted 148 = .ok (.iload_n 1, 1) := by decide +kernel
theorem dX9_counted_149 : decode cX9_counted 149 = .ok (.iconst 3, 1) := by decide +kernel
theorem dX9_counted_150 : decode cX9_counted 150 = .ok (.if_icmp .ne 26, 3) := by decide +kernel
theorem dX9_counted_153 : decode cX9_counted 153 = .ok (.aload_n 0, 1) := by decide +kernel
theorem dX9_counted_154 : decode cX9_counted 154 = .ok (.getfield 54, 3) := by decide +kernel
theorem dX9_counted_157 : decode cX9_counted 157 = .ok (.iconst 0, 1) := by decide +kernel
theorem dX9_counted_158 : decode cX9_counted 158 = .ok (.baload, 1) := by decide +kernel
theorem dX9_counted_159 : decode cX9_counted 159 = .ok (.ifCond .eq 13, 3) := by decide +kernel
theorem dX9_counted_162 : decode cX9_counted 162 = .ok (.aload_n 0, 1) := by decide +kernel
theorem dX9_counted_163 : decode cX9_counted 163 = .ok (.getfield 57, 3) := by decide +kernel
theorem dX9_counted_166 : decode cX9_counted 166 = .ok (.bipush 9, 2) := by decide +kernel
theorem dX9_counted_168 : decode cX9_counted 168 = .ok (.iaload, 1) := by decide +kernel
theorem dX9_counted_169 : decode cX9_counted 169 = .ok (.goto 8, 3) := by decide +kernel
theorem dX9_counted_172 : decode cX9_counted 172 = .ok (.iconst 0, 1) := by decide +kernel
theorem dX9_counted_173 : decode cX9_counted 173 = .ok (.goto 4, 3) := by decide +kernel
theorem dX9_counted_176 : decode cX9_counted 176 = .ok (.iload_n 2, 1) := by decide +kernel
theorem dX9_counted_177 : decode cX9_counted 177 = .ok (.ireturn, 1) := by decide +kernel
theorem dX9_count_0 : decode cX9_count 0 = .ok (.iload_n 1, 1) := by decide +kernel
theorem dX9_count_1 : decode cX9_count 1 = .ok (.iconst 0, 1) := by decide +kernel
theorem dX9_count_2 : decode cX9_count 2 = .ok (.bipush 6, 2) := by decide +kernel
theorem dX9_count_4 : decode cX9_count 4 = .ok (.invokestatic 80, 3) := by decide +kernel
theorem dX9_count_7 : decode cX9_count 7 = .ok (.ifCond .eq 11, 3) := by decide +kernel
theorem dX9_count_10 : decode cX9_count 10 = .ok (.aload_n 0, 1) := by decide +kernel
theorem dX9_count_11 : decode cX9_count 11 = .ok (.iload_n 1, 1) := by decide +kernel
theorem dX9_count_12 : decode cX9_count 12 = .ok (.invokevirtual 262, 3) := by decide +kernel
theorem dX9_count_15 : decode cX9_count 15 = .ok (.goto 4, 3) := by decide +kernel
theorem dX9_count_18 : decode cX9_count 18 = .ok (.iconst (-1), 1) := by decide +kernel
theorem dX9_count_19 : decode cX9_count 19 = .ok (.ireturn, 1) := by decide +kernel
theorem dX9_mix_0 : decode cX9_mix 0 = .ok (.aload_n 0, 1) := by decide +kernel
theorem dX9_mix_1 : decode cX9_mix 1 = .ok (.ldc2_w 265, 3) := by decide +kernel
theorem dX9_mix_4 : decode cX9_mix 4 = .ok (.aload_n 0, 1) := by decide +kernel
theorem dX9_mix_5 : decode cX9_mix 5 = .ok (.getfield 267, 3) := by decide +kernel
theorem dX9_mix_8 : decode cX9_mix 8 = .ok (.lmul, 1) := by decide +kernel
theorem dX9_mix_9 : decode cX9_mix 9 = .ok (.lload_n 1, 1) := by decide +kernel
theorem dX9_mix_10 : decode cX9_mix 10 = .ok (.ladd, 1) := by decide +kernel
theorem dX9_mix_11 : decode cX9_mix 11 = .ok (.putfield 267, 3) := by decide +kernel
theorem dX9_mix_14 : decode cX9_mix 14 = .ok (.return_, 1) := by decide +kernel
theorem dX9_mixBooks_0 : decode cX9_mixBooks 0 = .ok (.iconst 0, 1) := by decide +kernel
theorem dX9_mixBooks_1 : decode cX9_mixBooks 1 = .ok (.istore_n 1, 1) := by decide +kernel
theorem dX9_mixBooks_2 : decode cX9_mixBooks 2 = .ok (.iload_n 1, 1) := by decide +kernel
theorem dX9_mixBooks_3 : decode cX9_mixBooks 3 = .ok (.iconst 4, 1) := by decide +kernel
theorem dX9_mixBooks_4 : decode cX9_mixBooks 4 = .ok (.if_icmp .ge 64, 3) := by decide +kernel
theorem dX9_mixBooks_7 : decode cX9_mixBooks 7 = .ok (.aload_n 0, 1) := by decide +kernel
theorem dX9_mixBooks_8 : decode cX9_mixBooks 8 = .ok (.getfield 29, 3) := by decide +kernel
theorem dX9_mixBooks_11 : decode cX9_mixBooks 11 = .ok (.iload_n 1, 1) := by decide +kernel
theorem dX9_mixBooks_12 : decode cX9_mixBooks 12 = .ok (.baload, 1) := by decide +kernel
theorem dX9_mixBooks_13 : decode cX9_mixBooks 13 = .ok (.ifCond .ne 10, 3) := by decide +kernel
theorem dX9_mixBooks_16 : decode cX9_mixBooks 16 = .ok (.aload_n 0, 1) := by decide +kernel
theorem dX9_mixBooks_17 : decode cX9_mixBooks 17 = .ok (.ldc2_w 270, 3) := by decide +kernel
theorem dX9_mixBooks_20 : decode cX9_mixBooks 20 = .ok (.invokevirtual 272, 3) := by decide +kernel
theorem dX9_mixBooks_23 : decode cX9_mixBooks 23 = .ok (.iconst 0, 1) := by decide +kernel
theorem dX9_mixBooks_24 : decode cX9_mixBooks 24 = .ok (.istore_n 2, 1) := by decide +kernel
theorem dX9_mixBooks_25 : decode cX9_mixBooks 25 = .ok (.iload_n 2, 1) := by decide +kernel
theorem dX9_mixBooks_26 : decode cX9_mixBooks 26 = .ok (.bipush 7, 2) := by decide +kernel
theorem dX9_mixBooks_28 : decode cX9_mixBooks 28 = .ok (.if_icmp .ge 34, 3) := by decide +kernel
theorem dX9_mixBooks_31 : decode cX9_mixBooks 31 = .ok (.aload_n 0, 1) := by decide +kernel
theorem dX9_mixBooks_32 : decode cX9_mixBooks 32 = .ok (.getfield 29, 3) := by decide +kernel
theorem dX9_mixBooks_35 : decode cX9_mixBooks 35 = .ok (.iload_n 1, 1) := by decide +kernel
theorem dX9_mixBooks_36 : decode cX9_mixBooks 36 = .ok (.baload, 1) := by decide +kernel
theorem dX9_mixBooks_37 : decode cX9_mixBooks 37 = .ok (.ifCond .eq 25, 3) := by decide +kernel
theorem dX9_mixBooks_40 : decode cX9_mixBooks 40 = .ok (.aload_n 0, 1) := by decide +kernel
theorem dX9_mixBooks_41 : decode cX9_mixBooks 41 = .ok (.aload_n 0, 1) := by decide +kernel
theorem dX9_mixBooks_42 : decode cX9_mixBooks 42 = .ok (.getfield 33, 3) := by decide +kernel
theorem dX9_mixBooks_45 : decode cX9_mixBooks 45 = .ok (.bipush 7, 2) := by decide +kernel
theorem dX9_mixBooks_47 : decode cX9_mixBooks 47 = .ok (.iload_n 1, 1) := by decide +kernel
theorem dX9_mixBooks_48 : decode cX9_mixBooks 48 = .ok (.imul, 1) := by decide +kernel
theorem dX9_mixBooks_49 : decode cX9_mixBooks 49 = .ok (.iload_n 2, 1) := by decide +kernel
theorem dX9_mixBooks_50 : decode cX9_mixBooks 50 = .ok (.iadd, 1) := by decide +kernel
theorem dX9_mixBooks_51 : decode cX9_mixBooks 51 = .ok (.iaload, 1) := by decide +kernel
theorem dX9_mixBooks_52 : decode cX9_mixBooks 52 = .ok (.i2l, 1) := by decide +kernel
theorem dX9_mixBooks_53 : decode cX9_mixBooks 53 = .ok (.invokevirtual 272, 3) := by decide +kernel
theorem dX9_mixBooks_56 : decode cX9_mixBooks 56 = .ok (.iinc 2 1, 3) := by decide +kernel
theorem dX9_mixBooks_59 : decode cX9_mixBooks 59 = .ok (.goto (-34), 3) := by decide +kernel
theorem dX9_mixBooks_62 : decode cX9_mixBooks 62 = .ok (.iinc 1 1, 3) := by decide +kernel
theorem dX9_mixBooks_65 : decode cX9_mixBooks 65 = .ok (.goto (-63), 3) := by decide +kernel
theorem dX9_mixBooks_68 : decode cX9_mixBooks 68 = .ok (.iconst 0, 1) := by decide +kernel
theorem dX9_mixBooks_69 : decode cX9_mixBooks 69 = .ok (.istore_n 1, 1) := by decide +kernel
theorem dX9_mixBooks_70 : decode cX9_mixBooks 70 = .ok (.iload_n 1, 1) := by decide +kernel
theorem dX9_mixBooks_71 : decode cX9_mixBooks 71 = .ok (.iconst 4, 1) := by decide +kernel
theorem dX9_mixBooks_72 : decode cX9_mixBooks 72 = .ok (.if_icmp .ge 64, 3) := by decide +kernel
theorem dX9_mixBooks_75 : decode cX9_mixBooks 75 = .ok (.aload_n 0, 1) := by decide +kernel
theorem dX9_mixBooks_76 : decode cX9_mixBooks 76 = .ok (.getfield 36, 3) := by decide +kernel
theorem dX9_mixBooks_79 : decode cX9_mixBooks 79 = .ok (.iload_n 1, 1) := by decide +kernel
theorem dX9_mixBooks_80 : decode cX9_mixBooks 80 = .ok (.baload, 1) := by decide +kernel
theorem dX9_mixBooks_81 : decode cX9_mixBooks 81 = .ok (.ifCond .ne 10, 3) := by decide +kernel
theorem dX9_mixBooks_84 : decode cX9_mixBooks 84 = .ok (.aload_n 0, 1) := by decide +kernel
theorem dX9_mixBooks_85 : decode cX9_mixBooks 85 = .ok (.ldc2_w 270, 3) := by decide +kernel
theorem dX9_mixBooks_88 : decode cX9_mixBooks 88 = .ok (.invokevirtual 272, 3) := by decide +kernel
theorem dX9_mixBooks_91 : decode cX9_mixBooks 91 = .ok (.iconst 0, 1) := by decide +kernel
theorem dX9_mixBooks_92 : decode cX9_mixBooks 92 = .ok (.istore_n 2, 1) := by decide +kernel
theorem dX9_mixBooks_93 : decode cX9_mixBooks 93 = .ok (.iload_n 2, 1) := by decide +kernel
theorem dX9_mixBooks_94 : decode cX9_mixBooks 94 = .ok (.bipush 101, 2) := by decide +kernel
theorem dX9_mixBooks_96 : decode cX9_mixBooks 96 = .ok (.if_icmp .ge 34, 3) := by decide +kernel
theorem dX9_mixBooks_99 : decode cX9_mixBooks 99 = .ok (.aload_n 0, 1) := by decide +kernel
theorem dX9_mixBooks_100 : decode cX9_mixBooks 100 = .ok (.getfield 36, 3) := by decide +kernel
theorem dX9_mixBooks_103 : decode cX9_mixBooks 103 = .ok (.iload_n 1, 1) := by decide +kernel
theorem dX9_mixBooks_104 : decode cX9_mixBooks 104 = .ok (.baload, 1) := by decide +kernel
theorem dX9_mixBooks_105 : decode cX9_mixBooks 105 = .ok (.ifCond .eq 25, 3) := by decide +kernel
theorem dX9_mixBooks_108 : decode cX9_mixBooks 108 = .ok (.aload_n 0, 1) := by decide +kernel
theorem dX9_mixBooks_109 : decode cX9_mixBooks 109 = .ok (.aload_n 0, 1) := by decide +kernel
theorem dX9_mixBooks_110 : decode cX9_mixBooks 110 = .ok (.getfield 39, 3) := by decide +kernel
theorem dX9_mixBooks_113 : decode cX9_mixBooks 113 = .ok (.bipush 101, 2) := by decide +kernel
theorem dX9_mixBooks_115 : decode cX9_mixBooks 115 = .ok (.iload_n 1, 1) := by decide +kernel
theorem dX9_mixBooks_116 : decode cX9_mixBooks 116 = .ok (.imul, 1) := by decide +kernel
theorem dX9_mixBooks_117 : decode cX9_mixBooks 117 = .ok (.iload_n 2, 1) := by decide +kernel
theorem dX9_mixBooks_118 : decode cX9_mixBooks 118 = .ok (.iadd, 1) := by decide +kernel
theorem dX9_mixBooks_119 : decode cX9_mixBooks 119 = .ok (.iaload, 1) := by decide +kernel
theorem dX9_mixBooks_120 : decode cX9_mixBooks 120 = .ok (.i2l, 1) := by decide +kernel
theorem dX9_mixBooks_121 : decode cX9_mixBooks 121 = .ok (.invokevirtual 272, 3) := by decide +kernel
theorem dX9_mixBooks_124 : decode cX9_mixBooks 124 = .ok (.iinc 2 1, 3) := by decide +kernel
theorem dX9_mixBooks_127 : decode cX9_mixBooks 127 = .ok (.goto (-34), 3) := by decide +kernel
theorem dX9_mixBooks_130 : decode cX9_mixBooks 130 = .ok (.iinc 1 1, 3) := by decide +kernel
theorem dX9_mixBooks_133 : decode cX9_mixBooks 133 = .ok (.goto (-63), 3) := by decide +kernel
theorem dX9_mixBooks_136 : decode cX9_mixBooks 136 = .ok (.aload_n 0, 1) := by decide +kernel
theorem dX9_mixBooks_137 : decode cX9_mixBooks 137 = .ok (.getfield 54, 3) := by decide +kernel
theorem dX9_mixBooks_140 : decode cX9_mixBooks 140 = .ok (.iconst 0, 1) := by decide +kernel
theorem dX9_mixBooks_141 : decode cX9_mixBooks 141 = .ok (.baload, 1) := by decide +kernel
theorem dX9_mixBooks_142 : decode cX9_mixBooks 142 = .ok (.ifCond .ne 10, 3) := by decide +kernel
theorem dX9_mixBooks_145 : decode cX9_mixBooks 145 = .ok (.aload_n 0, 1) := by decide +kernel
theorem dX9_mixBooks_146 : decode cX9_mixBooks 146 = .ok (.ldc2_w 270, 3) := by decide +kernel
theorem dX9_mixBooks_149 : decode cX9_mixBooks 149 = .ok (.invokevirtual 272, 3) := by decide +kernel
theorem dX9_mixBooks_152 : decode cX9_mixBooks 152 = .ok (.iconst 0, 1) := by decide +kernel
theorem dX9_mixBooks_153 : decode cX9_mixBooks 153 = .ok (.istore_n 1, 1) := by decide +kernel
theorem dX9_mixBooks_154 : decode cX9_mixBooks 154 = .ok (.iload_n 1, 1) := by decide +kernel
theorem dX9_mixBooks_155 : decode cX9_mixBooks 155 = .ok (.bipush 7, 2) := by decide +kernel
theorem dX9_mixBooks_157 : decode cX9_mixBooks 157 = .ok (.if_icmp .ge 28, 3) := by decide +kernel
theorem dX9_mixBooks_160 : decode cX9_mixBooks 160 = .ok (.aload_n 0, 1) := by decide +kernel
theorem dX9_mixBooks_161 : decode cX9_mixBooks 161 = .ok (.getfield 54, 3) := by decide +kernel
theorem dX9_mixBooks_164 : decode cX9_mixBooks 164 = .ok (.iconst 0, 1) := by decide +kernel
theorem dX9_mixBooks_165 : decode cX9_mixBooks 165 = .ok (.baload, 1) := by decide +kernel
theorem dX9_mixBooks_166 : decode cX9_mixBooks 166 = .ok (.ifCond .eq 19, 3) := by decide +kernel
theorem dX9_mixBooks_169 : decode cX9_mixBooks 169 = .ok (.aload_n 0, 1) := by decide +kernel
theorem dX9_mixBooks_170 : decode cX9_mixBooks 170 = .ok (.aload_n 0, 1) := by decide +kernel
theorem dX9_mixBooks_171 : decode cX9_mixBooks 171 = .ok (.iload_n 1, 1) := by decide +kernel
theorem dX9_mixBooks_172 : decode cX9_mixBooks 172 = .ok (.invokevirtual 197, 3) := by decide +kernel
theorem dX9_mixBooks_175 : decode cX9_mixBooks 175 = .ok (.i2l, 1) := by decide +kernel
theorem dX9_mixBooks_176 : decode cX9_mixBooks 176 = .ok (.invokevirtual 272, 3) := by decide +kernel
theorem dX9_mixBooks_179 : decode cX9_mixBooks 179 = .ok (.iinc 1 1, 3) := by decide +kernel
theorem dX9_mixBooks_182 : decode cX9_mixBooks 182 = .ok (.goto (-28), 3) := by decide +kernel
theorem dX9_mixBooks_185 : decode cX9_mixBooks 185 = .ok (.return_, 1) := by decide +kernel
theorem dX9_digest_0 : decode cX9_digest 0 = .ok (.aload_n 0, 1) := by decide +kernel
theorem dX9_digest_1 : decode cX9_digest 1 = .ok (.ldc2_w 276, 3) := by decide +kernel
theorem dX9_digest_4 : decode cX9_digest 4 = .ok (.putfield 267, 3) := by decide +kernel
theorem dX9_digest_7 : decode cX9_digest 7 = .ok (.iconst 0, 1) := by decide +kernel
theorem dX9_digest_8 : decode cX9_digest 8 = .ok (.istore_n 1, 1) := by decide +kernel
theorem dX9_digest_9 : decode cX9_digest 9 = .ok (.iload_n 1, 1) := by decide +kernel
theorem dX9_digest_10 : decode cX9_digest 10 = .ok (.bipush 7, 2) := by decide +kernel
theorem dX9_digest_12 : decode cX9_digest 12 = .ok (.if_icmp .ge 19, 3) := by decide +kernel
theorem dX9_digest_15 : decode cX9_digest 15 = .ok (.aload_n 0, 1) := by decide +kernel
theorem dX9_digest_16 : decode cX9_digest 16 = .ok (.aload_n 0, 1) := by decide +kernel
theorem dX9_digest_17 : decode cX9_digest 17 = .ok (.iload_n 1, 1) := by decide +kernel
theorem dX9_digest_18 : decode cX9_digest 18 = .ok (.invokevirtual 262, 3) := by decide +kernel
theorem dX9_digest_21 : decode cX9_digest 21 = .ok (.i2l, 1) := by decide +kernel
theorem dX9_digest_22 : decode cX9_digest 22 = .ok (.invokevirtual 272, 3) := by decide +kernel
theorem dX9_digest_25 : decode cX9_digest 25 = .ok (.iinc 1 1, 3) := by decide +kernel
theorem dX9_digest_28 : decode cX9_digest 28 = .ok (.goto (-19), 3) := by decide +kernel
theorem dX9_digest_31 : decode cX9_digest 31 = .ok (.aload_n 0, 1) := by decide +kernel
theorem dX9_digest_32 : decode cX9_digest 32 = .ok (.invokevirtual 278, 3) := by decide +kernel
theorem dX9_digest_35 : decode cX9_digest 35 = .ok (.iconst 0, 1) := by decide +kernel
theorem dX9_digest_36 : decode cX9_digest 36 = .ok (.istore_n 1, 1) := by decide +kernel
theorem dX9_digest_37 : decode cX9_digest 37 = .ok (.iload_n 1, 1) := by decide +kernel
theorem dX9_digest_38 : decode cX9_digest 38 = .ok (.bipush 6, 2) := by decide +kernel
theorem dX9_digest_40 : decode cX9_digest 40 = .ok (.if_icmp .ge 49, 3) := by decide +kernel
theorem dX9_digest_43 : decode cX9_digest 43 = .ok (.aload_n 0, 1) := by decide +kernel
theorem dX9_digest_44 : decode cX9_digest 44 = .ok (.aload_n 0, 1) := by decide +kernel
theorem dX9_digest_45 : decode cX9_digest 45 = .ok (.getfield 13, 3) := by decide +kernel
theorem dX9_digest_48 : decode cX9_digest 48 = .ok (.iload_n 1, 1) := by decide +kernel
theorem dX9_digest_49 : decode cX9_digest 49 = .ok (.iaload, 1) := by decide +kernel
theorem dX9_digest_50 : decode cX9_digest 50 = .ok (.i2l, 1) := by decide +kernel
theorem dX9_digest_51 : decode cX9_digest 51 = .ok (.invokevirtual 272, 3) := by decide +kernel
theorem dX9_digest_54 : decode cX9_digest 54 = .ok (.iconst 0, 1) := by decide +kernel
theorem dX9_digest_55 : decode cX9_digest 55 = .ok (.istore_n 2, 1) := by decide +kernel
theorem dX9_digest_56 : decode cX9_digest 56 = .ok (.iload_n 2, 1) := by decide +kernel
theorem dX9_digest_57 : decode cX9_digest 57 = .ok (.aload_n 0, 1) := by decide +kernel
theorem dX9_digest_58 : decode cX9_digest 58 = .ok (.getfield 13, 3) := by decide +kernel
theorem dX9_digest_61 : decode cX9_digest 61 = .ok (.iload_n 1, 1) := by decide +kernel
theorem dX9_digest_62 : decode cX9_digest 62 = .ok (.iaload, 1) := by decide +kernel
theorem dX9_digest_63 : decode cX9_digest 63 = .ok (.if_icmp .ge 20, 3) := by decide +kernel
theorem dX9_digest_66 : decode cX9_digest 66 = .ok (.aload_n 0, 1) := by decide +kernel
theorem dX9_digest_67 : decode cX9_digest 67 = .ok (.aload_n 0, 1) := by decide +kernel
theorem dX9_digest_68 : decode cX9_digest 68 = .ok (.iload_n 1, 1) := by decide +kernel
theorem dX9_digest_69 : decode cX9_digest 69 = .ok (.iload_n 2, 1) := by decide +kernel
theorem dX9_digest_70 : decode cX9_digest 70 = .ok (.invokevirtual 98, 3) := by decide +kernel
theorem dX9_digest_73 : decode cX9_digest 73 = .ok (.i2l, 1) := by decide +kernel
theorem dX9_digest_74 : decode cX9_digest 74 = .ok (.invokevirtual 272, 3) := by decide +kernel
theorem dX9_digest_77 : decode cX9_digest 77 = .ok (.iinc 2 1, 3) := by decide +kernel
theorem dX9_digest_80 : decode cX9_digest 80 = .ok (.goto (-24), 3) := by decide +kernel
theorem dX9_digest_83 : decode cX9_digest 83 = .ok (.iinc 1 1, 3) := by decide +kernel
theorem dX9_digest_86 : decode cX9_digest 86 = .ok (.goto (-49), 3) := by decide +kernel
theorem dX9_digest_89 : decode cX9_digest 89 = .ok (.iconst 0, 1) := by decide +kernel
theorem dX9_digest_90 : decode cX9_digest 90 = .ok (.istore_n 1, 1) := by decide +kernel
theorem dX9_digest_91 : decode cX9_digest 91 = .ok (.iload_n 1, 1) := by decide +kernel
theorem dX9_digest_92 : decode cX9_digest 92 = .ok (.iconst 4, 1) := by decide +kernel
theorem dX9_digest_93 : decode cX9_digest 93 = .ok (.if_icmp .ge 49, 3) := by decide +kernel
theorem dX9_digest_96 : decode cX9_digest 96 = .ok (.aload_n 0, 1) := by decide +kernel
theorem dX9_digest_97 : decode cX9_digest 97 = .ok (.aload_n 0, 1) := by decide +kernel
theorem dX9_digest_98 : decode cX9_digest 98 = .ok (.getfield 22, 3) := by decide +kernel
theorem dX9_digest_101 : decode cX9_digest 101 = .ok (.iload_n 1, 1) := by decide +kernel
theorem dX9_digest_102 : decode cX9_digest 102 = .ok (.iaload, 1) := by decide +kernel
theorem dX9_digest_103 : decode cX9_digest 103 = .ok (.i2l, 1) := by decide +kernel
theorem dX9_digest_104 : decode cX9_digest 104 = .ok (.invokevirtual 272, 3) := by decide +kernel
theorem dX9_digest_107 : decode cX9_digest 107 = .ok (.iconst 0, 1) := by decide +kernel
theorem dX9_digest_108 : decode cX9_digest 108 = .ok (.istore_n 2, 1) := by decide +kernel
theorem dX9_digest_109 : decode cX9_digest 109 = .ok (.iload_n 2, 1) := by decide +kernel
theorem dX9_digest_110 : decode cX9_digest 110 = .ok (.aload_n 0, 1) := by decide +kernel
theorem dX9_digest_111 : decode cX9_digest 111 = .ok (.getfield 22, 3) := by decide +kernel
theorem dX9_digest_114 : decode cX9_digest 114 = .ok (.iload_n 1, 1) := by decide +kernel
theorem dX9_digest_115 : decode cX9_digest 115 = .ok (.iaload, 1) := by decide +kernel
theorem dX9_digest_116 : decode cX9_digest 116 = .ok (.if_icmp .ge 20, 3) := by decide +kernel
theorem dX9_digest_119 : decode cX9_digest 119 = .ok (.aload_n 0, 1) := by decide +kernel
theorem dX9_digest_120 : decode cX9_digest 120 = .ok (.aload_n 0, 1) := by decide +kernel
theorem dX9_digest_121 : decode cX9_digest 121 = .ok (.iload_n 1, 1) := by decide +kernel
theorem dX9_digest_122 : decode cX9_digest 122 = .ok (.iload_n 2, 1) := by decide +kernel
theorem dX9_digest_123 : decode cX9_digest 123 = .ok (.invokevirtual 111, 3) := by decide +kernel
theorem dX9_digest_126 : decode cX9_digest 126 = .ok (.i2l, 1) := by decide +kernel
theorem dX9_digest_127 : decode cX9_digest 127 = .ok (.invokevirtual 272, 3) := by decide +kernel
theorem dX9_digest_130 : decode cX9_digest 130 = .ok (.iinc 2 1, 3) := by decide +kernel
theorem dX9_digest_133 : decode cX9_digest 133 = .ok (.goto (-24), 3) := by decide +kernel
theorem dX9_digest_136 : decode cX9_digest 136 = .ok (.iinc 1 1, 3) := by decide +kernel
theorem dX9_digest_139 : decode cX9_digest 139 = .ok (.goto (-48), 3) := by decide +kernel
theorem dX9_digest_142 : decode cX9_digest 142 = .ok (.aload_n 0, 1) := by decide +kernel
theorem dX9_digest_143 : decode cX9_digest 143 = .ok (.getfield 267, 3) := by decide +kernel
theorem dX9_digest_146 : decode cX9_digest 146 = .ok (.lreturn, 1) := by decide +kernel
theorem dJ6_bitCount_0f7a4_0 : decode cJ6_bitCount_0f7a4 0 = .ok (.iload_n 0, 1) := by decide +kernel
theorem dJ6_bitCount_0f7a4_1 : decode cJ6_bitCount_0f7a4 1 = .ok (.iload_n 0, 1) := by decide +kernel
theorem dJ6_bitCount_0f7a4_2 : decode cJ6_bitCount_0f7a4 2 = .ok (.iconst 1, 1) := by decide +kernel
theorem dJ6_bitCount_0f7a4_3 : decode cJ6_bitCount_0f7a4 3 = .ok (.iushr, 1) := by decide +kernel
