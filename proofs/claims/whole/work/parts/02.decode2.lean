theorem dX8_on_23 : decode cX8_on 23 = .ok (.aload_n 0, 1) := by decide +kernel
theorem dX8_on_24 : decode cX8_on 24 = .ok (.iconst 1, 1) := by decide +kernel
theorem dX8_on_25 : decode cX8_on 25 = .ok (.invokevirtual 150, 3) := by decide +kernel
theorem dX8_on_28 : decode cX8_on 28 = .ok (.ireturn, 1) := by decide +kernel
theorem dX8_on_29 : decode cX8_on 29 = .ok (.aload_n 0, 1) := by decide +kernel
theorem dX8_on_30 : decode cX8_on 30 = .ok (.getfield 36, 3) := by decide +kernel
theorem dX8_on_33 : decode cX8_on 33 = .ok (.aload_n 0, 1) := by decide +kernel
theorem dX8_on_34 : decode cX8_on 34 = .ok (.getfield 40, 3) := by decide +kernel
theorem dX8_on_37 : decode cX8_on 37 = .ok (.iload_n 1, 1) := by decide +kernel
theorem dX8_on_38 : decode cX8_on 38 = .ok (.aaload, 1) := by decide +kernel
theorem dX8_on_39 : decode cX8_on 39 = .ok (.invokevirtual 257, 3) := by decide +kernel
theorem dX8_on_42 : decode cX8_on 42 = .ok (.aload_n 0, 1) := by decide +kernel
theorem dX8_on_43 : decode cX8_on 43 = .ok (.getfield 36, 3) := by decide +kernel
theorem dX8_on_46 : decode cX8_on 46 = .ok (.getfield 241, 3) := by decide +kernel
theorem dX8_on_49 : decode cX8_on 49 = .ok (.ireturn, 1) := by decide +kernel
theorem dX8_turns_0 : decode cX8_turns 0 = .ok (.aload_n 0, 1) := by decide +kernel
theorem dX8_turns_1 : decode cX8_turns 1 = .ok (.getfield 36, 3) := by decide +kernel
theorem dX8_turns_4 : decode cX8_turns 4 = .ok (.getfield 237, 3) := by decide +kernel
theorem dX8_turns_7 : decode cX8_turns 7 = .ok (.ifCond .ne 6, 3) := by decide +kernel
theorem dX8_turns_10 : decode cX8_turns 10 = .ok (.bipush (-4), 2) := by decide +kernel
theorem dX8_turns_12 : decode cX8_turns 12 = .ok (.ireturn, 1) := by decide +kernel
theorem dX8_turns_13 : decode cX8_turns 13 = .ok (.aload_n 0, 1) := by decide +kernel
theorem dX8_turns_14 : decode cX8_turns 14 = .ok (.getfield 36, 3) := by decide +kernel
theorem dX8_turns_17 : decode cX8_turns 17 = .ok (.getfield 116, 3) := by decide +kernel
theorem dX8_turns_20 : decode cX8_turns 20 = .ok (.getfield 226, 3) := by decide +kernel
theorem dX8_turns_23 : decode cX8_turns 23 = .ok (.iconst 5, 1) := by decide +kernel
theorem dX8_turns_24 : decode cX8_turns 24 = .ok (.iaload, 1) := by decide +kernel
theorem dX8_turns_25 : decode cX8_turns 25 = .ok (.aload_n 0, 1) := by decide +kernel
theorem dX8_turns_26 : decode cX8_turns 26 = .ok (.getfield 36, 3) := by decide +kernel
theorem dX8_turns_29 : decode cX8_turns 29 = .ok (.getfield 116, 3) := by decide +kernel
theorem dX8_turns_32 : decode cX8_turns 32 = .ok (.getfield 226, 3) := by decide +kernel
theorem dX8_turns_35 : decode cX8_turns 35 = .ok (.iconst 4, 1) := by decide +kernel
theorem dX8_turns_36 : decode cX8_turns 36 = .ok (.iaload, 1) := by decide +kernel
theorem dX8_turns_37 : decode cX8_turns 37 = .ok (.isub, 1) := by decide +kernel
theorem dX8_turns_38 : decode cX8_turns 38 = .ok (.istore_n 1, 1) := by decide +kernel
theorem dX8_turns_39 : decode cX8_turns 39 = .ok (.aload_n 0, 1) := by decide +kernel
theorem dX8_turns_40 : decode cX8_turns 40 = .ok (.iload_n 1, 1) := by decide +kernel
theorem dX8_turns_41 : decode cX8_turns 41 = .ok (.ifCond .ne 8, 3) := by decide +kernel
theorem dX8_turns_44 : decode cX8_turns 44 = .ok (.bipush (-9), 2) := by decide +kernel
theorem dX8_turns_46 : decode cX8_turns 46 = .ok (.goto 18, 3) := by decide +kernel
theorem dX8_turns_49 : decode cX8_turns 49 = .ok (.sipush 360, 3) := by decide +kernel
theorem dX8_turns_52 : decode cX8_turns 52 = .ok (.iconst 1, 1) := by decide +kernel
theorem dX8_turns_53 : decode cX8_turns 53 = .ok (.iload_n 1, 1) := by decide +kernel
theorem dX8_turns_54 : decode cX8_turns 54 = .ok (.sipush 360, 3) := by decide +kernel
theorem dX8_turns_57 : decode cX8_turns 57 = .ok (.invokestatic 134, 3) := by decide +kernel
theorem dX8_turns_60 : decode cX8_turns 60 = .ok (.invokestatic 138, 3) := by decide +kernel
theorem dX8_turns_63 : decode cX8_turns 63 = .ok (.idiv, 1) := by decide +kernel
theorem dX8_turns_64 : decode cX8_turns 64 = .ok (.invokevirtual 167, 3) := by decide +kernel
theorem dX8_turns_67 : decode cX8_turns 67 = .ok (.pop, 1) := by decide +kernel
theorem dX8_turns_68 : decode cX8_turns 68 = .ok (.aload_n 0, 1) := by decide +kernel
theorem dX8_turns_69 : decode cX8_turns 69 = .ok (.getfield 36, 3) := by decide +kernel
theorem dX8_turns_72 : decode cX8_turns 72 = .ok (.getfield 241, 3) := by decide +kernel
theorem dX8_turns_75 : decode cX8_turns 75 = .ok (.iload_n 1, 1) := by decide +kernel
theorem dX8_turns_76 : decode cX8_turns 76 = .ok (.imul, 1) := by decide +kernel
theorem dX8_turns_77 : decode cX8_turns 77 = .ok (.sipush 360, 3) := by decide +kernel
theorem dX8_turns_80 : decode cX8_turns 80 = .ok (.invokestatic 260, 3) := by decide +kernel
theorem dX8_turns_83 : decode cX8_turns 83 = .ok (.ireturn, 1) := by decide +kernel
theorem dX8_going_0 : decode cX8_going 0 = .ok (.iload_n 1, 1) := by decide +kernel
theorem dX8_going_1 : decode cX8_going 1 = .ok (.iload_n 2, 1) := by decide +kernel
theorem dX8_going_2 : decode cX8_going 2 = .ok (.iload_n 3, 1) := by decide +kernel
theorem dX8_going_3 : decode cX8_going 3 = .ok (.iload 4, 2) := by decide +kernel
theorem dX8_going_5 : decode cX8_going 5 = .ok (.invokestatic 229, 3) := by decide +kernel
theorem dX8_going_8 : decode cX8_going 8 = .ok (.ifCond .eq 5, 3) := by decide +kernel
theorem dX8_going_11 : decode cX8_going 11 = .ok (.iconst (-1), 1) := by decide +kernel
theorem dX8_going_12 : decode cX8_going 12 = .ok (.ireturn, 1) := by decide +kernel
theorem dX8_going_13 : decode cX8_going 13 = .ok (.aload_n 0, 1) := by decide +kernel
theorem dX8_going_14 : decode cX8_going 14 = .ok (.iload_n 1, 1) := by decide +kernel
theorem dX8_going_15 : decode cX8_going 15 = .ok (.iload_n 2, 1) := by decide +kernel
theorem dX8_going_16 : decode cX8_going 16 = .ok (.invokevirtual 263, 3) := by decide +kernel
theorem dX8_going_19 : decode cX8_going 19 = .ok (.ifCond .ne 9, 3) := by decide +kernel
theorem dX8_going_22 : decode cX8_going 22 = .ok (.aload_n 0, 1) := by decide +kernel
theorem dX8_going_23 : decode cX8_going 23 = .ok (.iconst 1, 1) := by decide +kernel
theorem dX8_going_24 : decode cX8_going 24 = .ok (.invokevirtual 150, 3) := by decide +kernel
theorem dX8_going_27 : decode cX8_going 27 = .ok (.ireturn, 1) := by decide +kernel
theorem dX8_going_28 : decode cX8_going 28 = .ok (.aload_n 0, 1) := by decide +kernel
theorem dX8_going_29 : decode cX8_going 29 = .ok (.getfield 54, 3) := by decide +kernel
theorem dX8_going_32 : decode cX8_going 32 = .ok (.iload_n 3, 1) := by decide +kernel
theorem dX8_going_33 : decode cX8_going 33 = .ok (.iload 4, 2) := by decide +kernel
theorem dX8_going_35 : decode cX8_going 35 = .ok (.invokevirtual 266, 3) := by decide +kernel
theorem dX8_going_38 : decode cX8_going 38 = .ok (.aload_n 0, 1) := by decide +kernel
theorem dX8_going_39 : decode cX8_going 39 = .ok (.aload_n 0, 1) := by decide +kernel
theorem dX8_going_40 : decode cX8_going 40 = .ok (.getfield 54, 3) := by decide +kernel
theorem dX8_going_43 : decode cX8_going 43 = .ok (.getfield 270, 3) := by decide +kernel
theorem dX8_going_46 : decode cX8_going 46 = .ok (.invokevirtual 167, 3) := by decide +kernel
theorem dX8_going_49 : decode cX8_going 49 = .ok (.pop, 1) := by decide +kernel
theorem dX8_going_50 : decode cX8_going 50 = .ok (.aload_n 0, 1) := by decide +kernel
theorem dX8_going_51 : decode cX8_going 51 = .ok (.getfield 54, 3) := by decide +kernel
theorem dX8_going_54 : decode cX8_going 54 = .ok (.getfield 273, 3) := by decide +kernel
theorem dX8_going_57 : decode cX8_going 57 = .ok (.ireturn, 1) := by decide +kernel
theorem dX8_mark_0 : decode cX8_mark 0 = .ok (.iload_n 1, 1) := by decide +kernel
theorem dX8_mark_1 : decode cX8_mark 1 = .ok (.iload_n 2, 1) := by decide +kernel
theorem dX8_mark_2 : decode cX8_mark 2 = .ok (.iload_n 3, 1) := by decide +kernel
theorem dX8_mark_3 : decode cX8_mark 3 = .ok (.iload 4, 2) := by decide +kernel
theorem dX8_mark_5 : decode cX8_mark 5 = .ok (.invokestatic 229, 3) := by decide +kernel
theorem dX8_mark_8 : decode cX8_mark 8 = .ok (.ifCond .ne 14, 3) := by decide +kernel
theorem dX8_mark_11 : decode cX8_mark 11 = .ok (.iload 5, 2) := by decide +kernel
theorem dX8_mark_13 : decode cX8_mark 13 = .ok (.iconst 1, 1) := by decide +kernel
theorem dX8_mark_14 : decode cX8_mark 14 = .ok (.bipush 7, 2) := by decide +kernel
theorem dX8_mark_16 : decode cX8_mark 16 = .ok (.invokestatic 90, 3) := by decide +kernel
theorem dX8_mark_19 : decode cX8_mark 19 = .ok (.ifCond .eq 5, 3) := by decide +kernel
theorem dX8_mark_22 : decode cX8_mark 22 = .ok (.iconst (-1), 1) := by decide +kernel
theorem dX8_mark_23 : decode cX8_mark 23 = .ok (.ireturn, 1) := by decide +kernel
theorem dX8_mark_24 : decode cX8_mark 24 = .ok (.aload_n 0, 1) := by decide +kernel
theorem dX8_mark_25 : decode cX8_mark 25 = .ok (.iload_n 1, 1) := by decide +kernel
theorem dX8_mark_26 : decode cX8_mark 26 = .ok (.iload_n 2, 1) := by decide +kernel
theorem dX8_mark_27 : decode cX8_mark 27 = .ok (.invokevirtual 263, 3) := by decide +kernel
theorem dX8_mark_30 : decode cX8_mark 30 = .ok (.ifCond .ne 9, 3) := by decide +kernel
theorem dX8_mark_33 : decode cX8_mark 33 = .ok (.aload_n 0, 1) := by decide +kernel
theorem dX8_mark_34 : decode cX8_mark 34 = .ok (.iconst 1, 1) := by decide +kernel
theorem dX8_mark_35 : decode cX8_mark 35 = .ok (.invokevirtual 150, 3) := by decide +kernel
theorem dX8_mark_38 : decode cX8_mark 38 = .ok (.ireturn, 1) := by decide +kernel
theorem dX8_mark_39 : decode cX8_mark 39 = .ok (.aload_n 0, 1) := by decide +kernel
theorem dX8_mark_40 : decode cX8_mark 40 = .ok (.getfield 54, 3) := by decide +kernel
theorem dX8_mark_43 : decode cX8_mark 43 = .ok (.iload_n 3, 1) := by decide +kernel
theorem dX8_mark_44 : decode cX8_mark 44 = .ok (.iload 4, 2) := by decide +kernel
theorem dX8_mark_46 : decode cX8_mark 46 = .ok (.invokevirtual 266, 3) := by decide +kernel
theorem dX8_mark_49 : decode cX8_mark 49 = .ok (.aload_n 0, 1) := by decide +kernel
theorem dX8_mark_50 : decode cX8_mark 50 = .ok (.getfield 54, 3) := by decide +kernel
theorem dX8_mark_53 : decode cX8_mark 53 = .ok (.iload 5, 2) := by decide +kernel
theorem dX8_mark_55 : decode cX8_mark 55 = .ok (.invokevirtual 276, 3) := by decide +kernel
theorem dX8_mark_58 : decode cX8_mark 58 = .ok (.ifCond .ne 9, 3) := by decide +kernel
theorem dX8_mark_61 : decode cX8_mark 61 = .ok (.aload_n 0, 1) := by decide +kernel
theorem dX8_mark_62 : decode cX8_mark 62 = .ok (.iconst 3, 1) := by decide +kernel
theorem dX8_mark_63 : decode cX8_mark 63 = .ok (.invokevirtual 150, 3) := by decide +kernel
theorem dX8_mark_66 : decode cX8_mark 66 = .ok (.ireturn, 1) := by decide +kernel
theorem dX8_mark_67 : decode cX8_mark 67 = .ok (.iload 5, 2) := by decide +kernel
theorem dX8_mark_69 : decode cX8_mark 69 = .ok (.iconst 3, 1) := by decide +kernel
theorem dX8_mark_70 : decode cX8_mark 70 = .ok (.if_icmp .ne 16, 3) := by decide +kernel
theorem dX8_mark_73 : decode cX8_mark 73 = .ok (.aload_n 0, 1) := by decide +kernel
theorem dX8_mark_74 : decode cX8_mark 74 = .ok (.getfield 54, 3) := by decide +kernel
theorem dX8_mark_77 : decode cX8_mark 77 = .ok (.iload_n 3, 1) := by decide +kernel
theorem dX8_mark_78 : decode cX8_mark 78 = .ok (.iload 4, 2) := by decide +kernel
theorem dX8_mark_80 : decode cX8_mark 80 = .ok (.invokevirtual 279, 3) := by decide +kernel
theorem dX8_mark_83 : decode cX8_mark 83 = .ok (.goto 12, 3) := by decide +kernel
theorem dX8_mark_86 : decode cX8_mark 86 = .ok (.aload_n 0, 1) := by decide +kernel
theorem dX8_mark_87 : decode cX8_mark 87 = .ok (.getfield 54, 3) := by decide +kernel
theorem dX8_mark_90 : decode cX8_mark 90 = .ok (.iload 5, 2) := by decide +kernel
theorem dX8_mark_92 : decode cX8_mark 92 = .ok (.invokevirtual 282, 3) := by decide +kernel
theorem dX8_mark_95 : decode cX8_mark 95 = .ok (.ireturn, 1) := by decide +kernel
theorem dX8_lines_0 : decode cX8_lines 0 = .ok (.iload_n 1, 1) := by decide +kernel
theorem dX8_lines_1 : decode cX8_lines 1 = .ok (.iload_n 2, 1) := by decide +kernel
theorem dX8_lines_2 : decode cX8_lines 2 = .ok (.iload_n 3, 1) := by decide +kernel
theorem dX8_lines_3 : decode cX8_lines 3 = .ok (.invokestatic 104, 3) := by decide +kernel
theorem dX8_lines_6 : decode cX8_lines 6 = .ok (.ifCond .ne 14, 3) := by decide +kernel
theorem dX8_lines_9 : decode cX8_lines 9 = .ok (.iload 4, 2) := by decide +kernel
theorem dX8_lines_11 : decode cX8_lines 11 = .ok (.iconst 0, 1) := by decide +kernel
theorem dX8_lines_12 : decode cX8_lines 12 = .ok (.bipush 7, 2) := by decide +kernel
theorem dX8_lines_14 : decode cX8_lines 14 = .ok (.invokestatic 90, 3) := by decide +kernel
theorem dX8_lines_17 : decode cX8_lines 17 = .ok (.ifCond .eq 5, 3) := by decide +kernel
theorem dX8_lines_20 : decode cX8_lines 20 = .ok (.iconst (-1), 1) := by decide +kernel
theorem dX8_lines_21 : decode cX8_lines 21 = .ok (.ireturn, 1) := by decide +kernel
theorem dX8_lines_22 : decode cX8_lines 22 = .ok (.aload_n 0, 1) := by decide +kernel
theorem dX8_lines_23 : decode cX8_lines 23 = .ok (.iload_n 1, 1) := by decide +kernel
theorem dX8_lines_24 : decode cX8_lines 24 = .ok (.iload_n 2, 1) := by decide +kernel
theorem dX8_lines_25 : decode cX8_lines 25 = .ok (.invokevirtual 263, 3) := by decide +kernel
theorem dX8_lines_28 : decode cX8_lines 28 = .ok (.ifCond .ne 9, 3) := by decide +kernel
theorem dX8_lines_31 : decode cX8_lines 31 = .ok (.aload_n 0, 1) := by decide +kernel
theorem dX8_lines_32 : decode cX8_lines 32 = .ok (.iconst 1, 1) := by decide +kernel
theorem dX8_lines_33 : decode cX8_lines 33 = .ok (.invokevirtual 150, 3) := by decide +kernel
theorem dX8_lines_36 : decode cX8_lines 36 = .ok (.ireturn, 1) := by decide +kernel
theorem dX8_lines_37 : decode cX8_lines 37 = .ok (.iconst 0, 1) := by decide +kernel
theorem dX8_lines_38 : decode cX8_lines 38 = .ok (.istore 5, 2) := by decide +kernel
theorem dX8_lines_40 : decode cX8_lines 40 = .ok (.bipush (-9), 2) := by decide +kernel
theorem dX8_lines_42 : decode cX8_lines 42 = .ok (.istore 6, 2) := by decide +kernel
theorem dX8_lines_44 : decode cX8_lines 44 = .ok (.bipush 99, 2) := by decide +kernel
theorem dX8_lines_46 : decode cX8_lines 46 = .ok (.istore 7, 2) := by decide +kernel
theorem dX8_lines_48 : decode cX8_lines 48 = .ok (.iload 7, 2) := by decide +kernel
theorem dX8_lines_50 : decode cX8_lines 50 = .ok (.ifCond .lt 38, 3) := by decide +kernel
theorem dX8_lines_53 : decode cX8_lines 53 = .ok (.aload_n 0, 1) := by decide +kernel
theorem dX8_lines_54 : decode cX8_lines 54 = .ok (.getfield 54, 3) := by decide +kernel
theorem dX8_lines_57 : decode cX8_lines 57 = .ok (.iload 7, 2) := by decide +kernel
theorem dX8_lines_59 : decode cX8_lines 59 = .ok (.iload_n 3, 1) := by decide +kernel
theorem dX8_lines_60 : decode cX8_lines 60 = .ok (.invokevirtual 266, 3) := by decide +kernel
theorem dX8_lines_63 : decode cX8_lines 63 = .ok (.aload_n 0, 1) := by decide +kernel
theorem dX8_lines_64 : decode cX8_lines 64 = .ok (.getfield 54, 3) := by decide +kernel
theorem dX8_lines_67 : decode cX8_lines 67 = .ok (.iload 4, 2) := by decide +kernel
theorem dX8_lines_69 : decode cX8_lines 69 = .ok (.invokevirtual 276, 3) := by decide +kernel
theorem dX8_lines_72 : decode cX8_lines 72 = .ok (.ifCond .eq 10, 3) := by decide +kernel
theorem dX8_lines_75 : decode cX8_lines 75 = .ok (.iinc 5 1, 3) := by decide +kernel
theorem dX8_lines_78 : decode cX8_lines 78 = .ok (.iload 7, 2) := by decide +kernel
theorem dX8_lines_80 : decode cX8_lines 80 = .ok (.istore 6, 2) := by decide +kernel
theorem dX8_lines_82 : decode cX8_lines 82 = .ok (.iinc 7 (-1), 3) := by decide +kernel
theorem dX8_lines_85 : decode cX8_lines 85 = .ok (.goto (-37), 3) := by decide +kernel
theorem dX8_lines_88 : decode cX8_lines 88 = .ok (.aload_n 0, 1) := by decide +kernel
theorem dX8_lines_89 : decode cX8_lines 89 = .ok (.iload 6, 2) := by decide +kernel
theorem dX8_lines_91 : decode cX8_lines 91 = .ok (.invokevirtual 167, 3) := by decide +kernel
theorem dX8_lines_94 : decode cX8_lines 94 = .ok (.pop, 1) := by decide +kernel
theorem dX8_lines_95 : decode cX8_lines 95 = .ok (.iload 5, 2) := by decide +kernel
theorem dX8_lines_97 : decode cX8_lines 97 = .ok (.ireturn, 1) := by decide +kernel
theorem dX8_begins_0 : decode cX8_begins 0 = .ok (.iload_n 1, 1) := by decide +kernel
theorem dX8_begins_1 : decode cX8_begins 1 = .ok (.iload_n 2, 1) := by decide +kernel
theorem dX8_begins_2 : decode cX8_begins 2 = .ok (.iload_n 3, 1) := by decide +kernel
theorem dX8_begins_3 : decode cX8_begins 3 = .ok (.iconst 0, 1) := by decide +kernel
theorem dX8_begins_4 : decode cX8_begins 4 = .ok (.invokestatic 229, 3) := by decide +kernel
theorem dX8_begins_7 : decode cX8_begins 7 = .ok (.ifCond .eq 5, 3) := by decide +kernel
theorem dX8_begins_10 : decode cX8_begins 10 = .ok (.iconst (-1), 1) := by decide +kernel
theorem dX8_begins_11 : decode cX8_begins 11 = .ok (.ireturn, 1) := by decide +kernel
theorem dX8_begins_12 : decode cX8_begins 12 = .ok (.aload_n 0, 1) := by decide +kernel
theorem dX8_begins_13 : decode cX8_begins 13 = .ok (.iload_n 1, 1) := by decide +kernel
theorem dX8_begins_14 : decode cX8_begins 14 = .ok (.iload_n 2, 1) := by decide +kernel
theorem dX8_begins_15 : decode cX8_begins 15 = .ok (.invokevirtual 263, 3) := by decide +kernel
theorem dX8_begins_18 : decode cX8_begins 18 = .ok (.ifCond .ne 9, 3) := by decide +kernel
theorem dX8_begins_21 : decode cX8_begins 21 = .ok (.aload_n 0, 1) := by decide +kernel
theorem dX8_begins_22 : decode cX8_begins 22 = .ok (.iconst 1, 1) := by decide +kernel
theorem dX8_begins_23 : decode cX8_begins 23 = .ok (.invokevirtual 150, 3) := by decide +kernel
theorem dX8_begins_26 : decode cX8_begins 26 = .ok (.ireturn, 1) := by decide +kernel
theorem dX8_begins_27 : decode cX8_begins 27 = .ok (.iconst 0, 1) := by decide +kernel
theorem dX8_begins_28 : decode cX8_begins 28 = .ok (.istore 4, 2) := by decide +kernel
theorem dX8_begins_30 : decode cX8_begins 30 = .ok (.bipush (-9), 2) := by decide +kernel
theorem dX8_begins_32 : decode cX8_begins 32 = .ok (.istore 5, 2) := by decide +kernel
theorem dX8_begins_34 : decode cX8_begins 34 = .ok (.bipush 99, 2) := by decide +kernel
theorem dX8_begins_36 : decode cX8_begins 36 = .ok (.istore 6, 2) := by decide +kernel
theorem dX8_begins_38 : decode cX8_begins 38 = .ok (.iload 6, 2) := by decide +kernel
theorem dX8_begins_40 : decode cX8_begins 40 = .ok (.ifCond .lt 29, 3) := by decide +kernel
theorem dX8_begins_43 : decode cX8_begins 43 = .ok (.aload_n 0, 1) := by decide +kernel
theorem dX8_begins_44 : decode cX8_begins 44 = .ok (.getfield 54, 3) := by decide +kernel
theorem dX8_begins_47 : decode cX8_begins 47 = .ok (.iload_n 3, 1) := by decide +kernel
theorem dX8_begins_48 : decode cX8_begins 48 = .ok (.iload 6, 2) := by decide +kernel
theorem dX8_begins_50 : decode cX8_begins 50 = .ok (.invokevirtual 285, 3) := by decide +kernel
theorem dX8_begins_53 : decode cX8_begins 53 = .ok (.ifCond .eq 10, 3) := by decide +kernel
theorem dX8_begins_56 : decode cX8_begins 56 = .ok (.iinc 4 1, 3) := by decide +kernel
theorem dX8_begins_59 : decode cX8_begins 59 = .ok (.iload 6, 2) := by decide +kernel
theorem dX8_begins_61 : decode cX8_begins 61 = .ok (.istore 5, 2) := by decide +kernel
theorem dX8_begins_63 : decode cX8_begins 63 = .ok (.iinc 6 (-1), 3) := by decide +kernel
theorem dX8_begins_66 : decode cX8_begins 66 = .ok (.goto (-28), 3) := by decide +kernel
theorem dX8_begins_69 : decode cX8_begins 69 = .ok (.aload_n 0, 1) := by decide +kernel
theorem dX8_begins_70 : decode cX8_begins 70 = .ok (.iload 5, 2) := by decide +kernel
theorem dX8_begins_72 : decode cX8_begins 72 = .ok (.invokevirtual 167, 3) := by decide +kernel
theorem dX8_begins_75 : decode cX8_begins 75 = .ok (.pop, 1) := by decide +kernel
theorem dX8_begins_76 : decode cX8_begins 76 = .ok (.iload 4, 2) := by decide +kernel
theorem dX8_begins_78 : decode cX8_begins 78 = .ok (.ireturn, 1) := by decide +kernel
theorem dX8_mends_0 : decode cX8_mends 0 = .ok (.iload_n 1, 1) := by decide +kernel
theorem dX8_mends_1 : decode cX8_mends 1 = .ok (.iload_n 2, 1) := by decide +kernel
theorem dX8_mends_2 : decode cX8_mends 2 = .ok (.iload_n 3, 1) := by decide +kernel
theorem dX8_mends_3 : decode cX8_mends 3 = .ok (.iload 4, 2) := by decide +kernel
theorem dX8_mends_5 : decode cX8_mends 5 = .ok (.invokestatic 229, 3) := by decide +kernel
theorem dX8_mends_8 : decode cX8_mends 8 = .ok (.ifCond .ne 14, 3) := by decide +kernel
theorem dX8_mends_11 : decode cX8_mends 11 = .ok (.iload 5, 2) := by decide +kernel
theorem dX8_mends_13 : decode cX8_mends 13 = .ok (.iconst 1, 1) := by decide +kernel
theorem dX8_mends_14 : decode cX8_mends 14 = .ok (.bipush 20, 2) := by decide +kernel
theorem dX8_mends_16 : decode cX8_mends 16 = .ok (.invokestatic 90, 3) := by decide +kernel
theorem dX8_mends_19 : decode cX8_mends 19 = .ok (.ifCond .eq 5, 3) := by decide +kernel
theorem dX8_mends_22 : decode cX8_mends 22 = .ok (.iconst (-1), 1) := by decide +kernel
theorem dX8_mends_23 : decode cX8_mends 23 = .ok (.ireturn, 1) := by decide +kernel
theorem dX8_mends_24 : decode cX8_mends 24 = .ok (.aload_n 0, 1) := by decide +kernel
theorem dX8_mends_25 : decode cX8_mends 25 = .ok (.iload_n 1, 1) := by decide +kernel
theorem dX8_mends_26 : decode cX8_mends 26 = .ok (.iload_n 2, 1) := by decide +kernel
theorem dX8_mends_27 : decode cX8_mends 27 = .ok (.invokevirtual 263, 3) := by decide +kernel
theorem dX8_mends_30 : decode cX8_mends 30 = .ok (.ifCond .ne 9, 3) := by decide +kernel
theorem dX8_mends_33 : decode cX8_mends 33 = .ok (.aload_n 0, 1) := by decide +kernel
theorem dX8_mends_34 : decode cX8_mends 34 = .ok (.iconst 1, 1) := by decide +kernel
theorem dX8_mends_35 : decode cX8_mends 35 = .ok (.invokevirtual 150, 3) := by decide +kernel
theorem dX8_mends_38 : decode cX8_mends 38 = .ok (.ireturn, 1) := by decide +kernel
theorem dX8_mends_39 : decode cX8_mends 39 = .ok (.aload_n 0, 1) := by decide +kernel
theorem dX8_mends_40 : decode cX8_mends 40 = .ok (.getfield 54, 3) := by decide +kernel
theorem dX8_mends_43 : decode cX8_mends 43 = .ok (.iload_n 3, 1) := by decide +kernel
theorem dX8_mends_44 : decode cX8_mends 44 = .ok (.iload 4, 2) := by decide +kernel
theorem dX8_mends_46 : decode cX8_mends 46 = .ok (.invokevirtual 285, 3) := by decide +kernel
theorem dX8_mends_49 : decode cX8_mends 49 = .ok (.ifCond .ne 9, 3) := by decide +kernel
theorem dX8_mends_52 : decode cX8_mends 52 = .ok (.aload_n 0, 1) := by decide +kernel
theorem dX8_mends_53 : decode cX8_mends 53 = .ok (.iconst 3, 1) := by decide +kernel
theorem dX8_mends_54 : decode cX8_mends 54 = .ok (.invokevirtual 150, 3) := by decide +kernel
theorem dX8_mends_57 : decode cX8_mends 57 = .ok (.ireturn, 1) := by decide +kernel
theorem dX8_mends_58 : decode cX8_mends 58 = .ok (.aload_n 0, 1) := by decide +kernel
theorem dX8_mends_59 : decode cX8_mends 59 = .ok (.getfield 54, 3) := by decide +kernel
theorem dX8_mends_62 : decode cX8_mends 62 = .ok (.getfield 115, 3) := by decide +kernel
theorem dX8_mends_65 : decode cX8_mends 65 = .ok (.astore 6, 2) := by decide +kernel
theorem dX8_mends_67 : decode cX8_mends 67 = .ok (.aload_n 0, 1) := by decide +kernel
theorem dX8_mends_68 : decode cX8_mends 68 = .ok (.getfield 54, 3) := by decide +kernel
theorem dX8_mends_71 : decode cX8_mends 71 = .ok (.getfield 288, 3) := by decide +kernel
theorem dX8_mends_74 : decode cX8_mends 74 = .ok (.istore 7, 2) := by decide +kernel
theorem dX8_mends_76 : decode cX8_mends 76 = .ok (.aload 6, 2) := by decide +kernel
theorem dX8_mends_78 : decode cX8_mends 78 = .ok (.iload_n 3, 1) := by decide +kernel
theorem dX8_mends_79 : decode cX8_mends 79 = .ok (.iload 7, 2) := by decide +kernel
theorem dX8_mends_81 : decode cX8_mends 81 = .ok (.iload 5, 2) := by decide +kernel
theorem dX8_mends_83 : decode cX8_mends 83 = .ok (.iadd, 1) := by decide +kernel
theorem dX8_mends_84 : decode cX8_mends 84 = .ok (.iconst 0, 1) := by decide +kernel
theorem dX8_mends_85 : decode cX8_mends 85 = .ok (.invokevirtual 233, 3) := by decide +kernel
theorem dX8_mends_88 : decode cX8_mends 88 = .ok (.iconst 1, 1) := by decide +kernel
theorem dX8_mends_89 : decode cX8_mends 89 = .ok (.istore 8, 2) := by decide +kernel
theorem dX8_mends_91 : decode cX8_mends 91 = .ok (.iload 8, 2) := by decide +kernel
theorem dX8_mends_93 : decode cX8_mends 93 = .ok (.sipush 400, 3) := by decide +kernel
theorem dX8_mends_96 : decode cX8_mends 96 = .ok (.if_icmp .gt 30, 3) := by decide +kernel
theorem dX8_mends_99 : decode cX8_mends 99 = .ok (.aload 6, 2) := by decide +kernel
theorem dX8_mends_101 : decode cX8_mends 101 = .ok (.invokevirtual 248, 3) := by decide +kernel
theorem dX8_mends_104 : decode cX8_mends 104 = .ok (.ifCond .eq 22, 3) := by decide +kernel
theorem dX8_mends_107 : decode cX8_mends 107 = .ok (.aload 6, 2) := by decide +kernel
theorem dX8_mends_109 : decode cX8_mends 109 = .ok (.getfield 251, 3) := by decide +kernel
theorem dX8_mends_112 : decode cX8_mends 112 = .ok (.iload 7, 2) := by decide +kernel
theorem dX8_mends_114 : decode cX8_mends 114 = .ok (.if_icmp .ne 6, 3) := by decide +kernel
theorem dX8_mends_117 : decode cX8_mends 117 = .ok (.iload 8, 2) := by decide +kernel
theorem dX8_mends_119 : decode cX8_mends 119 = .ok (.ireturn, 1) := by decide +kernel
theorem dX8_mends_120 : decode cX8_mends 120 = .ok (.iinc 8 1, 3) := by decide +kernel
theorem dX8_mends_123 : decode cX8_mends 123 = .ok (.goto (-32), 3) := by decide +kernel
theorem dX8_mends_126 : decode cX8_mends 126 = .ok (.bipush (-9), 2) := by decide +kernel
theorem dX8_mends_128 : decode cX8_mends 128 = .ok (.ireturn, 1) := by decide +kernel
theorem dX8_wide_0 : decode cX8_wide 0 = .ok (.iload_n 1, 1) := by decide +kernel
theorem dX8_wide_1 : decode cX8_wide 1 = .ok (.iload_n 2, 1) := by decide +kernel
theorem dX8_wide_2 : decode cX8_wide 2 = .ok (.iload_n 3, 1) := by decide +kernel
theorem dX8_wide_3 : decode cX8_wide 3 = .ok (.invokestatic 104, 3) := by decide +kernel
theorem dX8_wide_6 : decode cX8_wide 6 = .ok (.ifCond .eq 5, 3) := by decide +kernel
theorem dX8_wide_9 : decode cX8_wide 9 = .ok (.iconst (-1), 1) := by decide +kernel
theorem dX8_wide_10 : decode cX8_wide 10 = .ok (.ireturn, 1) := by decide +kernel
theorem dX8_wide_11 : decode cX8_wide 11 = .ok (.aload_n 0, 1) := by decide +kernel
theorem dX8_wide_12 : decode cX8_wide 12 = .ok (.iload_n 1, 1) := by decide +kernel
theorem dX8_wide_13 : decode cX8_wide 13 = .ok (.iload_n 2, 1) := by decide +kernel
theorem dX8_wide_14 : decode cX8_wide 14 = .ok (.invokevirtual 263, 3) := by decide +kernel
theorem dX8_wide_17 : decode cX8_wide 17 = .ok (.ifCond .ne 9, 3) := by decide +kernel
theorem dX8_wide_20 : decode cX8_wide 20 = .ok (.aload_n 0, 1) := by decide +kernel
theorem dX8_wide_21 : decode cX8_wide 21 = .ok (.iconst 1, 1) := by decide +kernel
theorem dX8_wide_22 : decode cX8_wide 22 = .ok (.invokevirtual 150, 3) := by decide +kernel
theorem dX8_wide_25 : decode cX8_wide 25 = .ok (.ireturn, 1) := by decide +kernel
theorem dX8_wide_26 : decode cX8_wide 26 = .ok (.iconst (-1), 1) := by decide +kernel
theorem dX8_wide_27 : decode cX8_wide 27 = .ok (.istore 4, 2) := by decide +kernel
theorem dX8_wide_29 : decode cX8_wide 29 = .ok (.iconst 0, 1) := by decide +kernel
theorem dX8_wide_30 : decode cX8_wide 30 = .ok (.istore 5, 2) := by decide +kernel
theorem dX8_wide_32 : decode cX8_wide 32 = .ok (.iconst 1, 1) := by decide +kernel
theorem dX8_wide_33 : decode cX8_wide 33 = .ok (.istore 6, 2) := by decide +kernel
theorem dX8_wide_35 : decode cX8_wide 35 = .ok (.iload 6, 2) := by decide +kernel
theorem dX8_wide_37 : decode cX8_wide 37 = .ok (.bipush 9, 2) := by decide +kernel
theorem dX8_wide_39 : decode cX8_wide 39 = .ok (.if_icmp .gt 90, 3) := by decide +kernel
theorem dX8_wide_42 : decode cX8_wide 42 = .ok (.iconst 1, 1) := by decide +kernel
theorem dX8_wide_43 : decode cX8_wide 43 = .ok (.istore 7, 2) := by decide +kernel
theorem dX8_wide_45 : decode cX8_wide 45 = .ok (.iload 7, 2) := by decide +kernel
theorem dX8_wide_47 : decode cX8_wide 47 = .ok (.bipush 9, 2) := by decide +kernel
theorem dX8_wide_49 : decode cX8_wide 49 = .ok (.if_icmp .gt 74, 3) := by decide +kernel
theorem dX8_wide_52 : decode cX8_wide 52 = .ok (.aload_n 0, 1) := by decide +kernel
theorem dX8_wide_53 : decode cX8_wide 53 = .ok (.getfield 54, 3) := by decide +kernel
theorem dX8_wide_56 : decode cX8_wide 56 = .ok (.getfield 115, 3) := by decide +kernel
theorem dX8_wide_59 : decode cX8_wide 59 = .ok (.getfield 116, 3) := by decide +kernel
theorem dX8_wide_62 : decode cX8_wide 62 = .ok (.getfield 226, 3) := by decide +kernel
theorem dX8_wide_65 : decode cX8_wide 65 = .ok (.iconst 1, 1) := by decide +kernel
theorem dX8_wide_66 : decode cX8_wide 66 = .ok (.iload 6, 2) := by decide +kernel
theorem dX8_wide_68 : decode cX8_wide 68 = .ok (.iastore, 1) := by decide +kernel
theorem dX8_wide_69 : decode cX8_wide 69 = .ok (.aload_n 0, 1) := by decide +kernel
theorem dX8_wide_70 : decode cX8_wide 70 = .ok (.getfield 54, 3) := by decide +kernel
theorem dX8_wide_73 : decode cX8_wide 73 = .ok (.getfield 115, 3) := by decide +kernel
theorem dX8_wide_76 : decode cX8_wide 76 = .ok (.getfield 116, 3) := by decide +kernel
theorem dX8_wide_79 : decode cX8_wide 79 = .ok (.getfield 226, 3) := by decide +kernel
theorem dX8_wide_82 : decode cX8_wide 82 = .ok (.iconst 2, 1) := by decide +kernel
theorem dX8_wide_83 : decode cX8_wide 83 = .ok (.iload 7, 2) := by decide +kernel
theorem dX8_wide_85 : decode cX8_wide 85 = .ok (.iastore, 1) := by decide +kernel
theorem dX8_wide_86 : decode cX8_wide 86 = .ok (.aload_n 0, 1) := by decide +kernel
theorem dX8_wide_87 : decode cX8_wide 87 = .ok (.getfield 54, 3) := by decide +kernel
theorem dX8_wide_90 : decode cX8_wide 90 = .ok (.iload_n 3, 1) := by decide +kernel
theorem dX8_wide_91 : decode cX8_wide 91 = .ok (.invokevirtual 291, 3) := by decide +kernel
theorem dX8_wide_94 : decode cX8_wide 94 = .ok (.istore 8, 2) := by decide +kernel
theorem dX8_wide_96 : decode cX8_wide 96 = .ok (.iload 8, 2) := by decide +kernel
theorem dX8_wide_98 : decode cX8_wide 98 = .ok (.iload 4, 2) := by decide +kernel
theorem dX8_wide_100 : decode cX8_wide 100 = .ok (.if_icmp .le 17, 3) := by decide +kernel
theorem dX8_wide_103 : decode cX8_wide 103 = .ok (.iload 8, 2) := by decide +kernel
theorem dX8_wide_105 : decode cX8_wide 105 = .ok (.istore 4, 2) := by decide +kernel
theorem dX8_wide_107 : decode cX8_wide 107 = .ok (.bipush 10, 2) := by decide +kernel
theorem dX8_wide_109 : decode cX8_wide 109 = .ok (.iload 6, 2) := by decide +kernel
theorem dX8_wide_111 : decode cX8_wide 111 = .ok (.imul, 1) := by decide +kernel
theorem dX8_wide_112 : decode cX8_wide 112 = .ok (.iload 7, 2) := by decide +kernel
theorem dX8_wide_114 : decode cX8_wide 114 = .ok (.iadd, 1) := by decide +kernel
theorem dX8_wide_115 : decode cX8_wide 115 = .ok (.istore 5, 2) := by decide +kernel
theorem dX8_wide_117 : decode cX8_wide 117 = .ok (.iinc 7 1, 3) := by decide +kernel
theorem dX8_wide_120 : decode cX8_wide 120 = .ok (.goto (-75), 3) := by decide +kernel
theorem dX8_wide_123 : decode cX8_wide 123 = .ok (.iinc 6 1, 3) := by decide +kernel
theorem dX8_wide_126 : decode cX8_wide 126 = .ok (.goto (-91), 3) := by decide +kernel
theorem dX8_wide_129 : decode cX8_wide 129 = .ok (.aload_n 0, 1) := by decide +kernel
theorem dX8_wide_130 : decode cX8_wide 130 = .ok (.iload 4, 2) := by decide +kernel
theorem dX8_wide_132 : decode cX8_wide 132 = .ok (.invokevirtual 167, 3) := by decide +kernel
theorem dX8_wide_135 : decode cX8_wide 135 = .ok (.pop, 1) := by decide +kernel
theorem dX8_wide_136 : decode cX8_wide 136 = .ok (.iload 5, 2) := by decide +kernel
theorem dX8_wide_138 : decode cX8_wide 138 = .ok (.ireturn, 1) := by decide +kernel
theorem dX8_mend_0 : decode cX8_mend 0 = .ok (.iload_n 1, 1) := by decide +kernel
theorem dX8_mend_1 : decode cX8_mend 1 = .ok (.iload_n 2, 1) := by decide +kernel
theorem dX8_mend_2 : decode cX8_mend 2 = .ok (.iload_n 3, 1) := by decide +kernel
theorem dX8_mend_3 : decode cX8_mend 3 = .ok (.iload 4, 2) := by decide +kernel
theorem dX8_mend_5 : decode cX8_mend 5 = .ok (.invokestatic 229, 3) := by decide +kernel
theorem dX8_mend_8 : decode cX8_mend 8 = .ok (.ifCond .eq 5, 3) := by decide +kernel
theorem dX8_mend_11 : decode cX8_mend 11 = .ok (.iconst (-1), 1) := by decide +kernel
theorem dX8_mend_12 : decode cX8_mend 12 = .ok (.ireturn, 1) := by decide +kernel
theorem dX8_mend_13 : decode cX8_mend 13 = .ok (.aload_n 0, 1) := by decide +kernel
theorem dX8_mend_14 : decode cX8_mend 14 = .ok (.iload_n 1, 1) := by decide +kernel
theorem dX8_mend_15 : decode cX8_mend 15 = .ok (.iload_n 2, 1) := by decide +kernel
theorem dX8_mend_16 : decode cX8_mend 16 = .ok (.invokevirtual 263, 3) := by decide +kernel
theorem dX8_mend_19 : decode cX8_mend 19 = .ok (.ifCond .ne 9, 3) := by decide +kernel
theorem dX8_mend_22 : decode cX8_mend 22 = .ok (.aload_n 0, 1) := by decide +kernel
theorem dX8_mend_23 : decode cX8_mend 23 = .ok (.iconst 1, 1) := by decide +kernel
theorem dX8_mend_24 : decode cX8_mend 24 = .ok (.invokevirtual 150, 3) := by decide +kernel
theorem dX8_mend_27 : decode cX8_mend 27 = .ok (.ireturn, 1) := by decide +kernel
theorem dX8_mend_28 : decode cX8_mend 28 = .ok (.iconst 0, 1) := by decide +kernel
theorem dX8_mend_29 : decode cX8_mend 29 = .ok (.istore 5, 2) := by decide +kernel
theorem dX8_mend_31 : decode cX8_mend 31 = .ok (.iload 5, 2) := by decide +kernel
theorem dX8_mend_33 : decode cX8_mend 33 = .ok (.bipush 18, 2) := by decide +kernel
theorem dX8_mend_35 : decode cX8_mend 35 = .ok (.if_icmp .gt 112, 3) := by decide +kernel
theorem dX8_mend_38 : decode cX8_mend 38 = .ok (.iconst 0, 1) := by decide +kernel
theorem dX8_mend_39 : decode cX8_mend 39 = .ok (.iload 5, 2) := by decide +kernel
theorem dX8_mend_41 : decode cX8_mend 41 = .ok (.bipush 9, 2) := by decide +kernel
theorem dX8_mend_43 : decode cX8_mend 43 = .ok (.isub, 1) := by decide +kernel
theorem dX8_mend_44 : decode cX8_mend 44 = .ok (.invokestatic 138, 3) := by decide +kernel
theorem dX8_mend_47 : decode cX8_mend 47 = .ok (.istore 6, 2) := by decide +kernel
theorem dX8_mend_49 : decode cX8_mend 49 = .ok (.iload 6, 2) := by decide +kernel
theorem dX8_mend_51 : decode cX8_mend 51 = .ok (.bipush 9, 2) := by decide +kernel
theorem dX8_mend_53 : decode cX8_mend 53 = .ok (.iload 5, 2) := by decide +kernel
theorem dX8_mend_55 : decode cX8_mend 55 = .ok (.invokestatic 294, 3) := by decide +kernel
theorem dX8_mend_58 : decode cX8_mend 58 = .ok (.if_icmp .gt 83, 3) := by decide +kernel
theorem dX8_mend_61 : decode cX8_mend 61 = .ok (.aload_n 0, 1) := by decide +kernel
theorem dX8_mend_62 : decode cX8_mend 62 = .ok (.getfield 54, 3) := by decide +kernel
theorem dX8_mend_65 : decode cX8_mend 65 = .ok (.getfield 115, 3) := by decide +kernel
theorem dX8_mend_68 : decode cX8_mend 68 = .ok (.getfield 116, 3) := by decide +kernel
theorem dX8_mend_71 : decode cX8_mend 71 = .ok (.getfield 226, 3) := by decide +kernel
theorem dX8_mend_74 : decode cX8_mend 74 = .ok (.iconst 4, 1) := by decide +kernel
theorem dX8_mend_75 : decode cX8_mend 75 = .ok (.iload 6, 2) := by decide +kernel
theorem dX8_mend_77 : decode cX8_mend 77 = .ok (.iastore, 1) := by decide +kernel
theorem dX8_mend_78 : decode cX8_mend 78 = .ok (.aload_n 0, 1) := by decide +kernel
theorem dX8_mend_79 : decode cX8_mend 79 = .ok (.getfield 54, 3) := by decide +kernel
theorem dX8_mend_82 : decode cX8_mend 82 = .ok (.getfield 115, 3) := by decide +kernel
theorem dX8_mend_85 : decode cX8_mend 85 = .ok (.getfield 116, 3) := by decide +kernel
theorem dX8_mend_88 : decode cX8_mend 88 = .ok (.getfield 226, 3) := by decide +kernel
theorem dX8_mend_91 : decode cX8_mend 91 = .ok (.iconst 5, 1) := by decide +kernel
theorem dX8_mend_92 : decode cX8_mend 92 = .ok (.iload 5, 2) := by decide +kernel
theorem dX8_mend_94 : decode cX8_mend 94 = .ok (.iload 6, 2) := by decide +kernel
theorem dX8_mend_96 : decode cX8_mend 96 = .ok (.isub, 1) := by decide +kernel
theorem dX8_mend_97 : decode cX8_mend 97 = .ok (.iastore, 1) := by decide +kernel
theorem dX8_mend_98 : decode cX8_mend 98 = .ok (.aload_n 0, 1) := by decide +kernel
theorem dX8_mend_99 : decode cX8_mend 99 = .ok (.getfield 54, 3) := by decide +kernel
theorem dX8_mend_102 : decode cX8_mend 102 = .ok (.iload_n 3, 1) := by decide +kernel
theorem dX8_mend_103 : decode cX8_mend 103 = .ok (.iload 4, 2) := by decide +kernel
theorem dX8_mend_105 : decode cX8_mend 105 = .ok (.invokevirtual 285, 3) := by decide +kernel
theorem dX8_mend_108 : decode cX8_mend 108 = .ok (.ifCond .eq 27, 3) := by decide +kernel
theorem dX8_mend_111 : decode cX8_mend 111 = .ok (.aload_n 0, 1) := by decide +kernel
theorem dX8_mend_112 : decode cX8_mend 112 = .ok (.aload_n 0, 1) := by decide +kernel
theorem dX8_mend_113 : decode cX8_mend 113 = .ok (.getfield 54, 3) := by decide +kernel
theorem dX8_mend_116 : decode cX8_mend 116 = .ok (.getfield 288, 3) := by decide +kernel
theorem dX8_mend_119 : decode cX8_mend 119 = .ok (.invokevirtual 167, 3) := by decide +kernel
theorem dX8_mend_122 : decode cX8_mend 122 = .ok (.pop, 1) := by decide +kernel
theorem dX8_mend_123 : decode cX8_mend 123 = .ok (.bipush 10, 2) := by decide +kernel
theorem dX8_mend_125 : decode cX8_mend 125 = .ok (.iload 6, 2) := by decide +kernel
theorem dX8_mend_127 : decode cX8_mend 127 = .ok (.imul, 1) := by decide +kernel
theorem dX8_mend_128 : decode cX8_mend 128 = .ok (.iload 5, 2) := by decide +kernel
theorem dX8_mend_130 : decode cX8_mend 130 = .ok (.iadd, 1) := by decide +kernel
theorem dX8_mend_131 : decode cX8_mend 131 = .ok (.iload 6, 2) := by decide +kernel
theorem dX8_mend_133 : decode cX8_mend 133 = .ok (.isub, 1) := by decide +kernel
theorem dX8_mend_134 : decode cX8_mend 134 = .ok (.ireturn, 1) := by decide +kernel
theorem dX8_mend_135 : decode cX8_mend 135 = .ok (.iinc 6 1, 3) := by decide +kernel
theorem dX8_mend_138 : decode cX8_mend 138 = .ok (.goto (-89), 3) := by decide +kernel
theorem dX8_mend_141 : decode cX8_mend 141 = .ok (.iinc 5 1, 3) := by decide +kernel
theorem dX8_mend_144 : decode cX8_mend 144 = .ok (.goto (-113), 3) := by decide +kernel
theorem dX8_mend_147 : decode cX8_mend 147 = .ok (.bipush (-9), 2) := by decide +kernel
theorem dX8_mend_149 : decode cX8_mend 149 = .ok (.ireturn, 1) := by decide +kernel
theorem dX8_limp_0 : decode cX8_limp 0 = .ok (.aload_n 0, 1) := by decide +kernel
theorem dX8_limp_1 : decode cX8_limp 1 = .ok (.iload_n 1, 1) := by decide +kernel
theorem dX8_limp_2 : decode cX8_limp 2 = .ok (.iload_n 2, 1) := by decide +kernel
theorem dX8_limp_3 : decode cX8_limp 3 = .ok (.iload_n 3, 1) := by decide +kernel
theorem dX8_limp_4 : decode cX8_limp 4 = .ok (.invokevirtual 297, 3) := by decide +kernel
theorem dX8_limp_7 : decode cX8_limp 7 = .ok (.istore 4, 2) := by decide +kernel
theorem dX8_limp_9 : decode cX8_limp 9 = .ok (.iload 4, 2) := by decide +kernel
theorem dX8_limp_11 : decode cX8_limp 11 = .ok (.ifCond .eq 6, 3) := by decide +kernel
theorem dX8_limp_14 : decode cX8_limp 14 = .ok (.iload 4, 2) := by decide +kernel
theorem dX8_limp_16 : decode cX8_limp 16 = .ok (.ireturn, 1) := by decide +kernel
theorem dX8_limp_17 : decode cX8_limp 17 = .ok (.aload_n 0, 1) := by decide +kernel
theorem dX8_limp_18 : decode cX8_limp 18 = .ok (.getfield 64, 3) := by decide +kernel
theorem dX8_limp_21 : decode cX8_limp 21 = .ok (.aload_n 0, 1) := by decide +kernel
theorem dX8_limp_22 : decode cX8_limp 22 = .ok (.getfield 54, 3) := by decide +kernel
theorem dX8_limp_25 : decode cX8_limp 25 = .ok (.getfield 115, 3) := by decide +kernel
theorem dX8_limp_28 : decode cX8_limp 28 = .ok (.aload_n 0, 1) := by decide +kernel
theorem dX8_limp_29 : decode cX8_limp 29 = .ok (.getfield 11, 3) := by decide +kernel
theorem dX8_limp_32 : decode cX8_limp 32 = .ok (.iload_n 3, 1) := by decide +kernel
theorem dX8_limp_33 : decode cX8_limp 33 = .ok (.aaload, 1) := by decide +kernel
theorem dX8_limp_34 : decode cX8_limp 34 = .ok (.invokevirtual 301, 3) := by decide +kernel
theorem dX8_limp_37 : decode cX8_limp 37 = .ok (.aload_n 0, 1) := by decide +kernel
theorem dX8_limp_38 : decode cX8_limp 38 = .ok (.aload_n 0, 1) := by decide +kernel
theorem dX8_limp_39 : decode cX8_limp 39 = .ok (.getfield 64, 3) := by decide +kernel
theorem dX8_limp_42 : decode cX8_limp 42 = .ok (.getfield 305, 3) := by decide +kernel
theorem dX8_limp_45 : decode cX8_limp 45 = .ok (.invokevirtual 167, 3) := by decide +kernel
theorem dX8_limp_48 : decode cX8_limp 48 = .ok (.pop, 1) := by decide +kernel
theorem dX8_limp_49 : decode cX8_limp 49 = .ok (.aload_n 0, 1) := by decide +kernel
theorem dX8_limp_50 : decode cX8_limp 50 = .ok (.getfield 64, 3) := by decide +kernel
theorem dX8_limp_53 : decode cX8_limp 53 = .ok (.getfield 306, 3) := by decide +kernel
theorem dX8_limp_56 : decode cX8_limp 56 = .ok (.ireturn, 1) := by decide +kernel
theorem dX8_odds_0 : decode cX8_odds 0 = .ok (.aload_n 0, 1) := by decide +kernel
theorem dX8_odds_1 : decode cX8_odds 1 = .ok (.iload_n 1, 1) := by decide +kernel
theorem dX8_odds_2 : decode cX8_odds 2 = .ok (.iload_n 2, 1) := by decide +kernel
theorem dX8_odds_3 : decode cX8_odds 3 = .ok (.iload_n 3, 1) := by decide +kernel
theorem dX8_odds_4 : decode cX8_odds 4 = .ok (.invokevirtual 297, 3) := by decide +kernel
theorem dX8_odds_7 : decode cX8_odds 7 = .ok (.istore 4, 2) := by decide +kernel
theorem dX8_odds_9 : decode cX8_odds 9 = .ok (.iload 4, 2) := by decide +kernel
theorem dX8_odds_11 : decode cX8_odds 11 = .ok (.ifCond .eq 6, 3) := by decide +kernel
theorem dX8_odds_14 : decode cX8_odds 14 = .ok (.iload 4, 2) := by decide +kernel
theorem dX8_odds_16 : decode cX8_odds 16 = .ok (.ireturn, 1) := by decide +kernel
theorem dX8_odds_17 : decode cX8_odds 17 = .ok (.aload_n 0, 1) := by decide +kernel
theorem dX8_odds_18 : decode cX8_odds 18 = .ok (.getfield 64, 3) := by decide +kernel
theorem dX8_odds_21 : decode cX8_odds 21 = .ok (.aload_n 0, 1) := by decide +kernel
theorem dX8_odds_22 : decode cX8_odds 22 = .ok (.getfield 54, 3) := by decide +kernel
theorem dX8_odds_25 : decode cX8_odds 25 = .ok (.getfield 115, 3) := by decide +kernel
theorem dX8_odds_28 : decode cX8_odds 28 = .ok (.aload_n 0, 1) := by decide +kernel
theorem dX8_odds_29 : decode cX8_odds 29 = .ok (.getfield 11, 3) := by decide +kernel
theorem dX8_odds_32 : decode cX8_odds 32 = .ok (.iload_n 3, 1) := by decide +kernel
theorem dX8_odds_33 : decode cX8_odds 33 = .ok (.aaload, 1) := by decide +kernel
theorem dX8_odds_34 : decode cX8_odds 34 = .ok (.invokevirtual 301, 3) := by decide +kernel
theorem dX8_odds_37 : decode cX8_odds 37 = .ok (.aload_n 0, 1) := by decide +kernel
theorem dX8_odds_38 : decode cX8_odds 38 = .ok (.aload_n 0, 1) := by decide +kernel
theorem dX8_odds_39 : decode cX8_odds 39 = .ok (.getfield 64, 3) := by decide +kernel
theorem dX8_odds_42 : decode cX8_odds 42 = .ok (.getfield 309, 3) := by decide +kernel
theorem dX8_odds_45 : decode cX8_odds 45 = .ok (.aload_n 0, 1) := by decide +kernel
theorem dX8_odds_46 : decode cX8_odds 46 = .ok (.getfield 64, 3) := by decide +kernel
theorem dX8_odds_49 : decode cX8_odds 49 = .ok (.getfield 312, 3) := by decide +kernel
theorem dX8_odds_52 : decode cX8_odds 52 = .ok (.invokevirtual 315, 3) := by decide +kernel
theorem dX8_odds_55 : decode cX8_odds 55 = .ok (.aload_n 0, 1) := by decide +kernel
theorem dX8_odds_56 : decode cX8_odds 56 = .ok (.getfield 64, 3) := by decide +kernel
theorem dX8_odds_59 : decode cX8_odds 59 = .ok (.getfield 312, 3) := by decide +kernel
theorem dX8_odds_62 : decode cX8_odds 62 = .ok (.ireturn, 1) := by decide +kernel
theorem dX8_refusalOfTocks_0 : decode cX8_refusalOfTocks 0 = .ok (.iload_n 1, 1) := by decide +kernel
theorem dX8_refusalOfTocks_1 : decode cX8_refusalOfTocks 1 = .ok (.invokestatic 94, 3) := by decide +kernel
theorem dX8_refusalOfTocks_4 : decode cX8_refusalOfTocks 4 = .ok (.ifCond .ne 17, 3) := by decide +kernel
theorem dX8_refusalOfTocks_7 : decode cX8_refusalOfTocks 7 = .ok (.iload_n 2, 1) := by decide +kernel
theorem dX8_refusalOfTocks_8 : decode cX8_refusalOfTocks 8 = .ok (.invokestatic 98, 3) := by decide +kernel
theorem dX8_refusalOfTocks_11 : decode cX8_refusalOfTocks 11 = .ok (.ifCond .ne 10, 3) := by decide +kernel
theorem dX8_refusalOfTocks_14 : decode cX8_refusalOfTocks 14 = .ok (.iload_n 3, 1) := by decide +kernel
theorem dX8_refusalOfTocks_15 : decode cX8_refusalOfTocks 15 = .ok (.invokestatic 147, 3) := by decide +kernel
theorem dX8_refusalOfTocks_18 : decode cX8_refusalOfTocks 18 = .ok (.ifCond .eq 5, 3) := by decide +kernel
theorem dX8_refusalOfTocks_21 : decode cX8_refusalOfTocks 21 = .ok (.iconst (-1), 1) := by decide +kernel
theorem dX8_refusalOfTocks_22 : decode cX8_refusalOfTocks 22 = .ok (.ireturn, 1) := by decide +kernel
theorem dX8_refusalOfTocks_23 : decode cX8_refusalOfTocks 23 = .ok (.aload_n 0, 1) := by decide +kernel
theorem dX8_refusalOfTocks_24 : decode cX8_refusalOfTocks 24 = .ok (.getfield 11, 3) := by decide +kernel
theorem dX8_refusalOfTocks_27 : decode cX8_refusalOfTocks 27 = .ok (.iload_n 3, 1) := by decide +kernel
theorem dX8_refusalOfTocks_28 : decode cX8_refusalOfTocks 28 = .ok (.aaload, 1) := by decide +kernel
theorem dX8_refusalOfTocks_29 : decode cX8_refusalOfTocks 29 = .ok (.invokevirtual 157, 3) := by decide +kernel
theorem dX8_refusalOfTocks_32 : decode cX8_refusalOfTocks 32 = .ok (.ifCond .ne 12, 3) := by decide +kernel
theorem dX8_refusalOfTocks_35 : decode cX8_refusalOfTocks 35 = .ok (.aload_n 0, 1) := by decide +kernel
theorem dX8_refusalOfTocks_36 : decode cX8_refusalOfTocks 36 = .ok (.iload_n 1, 1) := by decide +kernel
theorem dX8_refusalOfTocks_37 : decode cX8_refusalOfTocks 37 = .ok (.iload_n 2, 1) := by decide +kernel
theorem dX8_refusalOfTocks_38 : decode cX8_refusalOfTocks 38 = .ok (.invokevirtual 263, 3) := by decide +kernel
theorem dX8_refusalOfTocks_41 : decode cX8_refusalOfTocks 41 = .ok (.ifCond .ne 9, 3) := by decide +kernel
theorem dX8_refusalOfTocks_44 : decode cX8_refusalOfTocks 44 = .ok (.aload_n 0, 1) := by decide +kernel
theorem dX8_refusalOfTocks_45 : decode cX8_refusalOfTocks 45 = .ok (.iconst 1, 1) := by decide +kernel
theorem dX8_refusalOfTocks_46 : decode cX8_refusalOfTocks 46 = .ok (.invokevirtual 150, 3) := by decide +kernel
theorem dX8_refusalOfTocks_49 : decode cX8_refusalOfTocks 49 = .ok (.ireturn, 1) := by decide +kernel
theorem dX8_refusalOfTocks_50 : decode cX8_refusalOfTocks 50 = .ok (.aload_n 0, 1) := by decide +kernel
theorem dX8_refusalOfTocks_51 : decode cX8_refusalOfTocks 51 = .ok (.getfield 11, 3) := by decide +kernel
theorem dX8_refusalOfTocks_54 : decode cX8_refusalOfTocks 54 = .ok (.iload_n 3, 1) := by decide +kernel
theorem dX8_refusalOfTocks_55 : decode cX8_refusalOfTocks 55 = .ok (.aaload, 1) := by decide +kernel
theorem dX8_refusalOfTocks_56 : decode cX8_refusalOfTocks 56 = .ok (.getfield 170, 3) := by decide +kernel
theorem dX8_refusalOfTocks_59 : decode cX8_refusalOfTocks 59 = .ok (.iconst 2, 1) := by decide +kernel
theorem dX8_refusalOfTocks_60 : decode cX8_refusalOfTocks 60 = .ok (.if_icmp .ge 9, 3) := by decide +kernel
theorem dX8_refusalOfTocks_63 : decode cX8_refusalOfTocks 63 = .ok (.aload_n 0, 1) := by decide +kernel
theorem dX8_refusalOfTocks_64 : decode cX8_refusalOfTocks 64 = .ok (.iconst 5, 1) := by decide +kernel
theorem dX8_refusalOfTocks_65 : decode cX8_refusalOfTocks 65 = .ok (.invokevirtual 150, 3) := by decide +kernel
theorem dX8_refusalOfTocks_68 : decode cX8_refusalOfTocks 68 = .ok (.ireturn, 1) := by decide +kernel
theorem dX8_refusalOfTocks_69 : decode cX8_refusalOfTocks 69 = .ok (.iconst 0, 1) := by decide +kernel
theorem dX8_refusalOfTocks_70 : decode cX8_refusalOfTocks 70 = .ok (.istore 4, 2) := by decide +kernel
theorem dX8_refusalOfTocks_72 : decode cX8_refusalOfTocks 72 = .ok (.iload 4, 2) := by decide +kernel
theorem dX8_refusalOfTocks_74 : decode cX8_refusalOfTocks 74 = .ok (.aload_n 0, 1) := by decide +kernel
theorem dX8_refusalOfTocks_75 : decode cX8_refusalOfTocks 75 = .ok (.getfield 11, 3) := by decide +kernel
theorem dX8_refusalOfTocks_78 : decode cX8_refusalOfTocks 78 = .ok (.iload_n 3, 1) := by decide +kernel
theorem dX8_refusalOfTocks_79 : decode cX8_refusalOfTocks 79 = .ok (.aaload, 1) := by decide +kernel
theorem dX8_refusalOfTocks_80 : decode cX8_refusalOfTocks 80 = .ok (.getfield 170, 3) := by decide +kernel
theorem dX8_refusalOfTocks_83 : decode cX8_refusalOfTocks 83 = .ok (.if_icmp .ge 33, 3) := by decide +kernel
theorem dX8_refusalOfTocks_86 : decode cX8_refusalOfTocks 86 = .ok (.aload_n 0, 1) := by decide +kernel
theorem dX8_refusalOfTocks_87 : decode cX8_refusalOfTocks 87 = .ok (.getfield 11, 3) := by decide +kernel
theorem dX8_refusalOfTocks_90 : decode cX8_refusalOfTocks 90 = .ok (.iload_n 3, 1) := by decide +kernel
theorem dX8_refusalOfTocks_91 : decode cX8_refusalOfTocks 91 = .ok (.aaload, 1) := by decide +kernel
theorem dX8_refusalOfTocks_92 : decode cX8_refusalOfTocks 92 = .ok (.getfield 164, 3) := by decide +kernel
theorem dX8_refusalOfTocks_95 : decode cX8_refusalOfTocks 95 = .ok (.iload 4, 2) := by decide +kernel
theorem dX8_refusalOfTocks_97 : decode cX8_refusalOfTocks 97 = .ok (.iaload, 1) := by decide +kernel
theorem dX8_refusalOfTocks_98 : decode cX8_refusalOfTocks 98 = .ok (.invokestatic 101, 3) := by decide +kernel
theorem dX8_refusalOfTocks_101 : decode cX8_refusalOfTocks 101 = .ok (.ifCond .eq 9, 3) := by decide +kernel
theorem dX8_refusalOfTocks_104 : decode cX8_refusalOfTocks 104 = .ok (.aload_n 0, 1) := by decide +kernel
theorem dX8_refusalOfTocks_105 : decode cX8_refusalOfTocks 105 = .ok (.iconst 3, 1) := by decide +kernel
theorem dX8_refusalOfTocks_106 : decode cX8_refusalOfTocks 106 = .ok (.invokevirtual 150, 3) := by decide +kernel
theorem dX8_refusalOfTocks_109 : decode cX8_refusalOfTocks 109 = .ok (.ireturn, 1) := by decide +kernel
theorem dX8_refusalOfTocks_110 : decode cX8_refusalOfTocks 110 = .ok (.iinc 4 1, 3) := by decide +kernel
theorem dX8_refusalOfTocks_113 : decode cX8_refusalOfTocks 113 = .ok (.goto (-41), 3) := by decide +kernel
theorem dX8_refusalOfTocks_116 : decode cX8_refusalOfTocks 116 = .ok (.iconst 0, 1) := by decide +kernel
theorem dX8_refusalOfTocks_117 : decode cX8_refusalOfTocks 117 = .ok (.ireturn, 1) := by decide +kernel
theorem dX8_part_0 : decode cX8_part 0 = .ok (.iload_n 1, 1) := by decide +kernel
theorem dX8_part_1 : decode cX8_part 1 = .ok (.iload_n 2, 1) := by decide +kernel
theorem dX8_part_2 : decode cX8_part 2 = .ok (.iload_n 3, 1) := by decide +kernel
theorem dX8_part_3 : decode cX8_part 3 = .ok (.invokestatic 104, 3) := by decide +kernel
theorem dX8_part_6 : decode cX8_part 6 = .ok (.ifCond .ne 13, 3) := by decide +kernel
theorem dX8_part_9 : decode cX8_part 9 = .ok (.iload 4, 2) := by decide +kernel
theorem dX8_part_11 : decode cX8_part 11 = .ok (.iconst 0, 1) := by decide +kernel
theorem dX8_part_12 : decode cX8_part 12 = .ok (.iconst 3, 1) := by decide +kernel
theorem dX8_part_13 : decode cX8_part 13 = .ok (.invokestatic 90, 3) := by decide +kernel
theorem dX8_part_16 : decode cX8_part 16 = .ok (.ifCond .eq 5, 3) := by decide +kernel
theorem dX8_part_19 : decode cX8_part 19 = .ok (.iconst (-1), 1) := by decide +kernel
theorem dX8_part_20 : decode cX8_part 20 = .ok (.ireturn, 1) := by decide +kernel
theorem dX8_part_21 : decode cX8_part 21 = .ok (.aload_n 0, 1) := by decide +kernel
theorem dX8_part_22 : decode cX8_part 22 = .ok (.iload_n 1, 1) := by decide +kernel
theorem dX8_part_23 : decode cX8_part 23 = .ok (.iload_n 2, 1) := by decide +kernel
theorem dX8_part_24 : decode cX8_part 24 = .ok (.invokevirtual 263, 3) := by decide +kernel
theorem dX8_part_27 : decode cX8_part 27 = .ok (.ifCond .ne 9, 3) := by decide +kernel
theorem dX8_part_30 : decode cX8_part 30 = .ok (.aload_n 0, 1) := by decide +kernel
theorem dX8_part_31 : decode cX8_part 31 = .ok (.iconst 1, 1) := by decide +kernel
theorem dX8_part_32 : decode cX8_part 32 = .ok (.invokevirtual 150, 3) := by decide +kernel
theorem dX8_part_35 : decode cX8_part 35 = .ok (.ireturn, 1) := by decide +kernel
theorem dX8_part_36 : decode cX8_part 36 = .ok (.aload_n 0, 1) := by decide +kernel
theorem dX8_part_37 : decode cX8_part 37 = .ok (.getfield 54, 3) := by decide +kernel
theorem dX8_part_40 : decode cX8_part 40 = .ok (.iload_n 3, 1) := by decide +kernel
theorem dX8_part_41 : decode cX8_part 41 = .ok (.invokevirtual 291, 3) := by decide +kernel
theorem dX8_part_44 : decode cX8_part 44 = .ok (.istore 5, 2) := by decide +kernel
theorem dX8_part_46 : decode cX8_part 46 = .ok (.aload_n 0, 1) := by decide +kernel
theorem dX8_part_47 : decode cX8_part 47 = .ok (.getfield 54, 3) := by decide +kernel
theorem dX8_part_50 : decode cX8_part 50 = .ok (.getfield 115, 3) := by decide +kernel
theorem dX8_part_53 : decode cX8_part 53 = .ok (.getfield 116, 3) := by decide +kernel
theorem dX8_part_56 : decode cX8_part 56 = .ok (.getfield 226, 3) := by decide +kernel
theorem dX8_part_59 : decode cX8_part 59 = .ok (.iload 4, 2) := by decide +kernel
theorem dX8_part_61 : decode cX8_part 61 = .ok (.iconst 1, 1) := by decide +kernel
theorem dX8_part_62 : decode cX8_part 62 = .ok (.iastore, 1) := by decide +kernel
theorem dX8_part_63 : decode cX8_part 63 = .ok (.aload_n 0, 1) := by decide +kernel
theorem dX8_part_64 : decode cX8_part 64 = .ok (.getfield 54, 3) := by decide +kernel
theorem dX8_part_67 : decode cX8_part 67 = .ok (.iload_n 3, 1) := by decide +kernel
theorem dX8_part_68 : decode cX8_part 68 = .ok (.invokevirtual 291, 3) := by decide +kernel
theorem dX8_part_71 : decode cX8_part 71 = .ok (.istore 6, 2) := by decide +kernel
theorem dX8_part_73 : decode cX8_part 73 = .ok (.aload_n 0, 1) := by decide +kernel
theorem dX8_part_74 : decode cX8_part 74 = .ok (.iload 6, 2) := by decide +kernel
theorem dX8_part_76 : decode cX8_part 76 = .ok (.invokevirtual 167, 3) := by decide +kernel
theorem dX8_part_79 : decode cX8_part 79 = .ok (.pop, 1) := by decide +kernel
theorem dX8_part_80 : decode cX8_part 80 = .ok (.bipush 100, 2) := by decide +kernel
theorem dX8_part_82 : decode cX8_part 82 = .ok (.iload 5, 2) := by decide +kernel
theorem dX8_part_84 : decode cX8_part 84 = .ok (.iadd, 1) := by decide +kernel
theorem dX8_part_85 : decode cX8_part 85 = .ok (.iload 6, 2) := by decide +kernel
theorem dX8_part_87 : decode cX8_part 87 = .ok (.isub, 1) := by decide +kernel
theorem dX8_part_88 : decode cX8_part 88 = .ok (.ireturn, 1) := by decide +kernel
theorem dX8_made_0 : decode cX8_made 0 = .ok (.iload_n 1, 1) := by decide +kernel
theorem dX8_made_1 : decode cX8_made 1 = .ok (.iload_n 2, 1) := by decide +kernel
theorem dX8_made_2 : decode cX8_made 2 = .ok (.iload_n 3, 1) := by decide +kernel
theorem dX8_made_3 : decode cX8_made 3 = .ok (.iload 4, 2) := by decide +kernel
theorem dX8_made_5 : decode cX8_made 5 = .ok (.invokestatic 229, 3) := by decide +kernel
theorem dX8_made_8 : decode cX8_made 8 = .ok (.ifCond .eq 5, 3) := by decide +kernel
theorem dX8_made_11 : decode cX8_made 11 = .ok (.iconst (-1), 1) := by decide +kernel
theorem dX8_made_12 : decode cX8_made 12 = .ok (.ireturn, 1) := by decide +kernel
theorem dX8_made_13 : decode cX8_made 13 = .ok (.aload_n 0, 1) := by decide +kernel
theorem dX8_made_14 : decode cX8_made 14 = .ok (.iload_n 1, 1) := by decide +kernel
theorem dX8_made_15 : decode cX8_made 15 = .ok (.iload_n 2, 1) := by decide +kernel
theorem dX8_made_16 : decode cX8_made 16 = .ok (.invokevirtual 263, 3) := by decide +kernel
theorem dX8_made_19 : decode cX8_made 19 = .ok (.ifCond .ne 9, 3) := by decide +kernel
theorem dX8_made_22 : decode cX8_made 22 = .ok (.aload_n 0, 1) := by decide +kernel
theorem dX8_made_23 : decode cX8_made 23 = .ok (.iconst 1, 1) := by decide +kernel
theorem dX8_made_24 : decode cX8_made 24 = .ok (.invokevirtual 150, 3) := by decide +kernel
theorem dX8_made_27 : decode cX8_made 27 = .ok (.ireturn, 1) := by decide +kernel
theorem dX8_made_28 : decode cX8_made 28 = .ok (.aload_n 0, 1) := by decide +kernel
theorem dX8_made_29 : decode cX8_made 29 = .ok (.getfield 23, 3) := by decide +kernel
theorem dX8_made_32 : decode cX8_made 32 = .ok (.iload_n 1, 1) := by decide +kernel
theorem dX8_made_33 : decode cX8_made 33 = .ok (.aaload, 1) := by decide +kernel
theorem dX8_made_34 : decode cX8_made 34 = .ok (.getfield 226, 3) := by decide +kernel
theorem dX8_made_37 : decode cX8_made 37 = .ok (.astore 5, 2) := by decide +kernel
theorem dX8_made_39 : decode cX8_made 39 = .ok (.iconst 0, 1) := by decide +kernel
theorem dX8_made_40 : decode cX8_made 40 = .ok (.istore 6, 2) := by decide +kernel
theorem dX8_made_42 : decode cX8_made 42 = .ok (.iconst 0, 1) := by decide +kernel
theorem dX8_made_43 : decode cX8_made 43 = .ok (.istore 7, 2) := by decide +kernel
theorem dX8_made_45 : decode cX8_made 45 = .ok (.iconst 0, 1) := by decide +kernel
theorem dX8_made_46 : decode cX8_made 46 = .ok (.istore 8, 2) := by decide +kernel
theorem dX8_made_48 : decode cX8_made 48 = .ok (.iload 8, 2) := by decide +kernel
theorem dX8_made_50 : decode cX8_made 50 = .ok (.bipush 27, 2) := by decide +kernel
theorem dX8_made_52 : decode cX8_made 52 = .ok (.if_icmp .ge 125, 3) := by decide +kernel
theorem dX8_made_55 : decode cX8_made 55 = .ok (.aload 5, 2) := by decide +kernel
theorem dX8_made_57 : decode cX8_made 57 = .ok (.iconst 0, 1) := by decide +kernel
theorem dX8_made_58 : decode cX8_made 58 = .ok (.iaload, 1) := by decide +kernel
theorem dX8_made_59 : decode cX8_made 59 = .ok (.iload 8, 2) := by decide +kernel
theorem dX8_made_61 : decode cX8_made 61 = .ok (.bipush 9, 2) := by decide +kernel
theorem dX8_made_63 : decode cX8_made 63 = .ok (.idiv, 1) := by decide +kernel
theorem dX8_made_64 : decode cX8_made 64 = .ok (.iadd, 1) := by decide +kernel
theorem dX8_made_65 : decode cX8_made 65 = .ok (.iconst 1, 1) := by decide +kernel
theorem dX8_made_66 : decode cX8_made 66 = .ok (.isub, 1) := by decide +kernel
theorem dX8_made_67 : decode cX8_made 67 = .ok (.istore 9, 2) := by decide +kernel
theorem dX8_made_69 : decode cX8_made 69 = .ok (.aload 5, 2) := by decide +kernel
theorem dX8_made_71 : decode cX8_made 71 = .ok (.iconst 1, 1) := by decide +kernel
theorem dX8_made_72 : decode cX8_made 72 = .ok (.iaload, 1) := by decide +kernel
theorem dX8_made_73 : decode cX8_made 73 = .ok (.iload 8, 2) := by decide +kernel
theorem dX8_made_75 : decode cX8_made 75 = .ok (.iconst 3, 1) := by decide +kernel
theorem dX8_made_76 : decode cX8_made 76 = .ok (.idiv, 1) := by decide +kernel
theorem dX8_made_77 : decode cX8_made 77 = .ok (.iconst 3, 1) := by decide +kernel
theorem dX8_made_78 : decode cX8_made 78 = .ok (.irem, 1) := by decide +kernel
theorem dX8_made_79 : decode cX8_made 79 = .ok (.iadd, 1) := by decide +kernel
theorem dX8_made_80 : decode cX8_made 80 = .ok (.iconst 1, 1) := by decide +kernel
theorem dX8_made_81 : decode cX8_made 81 = .ok (.isub, 1) := by decide +kernel
theorem dX8_made_82 : decode cX8_made 82 = .ok (.istore 10, 2) := by decide +kernel
theorem dX8_made_84 : decode cX8_made 84 = .ok (.aload 5, 2) := by decide +kernel
theorem dX8_made_86 : decode cX8_made 86 = .ok (.iconst 2, 1) := by decide +kernel
theorem dX8_made_87 : decode cX8_made 87 = .ok (.iaload, 1) := by decide +kernel
theorem dX8_made_88 : decode cX8_made 88 = .ok (.iload 8, 2) := by decide +kernel
theorem dX8_made_90 : decode cX8_made 90 = .ok (.iconst 3, 1) := by decide +kernel
theorem dX8_made_91 : decode cX8_made 91 = .ok (.irem, 1) := by decide +kernel
theorem dX8_made_92 : decode cX8_made 92 = .ok (.iadd, 1) := by decide +kernel
theorem dX8_made_93 : decode cX8_made 93 = .ok (.iconst 1, 1) := by decide +kernel
theorem dX8_made_94 : decode cX8_made 94 = .ok (.isub, 1) := by decide +kernel
theorem dX8_made_95 : decode cX8_made 95 = .ok (.istore 11, 2) := by decide +kernel
theorem dX8_made_97 : decode cX8_made 97 = .ok (.iload 9, 2) := by decide +kernel
theorem dX8_made_99 : decode cX8_made 99 = .ok (.iconst 1, 1) := by decide +kernel
theorem dX8_made_100 : decode cX8_made 100 = .ok (.bipush 9, 2) := by decide +kernel
theorem dX8_made_102 : decode cX8_made 102 = .ok (.invokestatic 90, 3) := by decide +kernel
theorem dX8_made_105 : decode cX8_made 105 = .ok (.ifCond .ne 66, 3) := by decide +kernel
theorem dX8_made_108 : decode cX8_made 108 = .ok (.iload 10, 2) := by decide +kernel
theorem dX8_made_110 : decode cX8_made 110 = .ok (.iconst 1, 1) := by decide +kernel
theorem dX8_made_111 : decode cX8_made 111 = .ok (.bipush 9, 2) := by decide +kernel
theorem dX8_made_113 : decode cX8_made 113 = .ok (.invokestatic 90, 3) := by decide +kernel
theorem dX8_made_116 : decode cX8_made 116 = .ok (.ifCond .ne 55, 3) := by decide +kernel
theorem dX8_made_119 : decode cX8_made 119 = .ok (.iload 11, 2) := by decide +kernel
theorem dX8_made_121 : decode cX8_made 121 = .ok (.iconst 1, 1) := by decide +kernel
theorem dX8_made_122 : decode cX8_made 122 = .ok (.bipush 9, 2) := by decide +kernel
theorem dX8_made_124 : decode cX8_made 124 = .ok (.invokestatic 90, 3) := by decide +kernel
theorem dX8_made_127 : decode cX8_made 127 = .ok (.ifCond .eq 6, 3) := by decide +kernel
theorem dX8_made_130 : decode cX8_made 130 = .ok (.goto 41, 3) := by decide +kernel
theorem dX8_made_133 : decode cX8_made 133 = .ok (.aload_n 0, 1) := by decide +kernel
theorem dX8_made_134 : decode cX8_made 134 = .ok (.getfield 54, 3) := by decide +kernel
theorem dX8_made_137 : decode cX8_made 137 = .ok (.getfield 115, 3) := by decide +kernel
theorem dX8_made_140 : decode cX8_made 140 = .ok (.getfield 116, 3) := by decide +kernel
theorem dX8_made_143 : decode cX8_made 143 = .ok (.iload 9, 2) := by decide +kernel
theorem dX8_made_145 : decode cX8_made 145 = .ok (.iload 10, 2) := by decide +kernel
theorem dX8_made_147 : decode cX8_made 147 = .ok (.iload 11, 2) := by decide +kernel
theorem dX8_made_149 : decode cX8_made 149 = .ok (.invokevirtual 318, 3) := by decide +kernel
theorem dX8_made_152 : decode cX8_made 152 = .ok (.iinc 6 1, 3) := by decide +kernel
theorem dX8_made_155 : decode cX8_made 155 = .ok (.aload_n 0, 1) := by decide +kernel
theorem dX8_made_156 : decode cX8_made 156 = .ok (.getfield 54, 3) := by decide +kernel
theorem dX8_made_159 : decode cX8_made 159 = .ok (.iload_n 3, 1) := by decide +kernel
theorem dX8_made_160 : decode cX8_made 160 = .ok (.iload 4, 2) := by decide +kernel
theorem dX8_made_162 : decode cX8_made 162 = .ok (.invokevirtual 285, 3) := by decide +kernel
theorem dX8_made_165 : decode cX8_made 165 = .ok (.ifCond .eq 6, 3) := by decide +kernel
theorem dX8_made_168 : decode cX8_made 168 = .ok (.iinc 7 1, 3) := by decide +kernel
theorem dX8_made_171 : decode cX8_made 171 = .ok (.iinc 8 1, 3) := by decide +kernel
theorem dX8_made_174 : decode cX8_made 174 = .ok (.goto (-126), 3) := by decide +kernel
theorem dX8_made_177 : decode cX8_made 177 = .ok (.aload_n 0, 1) := by decide +kernel
theorem dX8_made_178 : decode cX8_made 178 = .ok (.iload 7, 2) := by decide +kernel
theorem dX8_made_180 : decode cX8_made 180 = .ok (.iload 6, 2) := by decide +kernel
theorem dX8_made_182 : decode cX8_made 182 = .ok (.invokevirtual 315, 3) := by decide +kernel
theorem dX8_made_185 : decode cX8_made 185 = .ok (.iload 6, 2) := by decide +kernel
theorem dX8_made_187 : decode cX8_made 187 = .ok (.ireturn, 1) := by decide +kernel
theorem dX8_would_0 : decode cX8_would 0 = .ok (.iload_n 1, 1) := by decide +kernel
theorem dX8_would_1 : decode cX8_would 1 = .ok (.iload_n 2, 1) := by decide +kernel
theorem dX8_would_2 : decode cX8_would 2 = .ok (.iload_n 3, 1) := by decide +kernel
theorem dX8_would_3 : decode cX8_would 3 = .ok (.iload 4, 2) := by decide +kernel
theorem dX8_would_5 : decode cX8_would 5 = .ok (.invokestatic 229, 3) := by decide +kernel
theorem dX8_would_8 : decode cX8_would 8 = .ok (.ifCond .eq 5, 3) := by decide +kernel
theorem dX8_would_11 : decode cX8_would 11 = .ok (.iconst (-1), 1) := by decide +kernel
theorem dX8_would_12 : decode cX8_would 12 = .ok (.ireturn, 1) := by decide +kernel
theorem dX8_would_13 : decode cX8_would 13 = .ok (.aload_n 0, 1) := by decide +kernel
theorem dX8_would_14 : decode cX8_would 14 = .ok (.iload_n 1, 1) := by decide +kernel
theorem dX8_would_15 : decode cX8_would 15 = .ok (.iload_n 2, 1) := by decide +kernel
theorem dX8_would_16 : decode cX8_would 16 = .ok (.invokevirtual 263, 3) := by decide +kernel
theorem dX8_would_19 : decode cX8_would 19 = .ok (.ifCond .ne 9, 3) := by decide +kernel
theorem dX8_would_22 : decode cX8_would 22 = .ok (.aload_n 0, 1) := by decide +kernel
theorem dX8_would_23 : decode cX8_would 23 = .ok (.iconst 1, 1) := by decide +kernel
theorem dX8_would_24 : decode cX8_would 24 = .ok (.invokevirtual 150, 3) := by decide +kernel
theorem dX8_would_27 : decode cX8_would 27 = .ok (.ireturn, 1) := by decide +kernel
theorem dX8_would_28 : decode cX8_would 28 = .ok (.aload_n 0, 1) := by decide +kernel
theorem dX8_would_29 : decode cX8_would 29 = .ok (.getfield 23, 3) := by decide +kernel
theorem dX8_would_32 : decode cX8_would 32 = .ok (.iload_n 1, 1) := by decide +kernel
theorem dX8_would_33 : decode cX8_would 33 = .ok (.aaload, 1) := by decide +kernel
theorem dX8_would_34 : decode cX8_would 34 = .ok (.astore 5, 2) := by decide +kernel
theorem dX8_would_36 : decode cX8_would 36 = .ok (.aload 5, 2) := by decide +kernel
theorem dX8_would_38 : decode cX8_would 38 = .ok (.getfield 205, 3) := by decide +kernel
theorem dX8_would_41 : decode cX8_would 41 = .ok (.invokestatic 208, 3) := by decide +kernel
theorem dX8_would_44 : decode cX8_would 44 = .ok (.iconst 3, 1) := by decide +kernel
theorem dX8_would_45 : decode cX8_would 45 = .ok (.if_icmp .le 6, 3) := by decide +kernel
theorem dX8_would_48 : decode cX8_would 48 = .ok (.bipush (-6), 2) := by decide +kernel
theorem dX8_would_50 : decode cX8_would 50 = .ok (.ireturn, 1) := by decide +kernel
theorem dX8_would_51 : decode cX8_would 51 = .ok (.iconst 0, 1) := by decide +kernel
theorem dX8_would_52 : decode cX8_would 52 = .ok (.istore 6, 2) := by decide +kernel
theorem dX8_would_54 : decode cX8_would 54 = .ok (.bipush (-9), 2) := by decide +kernel
theorem dX8_would_56 : decode cX8_would 56 = .ok (.istore 7, 2) := by decide +kernel
theorem dX8_would_58 : decode cX8_would 58 = .ok (.aload 5, 2) := by decide +kernel
theorem dX8_would_60 : decode cX8_would 60 = .ok (.invokevirtual 321, 3) := by decide +kernel
theorem dX8_would_63 : decode cX8_would 63 = .ok (.iconst 1, 1) := by decide +kernel
theorem dX8_would_64 : decode cX8_would 64 = .ok (.isub, 1) := by decide +kernel
theorem dX8_would_65 : decode cX8_would 65 = .ok (.istore 8, 2) := by decide +kernel
theorem dX8_would_67 : decode cX8_would 67 = .ok (.iload 8, 2) := by decide +kernel
theorem dX8_would_69 : decode cX8_would 69 = .ok (.ifCond .lt 55, 3) := by decide +kernel
theorem dX8_would_72 : decode cX8_would 72 = .ok (.aload_n 0, 1) := by decide +kernel
theorem dX8_would_73 : decode cX8_would 73 = .ok (.getfield 54, 3) := by decide +kernel
theorem dX8_would_76 : decode cX8_would 76 = .ok (.getfield 115, 3) := by decide +kernel
theorem dX8_would_79 : decode cX8_would 79 = .ok (.getfield 116, 3) := by decide +kernel
theorem dX8_would_82 : decode cX8_would 82 = .ok (.iload 8, 2) := by decide +kernel
theorem dX8_would_84 : decode cX8_would 84 = .ok (.invokevirtual 325, 3) := by decide +kernel
theorem dX8_would_87 : decode cX8_would 87 = .ok (.aload_n 0, 1) := by decide +kernel
theorem dX8_would_88 : decode cX8_would 88 = .ok (.getfield 54, 3) := by decide +kernel
theorem dX8_would_91 : decode cX8_would 91 = .ok (.iload_n 3, 1) := by decide +kernel
theorem dX8_would_92 : decode cX8_would 92 = .ok (.iload 4, 2) := by decide +kernel
theorem dX8_would_94 : decode cX8_would 94 = .ok (.invokevirtual 285, 3) := by decide +kernel
theorem dX8_would_97 : decode cX8_would 97 = .ok (.ifCond .eq 21, 3) := by decide +kernel
theorem dX8_would_100 : decode cX8_would 100 = .ok (.iinc 6 1, 3) := by decide +kernel
theorem dX8_would_103 : decode cX8_would 103 = .ok (.aload_n 0, 1) := by decide +kernel
theorem dX8_would_104 : decode cX8_would 104 = .ok (.getfield 54, 3) := by decide +kernel
theorem dX8_would_107 : decode cX8_would 107 = .ok (.getfield 115, 3) := by decide +kernel
theorem dX8_would_110 : decode cX8_would 110 = .ok (.getfield 116, 3) := by decide +kernel
theorem dX8_would_113 : decode cX8_would 113 = .ok (.invokevirtual 328, 3) := by decide +kernel
theorem dX8_would_116 : decode cX8_would 116 = .ok (.istore 7, 2) := by decide +kernel
theorem dX8_would_118 : decode cX8_would 118 = .ok (.iinc 8 (-1), 3) := by decide +kernel
theorem dX8_would_121 : decode cX8_would 121 = .ok (.goto (-54), 3) := by decide +kernel
theorem dX8_would_124 : decode cX8_would 124 = .ok (.aload_n 0, 1) := by decide +kernel
theorem dX8_would_125 : decode cX8_would 125 = .ok (.iload 7, 2) := by decide +kernel
theorem dX8_would_127 : decode cX8_would 127 = .ok (.invokevirtual 167, 3) := by decide +kernel
theorem dX8_would_130 : decode cX8_would 130 = .ok (.pop, 1) := by decide +kernel
theorem dX8_would_131 : decode cX8_would 131 = .ok (.iload 6, 2) := by decide +kernel
theorem dX8_would_133 : decode cX8_would 133 = .ok (.ireturn, 1) := by decide +kernel
theorem dX8_yard_0 : decode cX8_yard 0 = .ok (.iload_n 1, 1) := by decide +kernel
theorem dX8_yard_1 : decode cX8_yard 1 = .ok (.iload_n 2, 1) := by decide +kernel
theorem dX8_yard_2 : decode cX8_yard 2 = .ok (.iload_n 3, 1) := by decide +kernel
theorem dX8_yard_3 : decode cX8_yard 3 = .ok (.iload 4, 2) := by decide +kernel
theorem dX8_yard_5 : decode cX8_yard 5 = .ok (.invokestatic 229, 3) := by decide +kernel
theorem dX8_yard_8 : decode cX8_yard 8 = .ok (.ifCond .ne 15, 3) := by decide +kernel
theorem dX8_yard_11 : decode cX8_yard 11 = .ok (.iload 5, 2) := by decide +kernel
theorem dX8_yard_13 : decode cX8_yard 13 = .ok (.iconst 1, 1) := by decide +kernel
theorem dX8_yard_14 : decode cX8_yard 14 = .ok (.sipush 2000, 3) := by decide +kernel
theorem dX8_yard_17 : decode cX8_yard 17 = .ok (.invokestatic 90, 3) := by decide +kernel
theorem dX8_yard_20 : decode cX8_yard 20 = .ok (.ifCond .eq 5, 3) := by decide +kernel
theorem dX8_yard_23 : decode cX8_yard 23 = .ok (.iconst (-1), 1) := by decide +kernel
theorem dX8_yard_24 : decode cX8_yard 24 = .ok (.ireturn, 1) := by decide +kernel
theorem dX8_yard_25 : decode cX8_yard 25 = .ok (.aload_n 0, 1) := by decide +kernel
theorem dX8_yard_26 : decode cX8_yard 26 = .ok (.iload_n 1, 1) := by decide +kernel
theorem dX8_yard_27 : decode cX8_yard 27 = .ok (.iload_n 2, 1) := by decide +kernel
theorem dX8_yard_28 : decode cX8_yard 28 = .ok (.invokevirtual 263, 3) := by decide +kernel
theorem dX8_yard_31 : decode cX8_yard 31 = .ok (.ifCond .ne 9, 3) := by decide +kernel
theorem dX8_yard_34 : decode cX8_yard 34 = .ok (.aload_n 0, 1) := by decide +kernel
theorem dX8_yard_35 : decode cX8_yard 35 = .ok (.iconst 1, 1) := by decide +kernel
theorem dX8_yard_36 : decode cX8_yard 36 = .ok (.invokevirtual 150, 3) := by decide +kernel
theorem dX8_yard_39 : decode cX8_yard 39 = .ok (.ireturn, 1) := by decide +kernel
theorem dX8_yard_40 : decode cX8_yard 40 = .ok (.aload_n 0, 1) := by decide +kernel
theorem dX8_yard_41 : decode cX8_yard 41 = .ok (.getfield 54, 3) := by decide +kernel
theorem dX8_yard_44 : decode cX8_yard 44 = .ok (.getfield 115, 3) := by decide +kernel
theorem dX8_yard_47 : decode cX8_yard 47 = .ok (.astore 6, 2) := by decide +kernel
theorem dX8_yard_49 : decode cX8_yard 49 = .ok (.aload 6, 2) := by decide +kernel
theorem dX8_yard_51 : decode cX8_yard 51 = .ok (.iload_n 3, 1) := by decide +kernel
theorem dX8_yard_52 : decode cX8_yard 52 = .ok (.iload 4, 2) := by decide +kernel
theorem dX8_yard_54 : decode cX8_yard 54 = .ok (.iconst 0, 1) := by decide +kernel
theorem dX8_yard_55 : decode cX8_yard 55 = .ok (.invokevirtual 233, 3) := by decide +kernel
theorem dX8_yard_58 : decode cX8_yard 58 = .ok (.iconst 1, 1) := by decide +kernel
theorem dX8_yard_59 : decode cX8_yard 59 = .ok (.istore 7, 2) := by decide +kernel
theorem dX8_yard_61 : decode cX8_yard 61 = .ok (.iload 7, 2) := by decide +kernel
theorem dX8_yard_63 : decode cX8_yard 63 = .ok (.sipush 400, 3) := by decide +kernel
theorem dX8_yard_66 : decode cX8_yard 66 = .ok (.if_icmp .gt 40, 3) := by decide +kernel
theorem dX8_yard_69 : decode cX8_yard 69 = .ok (.aload 6, 2) := by decide +kernel
theorem dX8_yard_71 : decode cX8_yard 71 = .ok (.invokevirtual 248, 3) := by decide +kernel
theorem dX8_yard_74 : decode cX8_yard 74 = .ok (.ifCond .eq 32, 3) := by decide +kernel
theorem dX8_yard_77 : decode cX8_yard 77 = .ok (.aload 6, 2) := by decide +kernel
theorem dX8_yard_79 : decode cX8_yard 79 = .ok (.getfield 331, 3) := by decide +kernel
theorem dX8_yard_82 : decode cX8_yard 82 = .ok (.iload 5, 2) := by decide +kernel
theorem dX8_yard_84 : decode cX8_yard 84 = .ok (.if_icmp .lt 16, 3) := by decide +kernel
theorem dX8_yard_87 : decode cX8_yard 87 = .ok (.aload_n 0, 1) := by decide +kernel
theorem dX8_yard_88 : decode cX8_yard 88 = .ok (.aload 6, 2) := by decide +kernel
theorem dX8_yard_90 : decode cX8_yard 90 = .ok (.getfield 334, 3) := by decide +kernel
theorem dX8_yard_93 : decode cX8_yard 93 = .ok (.invokevirtual 167, 3) := by decide +kernel
theorem dX8_yard_96 : decode cX8_yard 96 = .ok (.pop, 1) := by decide +kernel
theorem dX8_yard_97 : decode cX8_yard 97 = .ok (.iload 7, 2) := by decide +kernel
theorem dX8_yard_99 : decode cX8_yard 99 = .ok (.ireturn, 1) := by decide +kernel
theorem dX8_yard_100 : decode cX8_yard 100 = .ok (.iinc 7 1, 3) := by decide +kernel
theorem dX8_yard_103 : decode cX8_yard 103 = .ok (.goto (-42), 3) := by decide +kernel
theorem dX8_yard_106 : decode cX8_yard 106 = .ok (.bipush (-9), 2) := by decide +kernel
theorem dX8_yard_108 : decode cX8_yard 108 = .ok (.ireturn, 1) := by decide +kernel
theorem dX8_push_0 : decode cX8_push 0 = .ok (.iload_n 1, 1) := by decide +kernel
theorem dX8_push_1 : decode cX8_push 1 = .ok (.iload_n 2, 1) := by decide +kernel
theorem dX8_push_2 : decode cX8_push 2 = .ok (.iload_n 3, 1) := by decide +kernel
theorem dX8_push_3 : decode cX8_push 3 = .ok (.invokestatic 104, 3) := by decide +kernel
theorem dX8_push_6 : decode cX8_push 6 = .ok (.ifCond .eq 5, 3) := by decide +kernel
theorem dX8_push_9 : decode cX8_push 9 = .ok (.iconst (-1), 1) := by decide +kernel
theorem dX8_push_10 : decode cX8_push 10 = .ok (.ireturn, 1) := by decide +kernel
theorem dX8_push_11 : decode cX8_push 11 = .ok (.aload_n 0, 1) := by decide +kernel
theorem dX8_push_12 : decode cX8_push 12 = .ok (.iload_n 1, 1) := by decide +kernel
theorem dX8_push_13 : decode cX8_push 13 = .ok (.iload_n 2, 1) := by decide +kernel
theorem dX8_push_14 : decode cX8_push 14 = .ok (.invokevirtual 263, 3) := by decide +kernel
theorem dX8_push_17 : decode cX8_push 17 = .ok (.ifCond .ne 9, 3) := by decide +kernel
theorem dX8_push_20 : decode cX8_push 20 = .ok (.aload_n 0, 1) := by decide +kernel
theorem dX8_push_21 : decode cX8_push 21 = .ok (.iconst 1, 1) := by decide +kernel
theorem dX8_push_22 : decode cX8_push 22 = .ok (.invokevirtual 150, 3) := by decide +kernel
theorem dX8_push_25 : decode cX8_push 25 = .ok (.ireturn, 1) := by decide +kernel
theorem dX8_push_26 : decode cX8_push 26 = .ok (.aload_n 0, 1) := by decide +kernel
theorem dX8_push_27 : decode cX8_push 27 = .ok (.aload_n 0, 1) := by decide +kernel
theorem dX8_push_28 : decode cX8_push 28 = .ok (.getfield 23, 3) := by decide +kernel
theorem dX8_push_31 : decode cX8_push 31 = .ok (.iload_n 1, 1) := by decide +kernel
theorem dX8_push_32 : decode cX8_push 32 = .ok (.aaload, 1) := by decide +kernel
theorem dX8_push_33 : decode cX8_push 33 = .ok (.iload_n 3, 1) := by decide +kernel
theorem dX8_push_34 : decode cX8_push 34 = .ok (.iconst 1, 1) := by decide +kernel
theorem dX8_push_35 : decode cX8_push 35 = .ok (.invokevirtual 337, 3) := by decide +kernel
theorem dX8_push_38 : decode cX8_push 38 = .ok (.istore 4, 2) := by decide +kernel
theorem dX8_push_40 : decode cX8_push 40 = .ok (.iload 4, 2) := by decide +kernel
theorem dX8_push_42 : decode cX8_push 42 = .ok (.bipush (-9), 2) := by decide +kernel
theorem dX8_push_44 : decode cX8_push 44 = .ok (.if_icmp .eq 20, 3) := by decide +kernel
theorem dX8_push_47 : decode cX8_push 47 = .ok (.aload_n 0, 1) := by decide +kernel
theorem dX8_push_48 : decode cX8_push 48 = .ok (.aload_n 0, 1) := by decide +kernel
theorem dX8_push_49 : decode cX8_push 49 = .ok (.aload_n 0, 1) := by decide +kernel
theorem dX8_push_50 : decode cX8_push 50 = .ok (.getfield 23, 3) := by decide +kernel
theorem dX8_push_53 : decode cX8_push 53 = .ok (.iload_n 1, 1) := by decide +kernel
theorem dX8_push_54 : decode cX8_push 54 = .ok (.aaload, 1) := by decide +kernel
theorem dX8_push_55 : decode cX8_push 55 = .ok (.iload_n 3, 1) := by decide +kernel
theorem dX8_push_56 : decode cX8_push 56 = .ok (.iconst 0, 1) := by decide +kernel
theorem dX8_push_57 : decode cX8_push 57 = .ok (.invokevirtual 337, 3) := by decide +kernel
theorem dX8_push_60 : decode cX8_push 60 = .ok (.invokevirtual 167, 3) := by decide +kernel
theorem dX8_push_63 : decode cX8_push 63 = .ok (.pop, 1) := by decide +kernel
theorem dX8_push_64 : decode cX8_push 64 = .ok (.iload 4, 2) := by decide +kernel
theorem dX8_push_66 : decode cX8_push 66 = .ok (.ireturn, 1) := by decide +kernel
theorem dX8_leastPush_0 : decode cX8_leastPush 0 = .ok (.aload_n 0, 1) := by decide +kernel
theorem dX8_leastPush_1 : decode cX8_leastPush 1 = .ok (.getfield 54, 3) := by decide +kernel
theorem dX8_leastPush_4 : decode cX8_leastPush 4 = .ok (.getfield 115, 3) := by decide +kernel
theorem dX8_leastPush_7 : decode cX8_leastPush 7 = .ok (.getfield 116, 3) := by decide +kernel
theorem dX8_leastPush_10 : decode cX8_leastPush 10 = .ok (.getfield 226, 3) := by decide +kernel
theorem dX8_leastPush_13 : decode cX8_leastPush 13 = .ok (.astore 4, 2) := by decide +kernel
theorem dX8_leastPush_15 : decode cX8_leastPush 15 = .ok (.iconst 1, 1) := by decide +kernel
theorem dX8_leastPush_16 : decode cX8_leastPush 16 = .ok (.istore 5, 2) := by decide +kernel
theorem dX8_leastPush_18 : decode cX8_leastPush 18 = .ok (.iload 5, 2) := by decide +kernel
theorem dX8_leastPush_20 : decode cX8_leastPush 20 = .ok (.bipush 99, 2) := by decide +kernel
theorem dX8_leastPush_22 : decode cX8_leastPush 22 = .ok (.if_icmp .gt 107, 3) := by decide +kernel
theorem dX8_leastPush_25 : decode cX8_leastPush 25 = .ok (.aload 4, 2) := by decide +kernel
theorem dX8_leastPush_27 : decode cX8_leastPush 27 = .ok (.iconst 4, 1) := by decide +kernel
theorem dX8_leastPush_28 : decode cX8_leastPush 28 = .ok (.aload_n 1, 1) := by decide +kernel
theorem dX8_leastPush_29 : decode cX8_leastPush 29 = .ok (.getfield 226, 3) := by decide +kernel
theorem dX8_leastPush_32 : decode cX8_leastPush 32 = .ok (.iconst 4, 1) := by decide +kernel
theorem dX8_leastPush_33 : decode cX8_leastPush 33 = .ok (.iaload, 1) := by decide +kernel
theorem dX8_leastPush_34 : decode cX8_leastPush 34 = .ok (.iload 5, 2) := by decide +kernel
theorem dX8_leastPush_36 : decode cX8_leastPush 36 = .ok (.iadd, 1) := by decide +kernel
theorem dX8_leastPush_37 : decode cX8_leastPush 37 = .ok (.iastore, 1) := by decide +kernel
theorem dX8_leastPush_38 : decode cX8_leastPush 38 = .ok (.aload 4, 2) := by decide +kernel
theorem dX8_leastPush_40 : decode cX8_leastPush 40 = .ok (.iconst 5, 1) := by decide +kernel
theorem dX8_leastPush_41 : decode cX8_leastPush 41 = .ok (.aload_n 1, 1) := by decide +kernel
theorem dX8_leastPush_42 : decode cX8_leastPush 42 = .ok (.getfield 226, 3) := by decide +kernel
theorem dX8_leastPush_45 : decode cX8_leastPush 45 = .ok (.iconst 5, 1) := by decide +kernel
theorem dX8_leastPush_46 : decode cX8_leastPush 46 = .ok (.iaload, 1) := by decide +kernel
theorem dX8_leastPush_47 : decode cX8_leastPush 47 = .ok (.iload_n 3, 1) := by decide +kernel
theorem dX8_leastPush_48 : decode cX8_leastPush 48 = .ok (.ifCond .eq 8, 3) := by decide +kernel
theorem dX8_leastPush_51 : decode cX8_leastPush 51 = .ok (.iload 5, 2) := by decide +kernel
theorem dX8_leastPush_53 : decode cX8_leastPush 53 = .ok (.goto 4, 3) := by decide +kernel
theorem dX8_leastPush_56 : decode cX8_leastPush 56 = .ok (.iconst 0, 1) := by decide +kernel
theorem dX8_leastPush_57 : decode cX8_leastPush 57 = .ok (.iadd, 1) := by decide +kernel
theorem dX8_leastPush_58 : decode cX8_leastPush 58 = .ok (.iastore, 1) := by decide +kernel
theorem dX8_leastPush_59 : decode cX8_leastPush 59 = .ok (.aload_n 0, 1) := by decide +kernel
theorem dX8_leastPush_60 : decode cX8_leastPush 60 = .ok (.getfield 54, 3) := by decide +kernel
theorem dX8_leastPush_63 : decode cX8_leastPush 63 = .ok (.iconst 0, 1) := by decide +kernel
theorem dX8_leastPush_64 : decode cX8_leastPush 64 = .ok (.iload_n 2, 1) := by decide +kernel
theorem dX8_leastPush_65 : decode cX8_leastPush 65 = .ok (.invokevirtual 266, 3) := by decide +kernel
theorem dX8_leastPush_68 : decode cX8_leastPush 68 = .ok (.aload_n 0, 1) := by decide +kernel
theorem dX8_leastPush_69 : decode cX8_leastPush 69 = .ok (.getfield 54, 3) := by decide +kernel
theorem dX8_leastPush_72 : decode cX8_leastPush 72 = .ok (.iconst 4, 1) := by decide +kernel
theorem dX8_leastPush_73 : decode cX8_leastPush 73 = .ok (.invokevirtual 276, 3) := by decide +kernel
theorem dX8_leastPush_76 : decode cX8_leastPush 76 = .ok (.ifCond .ne 14, 3) := by decide +kernel
theorem dX8_leastPush_79 : decode cX8_leastPush 79 = .ok (.aload_n 0, 1) := by decide +kernel
theorem dX8_leastPush_80 : decode cX8_leastPush 80 = .ok (.getfield 54, 3) := by decide +kernel
theorem dX8_leastPush_83 : decode cX8_leastPush 83 = .ok (.iconst 5, 1) := by decide +kernel
theorem dX8_leastPush_84 : decode cX8_leastPush 84 = .ok (.invokevirtual 276, 3) := by decide +kernel
theorem dX8_leastPush_87 : decode cX8_leastPush 87 = .ok (.ifCond .eq 7, 3) := by decide +kernel
theorem dX8_leastPush_90 : decode cX8_leastPush 90 = .ok (.iconst 1, 1) := by decide +kernel
theorem dX8_leastPush_91 : decode cX8_leastPush 91 = .ok (.goto 4, 3) := by decide +kernel
theorem dX8_leastPush_94 : decode cX8_leastPush 94 = .ok (.iconst 0, 1) := by decide +kernel
theorem dX8_leastPush_95 : decode cX8_leastPush 95 = .ok (.istore 6, 2) := by decide +kernel
theorem dX8_leastPush_97 : decode cX8_leastPush 97 = .ok (.iload_n 3, 1) := by decide +kernel
theorem dX8_leastPush_98 : decode cX8_leastPush 98 = .ok (.ifCond .eq 17, 3) := by decide +kernel
theorem dX8_leastPush_101 : decode cX8_leastPush 101 = .ok (.aload_n 0, 1) := by decide +kernel
theorem dX8_leastPush_102 : decode cX8_leastPush 102 = .ok (.getfield 54, 3) := by decide +kernel
theorem dX8_leastPush_105 : decode cX8_leastPush 105 = .ok (.iconst 1, 1) := by decide +kernel
theorem dX8_leastPush_106 : decode cX8_leastPush 106 = .ok (.invokevirtual 276, 3) := by decide +kernel
theorem dX8_leastPush_109 : decode cX8_leastPush 109 = .ok (.ifCond .eq 14, 3) := by decide +kernel
theorem dX8_leastPush_112 : decode cX8_leastPush 112 = .ok (.goto 8, 3) := by decide +kernel
theorem dX8_leastPush_115 : decode cX8_leastPush 115 = .ok (.iload 6, 2) := by decide +kernel
theorem dX8_leastPush_117 : decode cX8_leastPush 117 = .ok (.ifCond .ne 6, 3) := by decide +kernel
theorem dX8_leastPush_120 : decode cX8_leastPush 120 = .ok (.iload 5, 2) := by decide +kernel
theorem dX8_leastPush_122 : decode cX8_leastPush 122 = .ok (.ireturn, 1) := by decide +kernel
theorem dX8_leastPush_123 : decode cX8_leastPush 123 = .ok (.iinc 5 1, 3) := by decide +kernel
theorem dX8_leastPush_126 : decode cX8_leastPush 126 = .ok (.goto (-108), 3) := by decide +kernel
theorem dX8_leastPush_129 : decode cX8_leastPush 129 = .ok (.bipush (-9), 2) := by decide +kernel
theorem dX8_leastPush_131 : decode cX8_leastPush 131 = .ok (.ireturn, 1) := by decide +kernel
theorem dX8_bears_0 : decode cX8_bears 0 = .ok (.iload_n 1, 1) := by decide +kernel
theorem dX8_bears_1 : decode cX8_bears 1 = .ok (.iload_n 2, 1) := by decide +kernel
theorem dX8_bears_2 : decode cX8_bears 2 = .ok (.iload_n 3, 1) := by decide +kernel
theorem dX8_bears_3 : decode cX8_bears 3 = .ok (.iload 4, 2) := by decide +kernel
theorem dX8_bears_5 : decode cX8_bears 5 = .ok (.invokestatic 229, 3) := by decide +kernel
theorem dX8_bears_8 : decode cX8_bears 8 = .ok (.ifCond .ne 14, 3) := by decide +kernel
theorem dX8_bears_11 : decode cX8_bears 11 = .ok (.iload 5, 2) := by decide +kernel
theorem dX8_bears_13 : decode cX8_bears 13 = .ok (.iconst 0, 1) := by decide +kernel
theorem dX8_bears_14 : decode cX8_bears 14 = .ok (.bipush 99, 2) := by decide +kernel
theorem dX8_bears_16 : decode cX8_bears 16 = .ok (.invokestatic 90, 3) := by decide +kernel
theorem dX8_bears_19 : decode cX8_bears 19 = .ok (.ifCond .eq 5, 3) := by decide +kernel
theorem dX8_bears_22 : decode cX8_bears 22 = .ok (.iconst (-1), 1) := by decide +kernel
theorem dX8_bears_23 : decode cX8_bears 23 = .ok (.ireturn, 1) := by decide +kernel
theorem dX8_bears_24 : decode cX8_bears 24 = .ok (.aload_n 0, 1) := by decide +kernel
theorem dX8_bears_25 : decode cX8_bears 25 = .ok (.iload_n 1, 1) := by decide +kernel
theorem dX8_bears_26 : decode cX8_bears 26 = .ok (.iload_n 2, 1) := by decide +kernel
theorem dX8_bears_27 : decode cX8_bears 27 = .ok (.invokevirtual 263, 3) := by decide +kernel
theorem dX8_bears_30 : decode cX8_bears 30 = .ok (.ifCond .ne 9, 3) := by decide +kernel
theorem dX8_bears_33 : decode cX8_bears 33 = .ok (.aload_n 0, 1) := by decide +kernel
theorem dX8_bears_34 : decode cX8_bears 34 = .ok (.iconst 1, 1) := by decide +kernel
theorem dX8_bears_35 : decode cX8_bears 35 = .ok (.invokevirtual 150, 3) := by decide +kernel
theorem dX8_bears_38 : decode cX8_bears 38 = .ok (.ireturn, 1) := by decide +kernel
theorem dX8_bears_39 : decode cX8_bears 39 = .ok (.aload_n 0, 1) := by decide +kernel
theorem dX8_bears_40 : decode cX8_bears 40 = .ok (.iload_n 3, 1) := by decide +kernel
theorem dX8_bears_41 : decode cX8_bears 41 = .ok (.iload 4, 2) := by decide +kernel
theorem dX8_bears_43 : decode cX8_bears 43 = .ok (.iload 5, 2) := by decide +kernel
theorem dX8_bears_45 : decode cX8_bears 45 = .ok (.iconst 0, 1) := by decide +kernel
theorem dX8_bears_46 : decode cX8_bears 46 = .ok (.invokevirtual 341, 3) := by decide +kernel
theorem dX8_bears_49 : decode cX8_bears 49 = .ok (.ifCond .ne 6, 3) := by decide +kernel
theorem dX8_bears_52 : decode cX8_bears 52 = .ok (.bipush (-9), 2) := by decide +kernel
theorem dX8_bears_54 : decode cX8_bears 54 = .ok (.ireturn, 1) := by decide +kernel
theorem dX8_bears_55 : decode cX8_bears 55 = .ok (.bipush 99, 2) := by decide +kernel
theorem dX8_bears_57 : decode cX8_bears 57 = .ok (.istore 6, 2) := by decide +kernel
theorem dX8_bears_59 : decode cX8_bears 59 = .ok (.iload 6, 2) := by decide +kernel
theorem dX8_bears_61 : decode cX8_bears 61 = .ok (.ifCond .le 23, 3) := by decide +kernel
theorem dX8_bears_64 : decode cX8_bears 64 = .ok (.aload_n 0, 1) := by decide +kernel
theorem dX8_bears_65 : decode cX8_bears 65 = .ok (.iload_n 3, 1) := by decide +kernel
theorem dX8_bears_66 : decode cX8_bears 66 = .ok (.iload 4, 2) := by decide +kernel
theorem dX8_bears_68 : decode cX8_bears 68 = .ok (.iload 5, 2) := by decide +kernel
theorem dX8_bears_70 : decode cX8_bears 70 = .ok (.iload 6, 2) := by decide +kernel
theorem dX8_bears_72 : decode cX8_bears 72 = .ok (.invokevirtual 341, 3) := by decide +kernel
theorem dX8_bears_75 : decode cX8_bears 75 = .ok (.ifCond .ne 9, 3) := by decide +kernel
theorem dX8_bears_78 : decode cX8_bears 78 = .ok (.iinc 6 (-1), 3) := by decide +kernel
theorem dX8_bears_81 : decode cX8_bears 81 = .ok (.goto (-22), 3) := by decide +kernel
theorem dX8_bears_84 : decode cX8_bears 84 = .ok (.iload 6, 2) := by decide +kernel
theorem dX8_bears_86 : decode cX8_bears 86 = .ok (.ireturn, 1) := by decide +kernel
theorem dX8_bearsBump_0 : decode cX8_bearsBump 0 = .ok (.aload_n 0, 1) := by decide +kernel
theorem dX8_bearsBump_1 : decode cX8_bearsBump 1 = .ok (.getfield 54, 3) := by decide +kernel
theorem dX8_bearsBump_4 : decode cX8_bearsBump 4 = .ok (.getfield 115, 3) := by decide +kernel
theorem dX8_bearsBump_7 : decode cX8_bearsBump 7 = .ok (.astore 5, 2) := by decide +kernel
theorem dX8_bearsBump_9 : decode cX8_bearsBump 9 = .ok (.aload 5, 2) := by decide +kernel
theorem dX8_bearsBump_11 : decode cX8_bearsBump 11 = .ok (.getfield 124, 3) := by decide +kernel
theorem dX8_bearsBump_14 : decode cX8_bearsBump 14 = .ok (.getfield 344, 3) := by decide +kernel
theorem dX8_bearsBump_17 : decode cX8_bearsBump 17 = .ok (.iload_n 3, 1) := by decide +kernel
theorem dX8_bearsBump_18 : decode cX8_bearsBump 18 = .ok (.iload 4, 2) := by decide +kernel
theorem dX8_bearsBump_20 : decode cX8_bearsBump 20 = .ok (.iastore, 1) := by decide +kernel
theorem dX8_bearsBump_21 : decode cX8_bearsBump 21 = .ok (.aload 5, 2) := by decide +kernel
theorem dX8_bearsBump_23 : decode cX8_bearsBump 23 = .ok (.iload_n 1, 1) := by decide +kernel
theorem dX8_bearsBump_24 : decode cX8_bearsBump 24 = .ok (.iload_n 2, 1) := by decide +kernel
theorem dX8_bearsBump_25 : decode cX8_bearsBump 25 = .ok (.iconst 0, 1) := by decide +kernel
theorem dX8_bearsBump_26 : decode cX8_bearsBump 26 = .ok (.invokevirtual 233, 3) := by decide +kernel
theorem dX8_bearsBump_29 : decode cX8_bearsBump 29 = .ok (.aload 5, 2) := by decide +kernel
theorem dX8_bearsBump_31 : decode cX8_bearsBump 31 = .ok (.sipush 200, 3) := by decide +kernel
theorem dX8_bearsBump_34 : decode cX8_bearsBump 34 = .ok (.invokevirtual 244, 3) := by decide +kernel
theorem dX8_bearsBump_37 : decode cX8_bearsBump 37 = .ok (.pop, 1) := by decide +kernel
theorem dX8_bearsBump_38 : decode cX8_bearsBump 38 = .ok (.aload 5, 2) := by decide +kernel
theorem dX8_bearsBump_40 : decode cX8_bearsBump 40 = .ok (.getfield 346, 3) := by decide +kernel
theorem dX8_bearsBump_43 : decode cX8_bearsBump 43 = .ok (.ifCond .ne 7, 3) := by decide +kernel
theorem dX8_bearsBump_46 : decode cX8_bearsBump 46 = .ok (.iconst 1, 1) := by decide +kernel
theorem dX8_bearsBump_47 : decode cX8_bearsBump 47 = .ok (.goto 4, 3) := by decide +kernel
theorem dX8_bearsBump_50 : decode cX8_bearsBump 50 = .ok (.iconst 0, 1) := by decide +kernel
theorem dX8_bearsBump_51 : decode cX8_bearsBump 51 = .ok (.ireturn, 1) := by decide +kernel
theorem dX8_meets_0 : decode cX8_meets 0 = .ok (.iload_n 1, 1) := by decide +kernel
theorem dX8_meets_1 : decode cX8_meets 1 = .ok (.iload_n 3, 1) := by decide +kernel
theorem dX8_meets_2 : decode cX8_meets 2 = .ok (.iload 4, 2) := by decide +kernel
theorem dX8_meets_4 : decode cX8_meets 4 = .ok (.iload 5, 2) := by decide +kernel
theorem dX8_meets_6 : decode cX8_meets 6 = .ok (.invokestatic 229, 3) := by decide +kernel
theorem dX8_meets_9 : decode cX8_meets 9 = .ok (.ifCond .ne 10, 3) := by decide +kernel
theorem dX8_meets_12 : decode cX8_meets 12 = .ok (.iload_n 2, 1) := by decide +kernel
theorem dX8_meets_13 : decode cX8_meets 13 = .ok (.invokestatic 94, 3) := by decide +kernel
theorem dX8_meets_16 : decode cX8_meets 16 = .ok (.ifCond .eq 5, 3) := by decide +kernel
theorem dX8_meets_19 : decode cX8_meets 19 = .ok (.iconst (-1), 1) := by decide +kernel
theorem dX8_meets_20 : decode cX8_meets 20 = .ok (.ireturn, 1) := by decide +kernel
theorem dX8_meets_21 : decode cX8_meets 21 = .ok (.aload_n 0, 1) := by decide +kernel
theorem dX8_meets_22 : decode cX8_meets 22 = .ok (.getfield 23, 3) := by decide +kernel
theorem dX8_meets_25 : decode cX8_meets 25 = .ok (.iload_n 2, 1) := by decide +kernel
theorem dX8_meets_26 : decode cX8_meets 26 = .ok (.aaload, 1) := by decide +kernel
theorem dX8_meets_27 : decode cX8_meets 27 = .ok (.getfield 110, 3) := by decide +kernel
theorem dX8_meets_30 : decode cX8_meets 30 = .ok (.ifCond .eq 12, 3) := by decide +kernel
theorem dX8_meets_33 : decode cX8_meets 33 = .ok (.aload_n 0, 1) := by decide +kernel
theorem dX8_meets_34 : decode cX8_meets 34 = .ok (.iload_n 1, 1) := by decide +kernel
theorem dX8_meets_35 : decode cX8_meets 35 = .ok (.iload_n 3, 1) := by decide +kernel
theorem dX8_meets_36 : decode cX8_meets 36 = .ok (.invokevirtual 263, 3) := by decide +kernel
theorem dX8_meets_39 : decode cX8_meets 39 = .ok (.ifCond .ne 9, 3) := by decide +kernel
theorem dX8_meets_42 : decode cX8_meets 42 = .ok (.aload_n 0, 1) := by decide +kernel
theorem dX8_meets_43 : decode cX8_meets 43 = .ok (.iconst 1, 1) := by decide +kernel
theorem dX8_meets_44 : decode cX8_meets 44 = .ok (.invokevirtual 150, 3) := by decide +kernel
theorem dX8_meets_47 : decode cX8_meets 47 = .ok (.ireturn, 1) := by decide +kernel
theorem dX8_meets_48 : decode cX8_meets 48 = .ok (.aload_n 0, 1) := by decide +kernel
theorem dX8_meets_49 : decode cX8_meets 49 = .ok (.getfield 58, 3) := by decide +kernel
theorem dX8_meets_52 : decode cX8_meets 52 = .ok (.getfield 116, 3) := by decide +kernel
theorem dX8_meets_55 : decode cX8_meets 55 = .ok (.aload_n 0, 1) := by decide +kernel
theorem dX8_meets_56 : decode cX8_meets 56 = .ok (.getfield 23, 3) := by decide +kernel
theorem dX8_meets_59 : decode cX8_meets 59 = .ok (.iload_n 2, 1) := by decide +kernel
theorem dX8_meets_60 : decode cX8_meets 60 = .ok (.aaload, 1) := by decide +kernel
theorem dX8_meets_61 : decode cX8_meets 61 = .ok (.invokevirtual 120, 3) := by decide +kernel
theorem dX8_meets_64 : decode cX8_meets 64 = .ok (.aload_n 0, 1) := by decide +kernel
theorem dX8_meets_65 : decode cX8_meets 65 = .ok (.getfield 58, 3) := by decide +kernel
theorem dX8_meets_68 : decode cX8_meets 68 = .ok (.getfield 124, 3) := by decide +kernel
theorem dX8_meets_71 : decode cX8_meets 71 = .ok (.aload_n 0, 1) := by decide +kernel
theorem dX8_meets_72 : decode cX8_meets 72 = .ok (.getfield 54, 3) := by decide +kernel
theorem dX8_meets_75 : decode cX8_meets 75 = .ok (.getfield 115, 3) := by decide +kernel
theorem dX8_meets_78 : decode cX8_meets 78 = .ok (.getfield 124, 3) := by decide +kernel
theorem dX8_meets_81 : decode cX8_meets 81 = .ok (.invokevirtual 214, 3) := by decide +kernel
theorem dX8_meets_84 : decode cX8_meets 84 = .ok (.aload_n 0, 1) := by decide +kernel
theorem dX8_meets_85 : decode cX8_meets 85 = .ok (.getfield 54, 3) := by decide +kernel
theorem dX8_meets_88 : decode cX8_meets 88 = .ok (.getfield 115, 3) := by decide +kernel
theorem dX8_meets_91 : decode cX8_meets 91 = .ok (.iload 4, 2) := by decide +kernel
theorem dX8_meets_93 : decode cX8_meets 93 = .ok (.iload 5, 2) := by decide +kernel
theorem dX8_meets_95 : decode cX8_meets 95 = .ok (.iconst 0, 1) := by decide +kernel
theorem dX8_meets_96 : decode cX8_meets 96 = .ok (.invokevirtual 233, 3) := by decide +kernel
theorem dX8_meets_99 : decode cX8_meets 99 = .ok (.aload_n 0, 1) := by decide +kernel
theorem dX8_meets_100 : decode cX8_meets 100 = .ok (.getfield 58, 3) := by decide +kernel
theorem dX8_meets_103 : decode cX8_meets 103 = .ok (.iload 4, 2) := by decide +kernel
theorem dX8_meets_105 : decode cX8_meets 105 = .ok (.iload 5, 2) := by decide +kernel
theorem dX8_meets_107 : decode cX8_meets 107 = .ok (.iconst 0, 1) := by decide +kernel
theorem dX8_meets_108 : decode cX8_meets 108 = .ok (.invokevirtual 233, 3) := by decide +kernel
theorem dX8_meets_111 : decode cX8_meets 111 = .ok (.iconst 1, 1) := by decide +kernel
theorem dX8_meets_112 : decode cX8_meets 112 = .ok (.istore 6, 2) := by decide +kernel
theorem dX8_meets_114 : decode cX8_meets 114 = .ok (.iload 6, 2) := by decide +kernel
theorem dX8_meets_116 : decode cX8_meets 116 = .ok (.sipush 400, 3) := by decide +kernel
theorem dX8_meets_119 : decode cX8_meets 119 = .ok (.if_icmp .gt 77, 3) := by decide +kernel
theorem dX8_meets_122 : decode cX8_meets 122 = .ok (.aload_n 0, 1) := by decide +kernel
theorem dX8_meets_123 : decode cX8_meets 123 = .ok (.getfield 54, 3) := by decide +kernel
theorem dX8_meets_126 : decode cX8_meets 126 = .ok (.getfield 115, 3) := by decide +kernel
theorem dX8_meets_129 : decode cX8_meets 129 = .ok (.invokevirtual 248, 3) := by decide +kernel
theorem dX8_meets_132 : decode cX8_meets 132 = .ok (.pop, 1) := by decide +kernel
theorem dX8_meets_133 : decode cX8_meets 133 = .ok (.aload_n 0, 1) := by decide +kernel
theorem dX8_meets_134 : decode cX8_meets 134 = .ok (.getfield 58, 3) := by decide +kernel
theorem dX8_meets_137 : decode cX8_meets 137 = .ok (.invokevirtual 248, 3) := by decide +kernel
theorem dX8_meets_140 : decode cX8_meets 140 = .ok (.pop, 1) := by decide +kernel
theorem dX8_meets_141 : decode cX8_meets 141 = .ok (.aload_n 0, 1) := by decide +kernel
theorem dX8_meets_142 : decode cX8_meets 142 = .ok (.getfield 54, 3) := by decide +kernel
theorem dX8_meets_145 : decode cX8_meets 145 = .ok (.getfield 115, 3) := by decide +kernel
theorem dX8_meets_148 : decode cX8_meets 148 = .ok (.getfield 346, 3) := by decide +kernel
theorem dX8_meets_151 : decode cX8_meets 151 = .ok (.ifCond .ne 13, 3) := by decide +kernel
theorem dX8_meets_154 : decode cX8_meets 154 = .ok (.aload_n 0, 1) := by decide +kernel
theorem dX8_meets_155 : decode cX8_meets 155 = .ok (.getfield 58, 3) := by decide +kernel
theorem dX8_meets_158 : decode cX8_meets 158 = .ok (.getfield 346, 3) := by decide +kernel
theorem dX8_meets_161 : decode cX8_meets 161 = .ok (.ifCond .eq 6, 3) := by decide +kernel
theorem dX8_meets_164 : decode cX8_meets 164 = .ok (.bipush (-9), 2) := by decide +kernel
theorem dX8_meets_166 : decode cX8_meets 166 = .ok (.ireturn, 1) := by decide +kernel
theorem dX8_meets_167 : decode cX8_meets 167 = .ok (.aload_n 0, 1) := by decide +kernel
theorem dX8_meets_168 : decode cX8_meets 168 = .ok (.getfield 54, 3) := by decide +kernel
theorem dX8_meets_171 : decode cX8_meets 171 = .ok (.getfield 115, 3) := by decide +kernel
theorem dX8_meets_174 : decode cX8_meets 174 = .ok (.getfield 251, 3) := by decide +kernel
theorem dX8_meets_177 : decode cX8_meets 177 = .ok (.aload_n 0, 1) := by decide +kernel
theorem dX8_meets_178 : decode cX8_meets 178 = .ok (.getfield 58, 3) := by decide +kernel
theorem dX8_meets_181 : decode cX8_meets 181 = .ok (.getfield 251, 3) := by decide +kernel
theorem dX8_meets_184 : decode cX8_meets 184 = .ok (.if_icmp .ne 6, 3) := by decide +kernel
theorem dX8_meets_187 : decode cX8_meets 187 = .ok (.iload 6, 2) := by decide +kernel
theorem dX8_meets_189 : decode cX8_meets 189 = .ok (.ireturn, 1) := by decide +kernel
theorem dX8_meets_190 : decode cX8_meets 190 = .ok (.iinc 6 1, 3) := by decide +kernel
theorem dX8_meets_193 : decode cX8_meets 193 = .ok (.goto (-79), 3) := by decide +kernel
theorem dX8_meets_196 : decode cX8_meets 196 = .ok (.bipush (-9), 2) := by decide +kernel
theorem dX8_meets_198 : decode cX8_meets 198 = .ok (.ireturn, 1) := by decide +kernel
theorem dX8_asked_0 : decode cX8_asked 0 = .ok (.aload_n 0, 1) := by decide +kernel
theorem dX8_asked_1 : decode cX8_asked 1 = .ok (.getfield 76, 3) := by decide +kernel
theorem dX8_asked_4 : decode cX8_asked 4 = .ok (.ireturn, 1) := by decide +kernel
theorem dX8_upper_0 : decode cX8_upper 0 = .ok (.aload_n 0, 1) := by decide +kernel
theorem dX8_upper_1 : decode cX8_upper 1 = .ok (.getfield 79, 3) := by decide +kernel
theorem dX8_upper_4 : decode cX8_upper 4 = .ok (.lreturn, 1) := by decide +kernel
theorem dX8_lower_0 : decode cX8_lower 0 = .ok (.aload_n 0, 1) := by decide +kernel
theorem dX8_lower_1 : decode cX8_lower 1 = .ok (.getfield 83, 3) := by decide +kernel
theorem dX8_lower_4 : decode cX8_lower 4 = .ok (.lreturn, 1) := by decide +kernel
theorem dX8_count_0 : decode cX8_count 0 = .ok (.iload_n 1, 1) := by decide +kernel
theorem dX8_count_1 : decode cX8_count 1 = .ok (.iconst 0, 1) := by decide +kernel
theorem dX8_count_2 : decode cX8_count 2 = .ok (.bipush 6, 2) := by decide +kernel
theorem dX8_count_4 : decode cX8_count 4 = .ok (.invokestatic 90, 3) := by decide +kernel
theorem dX8_count_7 : decode cX8_count 7 = .ok (.ifCond .eq 5, 3) := by decide +kernel
theorem dX8_count_10 : decode cX8_count 10 = .ok (.iconst (-1), 1) := by decide +kernel
theorem dX8_count_11 : decode cX8_count 11 = .ok (.ireturn, 1) := by decide +kernel
theorem dX8_count_12 : decode cX8_count 12 = .ok (.aload_n 0, 1) := by decide +kernel
theorem dX8_count_13 : decode cX8_count 13 = .ok (.iload_n 1, 1) := by decide +kernel
theorem dX8_count_14 : decode cX8_count 14 = .ok (.invokevirtual 349, 3) := by decide +kernel
theorem dX8_count_17 : decode cX8_count 17 = .ok (.ireturn, 1) := by decide +kernel
theorem dX8_countOf_0 : decode cX8_countOf 0 = .ok (.iload_n 1, 1) := by decide +kernel
theorem dX8_countOf_1 : decode cX8_countOf 1 = .ok (.tableswitch 88 0 5 #[39, 45, 50, 56, 78, 83], 39) := by decide +kernel
theorem dX8_countOf_40 : decode cX8_countOf 40 = .ok (.aload_n 0, 1) := by decide +kernel
theorem dX8_countOf_41 : decode cX8_countOf 41 = .ok (.iconst 0, 1) := by decide +kernel
theorem dX8_countOf_42 : decode cX8_countOf 42 = .ok (.invokevirtual 352, 3) := by decide +kernel
theorem dX8_countOf_45 : decode cX8_countOf 45 = .ok (.ireturn, 1) := by decide +kernel
theorem dX8_countOf_46 : decode cX8_countOf 46 = .ok (.aload_n 0, 1) := by decide +kernel
theorem dX8_countOf_47 : decode cX8_countOf 47 = .ok (.invokevirtual 356, 3) := by decide +kernel
theorem dX8_countOf_50 : decode cX8_countOf 50 = .ok (.ireturn, 1) := by decide +kernel
theorem dX8_countOf_51 : decode cX8_countOf 51 = .ok (.aload_n 0, 1) := by decide +kernel
theorem dX8_countOf_52 : decode cX8_countOf 52 = .ok (.iconst 1, 1) := by decide +kernel
theorem dX8_countOf_53 : decode cX8_countOf 53 = .ok (.invokevirtual 352, 3) := by decide +kernel
theorem dX8_countOf_56 : decode cX8_countOf 56 = .ok (.ireturn, 1) := by decide +kernel
theorem dX8_countOf_57 : decode cX8_countOf 57 = .ok (.aload_n 0, 1) := by decide +kernel
theorem dX8_countOf_58 : decode cX8_countOf 58 = .ok (.getfield 36, 3) := by decide +kernel
theorem dX8_countOf_61 : decode cX8_countOf 61 = .ok (.getfield 237, 3) := by decide +kernel
theorem dX8_countOf_64 : decode cX8_countOf 64 = .ok (.ifCond .eq 13, 3) := by decide +kernel
theorem dX8_countOf_67 : decode cX8_countOf 67 = .ok (.aload_n 0, 1) := by decide +kernel
theorem dX8_countOf_68 : decode cX8_countOf 68 = .ok (.getfield 36, 3) := by decide +kernel
theorem dX8_countOf_71 : decode cX8_countOf 71 = .ok (.getfield 241, 3) := by decide +kernel
theorem dX8_countOf_74 : decode cX8_countOf 74 = .ok (.goto 4, 3) := by decide +kernel
theorem dX8_countOf_77 : decode cX8_countOf 77 = .ok (.iconst 0, 1) := by decide +kernel
theorem dX8_countOf_78 : decode cX8_countOf 78 = .ok (.ireturn, 1) := by decide +kernel
theorem dX8_countOf_79 : decode cX8_countOf 79 = .ok (.aload_n 0, 1) := by decide +kernel
theorem dX8_countOf_80 : decode cX8_countOf 80 = .ok (.invokevirtual 359, 3) := by decide +kernel
theorem dX8_countOf_83 : decode cX8_countOf 83 = .ok (.ireturn, 1) := by decide +kernel
theorem dX8_countOf_84 : decode cX8_countOf 84 = .ok (.aload_n 0, 1) := by decide +kernel
theorem dX8_countOf_85 : decode cX8_countOf 85 = .ok (.invokevirtual 362, 3) := by decide +kernel
theorem dX8_countOf_88 : decode cX8_countOf 88 = .ok (.ireturn, 1) := by decide +kernel
theorem dX8_countOf_89 : decode cX8_countOf 89 = .ok (.aload_n 0, 1) := by decide +kernel
theorem dX8_countOf_90 : decode cX8_countOf 90 = .ok (.invokevirtual 365, 3) := by decide +kernel
theorem dX8_countOf_93 : decode cX8_countOf 93 = .ok (.ireturn, 1) := by decide +kernel
theorem dX8_countDucks_0 : decode cX8_countDucks 0 = .ok (.iconst 0, 1) := by decide +kernel
theorem dX8_countDucks_1 : decode cX8_countDucks 1 = .ok (.istore_n 2, 1) := by decide +kernel
theorem dX8_countDucks_2 : decode cX8_countDucks 2 = .ok (.iconst 0, 1) := by decide +kernel
theorem dX8_countDucks_3 : decode cX8_countDucks 3 = .ok (.istore_n 3, 1) := by decide +kernel
theorem dX8_countDucks_4 : decode cX8_countDucks 4 = .ok (.iload_n 3, 1) := by decide +kernel
theorem dX8_countDucks_5 : decode cX8_countDucks 5 = .ok (.iconst 4, 1) := by decide +kernel
theorem dX8_countDucks_6 : decode cX8_countDucks 6 = .ok (.if_icmp .ge 40, 3) := by decide +kernel
theorem dX8_countDucks_9 : decode cX8_countDucks 9 = .ok (.aload_n 0, 1) := by decide +kernel
theorem dX8_countDucks_10 : decode cX8_countDucks 10 = .ok (.getfield 23, 3) := by decide +kernel
theorem dX8_countDucks_13 : decode cX8_countDucks 13 = .ok (.iload_n 3, 1) := by decide +kernel
theorem dX8_countDucks_14 : decode cX8_countDucks 14 = .ok (.aaload, 1) := by decide +kernel
theorem dX8_countDucks_15 : decode cX8_countDucks 15 = .ok (.getfield 110, 3) := by decide +kernel
theorem dX8_countDucks_18 : decode cX8_countDucks 18 = .ok (.ifCond .eq 22, 3) := by decide +kernel
theorem dX8_countDucks_21 : decode cX8_countDucks 21 = .ok (.iload_n 1, 1) := by decide +kernel
theorem dX8_countDucks_22 : decode cX8_countDucks 22 = .ok (.ifCond .eq 15, 3) := by decide +kernel
theorem dX8_countDucks_25 : decode cX8_countDucks 25 = .ok (.aload_n 0, 1) := by decide +kernel
theorem dX8_countDucks_26 : decode cX8_countDucks 26 = .ok (.getfield 23, 3) := by decide +kernel
theorem dX8_countDucks_29 : decode cX8_countDucks 29 = .ok (.iload_n 3, 1) := by decide +kernel
theorem dX8_countDucks_30 : decode cX8_countDucks 30 = .ok (.aaload, 1) := by decide +kernel
theorem dX8_countDucks_31 : decode cX8_countDucks 31 = .ok (.getfield 205, 3) := by decide +kernel
theorem dX8_countDucks_34 : decode cX8_countDucks 34 = .ok (.ifCond .eq 6, 3) := by decide +kernel
theorem dX8_countDucks_37 : decode cX8_countDucks 37 = .ok (.iinc 2 1, 3) := by decide +kernel
theorem dX8_countDucks_40 : decode cX8_countDucks 40 = .ok (.iinc 3 1, 3) := by decide +kernel
theorem dX8_countDucks_43 : decode cX8_countDucks 43 = .ok (.goto (-39), 3) := by decide +kernel
theorem dX8_countDucks_46 : decode cX8_countDucks 46 = .ok (.iload_n 2, 1) := by decide +kernel
theorem dX8_countDucks_47 : decode cX8_countDucks 47 = .ok (.ireturn, 1) := by decide +kernel
theorem dX8_countPlanks_0 : decode cX8_countPlanks 0 = .ok (.iconst 0, 1) := by decide +kernel
theorem dX8_countPlanks_1 : decode cX8_countPlanks 1 = .ok (.istore_n 1, 1) := by decide +kernel
theorem dX8_countPlanks_2 : decode cX8_countPlanks 2 = .ok (.iconst 0, 1) := by decide +kernel
theorem dX8_countPlanks_3 : decode cX8_countPlanks 3 = .ok (.istore_n 2, 1) := by decide +kernel
theorem dX8_countPlanks_4 : decode cX8_countPlanks 4 = .ok (.iload_n 2, 1) := by decide +kernel
theorem dX8_countPlanks_5 : decode cX8_countPlanks 5 = .ok (.iconst 4, 1) := by decide +kernel
theorem dX8_countPlanks_6 : decode cX8_countPlanks 6 = .ok (.if_icmp .ge 29, 3) := by decide +kernel
theorem dX8_countPlanks_9 : decode cX8_countPlanks 9 = .ok (.iload_n 1, 1) := by decide +kernel
theorem dX8_countPlanks_10 : decode cX8_countPlanks 10 = .ok (.aload_n 0, 1) := by decide +kernel
theorem dX8_countPlanks_11 : decode cX8_countPlanks 11 = .ok (.getfield 29, 3) := by decide +kernel
theorem dX8_countPlanks_14 : decode cX8_countPlanks 14 = .ok (.iload_n 2, 1) := by decide +kernel
theorem dX8_countPlanks_15 : decode cX8_countPlanks 15 = .ok (.aaload, 1) := by decide +kernel
theorem dX8_countPlanks_16 : decode cX8_countPlanks 16 = .ok (.getfield 114, 3) := by decide +kernel
theorem dX8_countPlanks_19 : decode cX8_countPlanks 19 = .ok (.ifCond .eq 7, 3) := by decide +kernel
theorem dX8_countPlanks_22 : decode cX8_countPlanks 22 = .ok (.iconst 1, 1) := by decide +kernel
theorem dX8_countPlanks_23 : decode cX8_countPlanks 23 = .ok (.goto 4, 3) := by decide +kernel
theorem dX8_countPlanks_26 : decode cX8_countPlanks 26 = .ok (.iconst 0, 1) := by decide +kernel
theorem dX8_countPlanks_27 : decode cX8_countPlanks 27 = .ok (.iadd, 1) := by decide +kernel
theorem dX8_countPlanks_28 : decode cX8_countPlanks 28 = .ok (.istore_n 1, 1) := by decide +kernel
theorem dX8_countPlanks_29 : decode cX8_countPlanks 29 = .ok (.iinc 2 1, 3) := by decide +kernel
theorem dX8_countPlanks_32 : decode cX8_countPlanks 32 = .ok (.goto (-28), 3) := by decide +kernel
theorem dX8_countPlanks_35 : decode cX8_countPlanks 35 = .ok (.iload_n 1, 1) := by decide +kernel
theorem dX8_countPlanks_36 : decode cX8_countPlanks 36 = .ok (.ireturn, 1) := by decide +kernel
theorem dX8_countKept_0 : decode cX8_countKept 0 = .ok (.iconst 0, 1) := by decide +kernel
theorem dX8_countKept_1 : decode cX8_countKept 1 = .ok (.istore_n 1, 1) := by decide +kernel
theorem dX8_countKept_2 : decode cX8_countKept 2 = .ok (.iconst 0, 1) := by decide +kernel
theorem dX8_countKept_3 : decode cX8_countKept 3 = .ok (.istore_n 2, 1) := by decide +kernel
theorem dX8_countKept_4 : decode cX8_countKept 4 = .ok (.iload_n 2, 1) := by decide +kernel
theorem dX8_countKept_5 : decode cX8_countKept 5 = .ok (.iconst 3, 1) := by decide +kernel
theorem dX8_countKept_6 : decode cX8_countKept 6 = .ok (.if_icmp .ge 29, 3) := by decide +kernel
theorem dX8_countKept_9 : decode cX8_countKept 9 = .ok (.iload_n 1, 1) := by decide +kernel
theorem dX8_countKept_10 : decode cX8_countKept 10 = .ok (.aload_n 0, 1) := by decide +kernel
theorem dX8_countKept_11 : decode cX8_countKept 11 = .ok (.getfield 40, 3) := by decide +kernel
theorem dX8_countKept_14 : decode cX8_countKept 14 = .ok (.iload_n 2, 1) := by decide +kernel
theorem dX8_countKept_15 : decode cX8_countKept 15 = .ok (.aaload, 1) := by decide +kernel
theorem dX8_countKept_16 : decode cX8_countKept 16 = .ok (.getfield 237, 3) := by decide +kernel
theorem dX8_countKept_19 : decode cX8_countKept 19 = .ok (.ifCond .eq 7, 3) := by decide +kernel
theorem dX8_countKept_22 : decode cX8_countKept 22 = .ok (.iconst 1, 1) := by decide +kernel
theorem dX8_countKept_23 : decode cX8_countKept 23 = .ok (.goto 4, 3) := by decide +kernel
theorem dX8_countKept_26 : decode cX8_countKept 26 = .ok (.iconst 0, 1) := by decide +kernel
theorem dX8_countKept_27 : decode cX8_countKept 27 = .ok (.iadd, 1) := by decide +kernel
theorem dX8_countKept_28 : decode cX8_countKept 28 = .ok (.istore_n 1, 1) := by decide +kernel
theorem dX8_countKept_29 : decode cX8_countKept 29 = .ok (.iinc 2 1, 3) := by decide +kernel
theorem dX8_countKept_32 : decode cX8_countKept 32 = .ok (.goto (-28), 3) := by decide +kernel
theorem dX8_countKept_35 : decode cX8_countKept 35 = .ok (.iload_n 1, 1) := by decide +kernel
theorem dX8_countKept_36 : decode cX8_countKept 36 = .ok (.ireturn, 1) := by decide +kernel
theorem dX8_countRows_0 : decode cX8_countRows 0 = .ok (.iconst 0, 1) := by decide +kernel
theorem dX8_countRows_1 : decode cX8_countRows 1 = .ok (.istore_n 1, 1) := by decide +kernel
theorem dX8_countRows_2 : decode cX8_countRows 2 = .ok (.iconst 0, 1) := by decide +kernel
theorem dX8_countRows_3 : decode cX8_countRows 3 = .ok (.istore_n 2, 1) := by decide +kernel
theorem dX8_countRows_4 : decode cX8_countRows 4 = .ok (.iload_n 2, 1) := by decide +kernel
theorem dX8_countRows_5 : decode cX8_countRows 5 = .ok (.bipush 6, 2) := by decide +kernel
theorem dX8_countRows_7 : decode cX8_countRows 7 = .ok (.if_icmp .ge 29, 3) := by decide +kernel
theorem dX8_countRows_10 : decode cX8_countRows 10 = .ok (.iload_n 1, 1) := by decide +kernel
theorem dX8_countRows_11 : decode cX8_countRows 11 = .ok (.aload_n 0, 1) := by decide +kernel
theorem dX8_countRows_12 : decode cX8_countRows 12 = .ok (.getfield 11, 3) := by decide +kernel
theorem dX8_countRows_15 : decode cX8_countRows 15 = .ok (.iload_n 2, 1) := by decide +kernel
theorem dX8_countRows_16 : decode cX8_countRows 16 = .ok (.aaload, 1) := by decide +kernel
theorem dX8_countRows_17 : decode cX8_countRows 17 = .ok (.invokevirtual 157, 3) := by decide +kernel
theorem dX8_countRows_20 : decode cX8_countRows 20 = .ok (.ifCond .eq 7, 3) := by decide +kernel
theorem dX8_countRows_23 : decode cX8_countRows 23 = .ok (.iconst 0, 1) := by decide +kernel
theorem dX8_countRows_24 : decode cX8_countRows 24 = .ok (.goto 4, 3) := by decide +kernel
theorem dX8_countRows_27 : decode cX8_countRows 27 = .ok (.iconst 1, 1) := by decide +kernel
theorem dX8_countRows_28 : decode cX8_countRows 28 = .ok (.iadd, 1) := by decide +kernel
theorem dX8_countRows_29 : decode cX8_countRows 29 = .ok (.istore_n 1, 1) := by decide +kernel
theorem dX8_countRows_30 : decode cX8_countRows 30 = .ok (.iinc 2 1, 3) := by decide +kernel
theorem dX8_countRows_33 : decode cX8_countRows 33 = .ok (.goto (-29), 3) := by decide +kernel
theorem dX8_countRows_36 : decode cX8_countRows 36 = .ok (.iload_n 1, 1) := by decide +kernel
theorem dX8_countRows_37 : decode cX8_countRows 37 = .ok (.ireturn, 1) := by decide +kernel
theorem dX8_countScripts_0 : decode cX8_countScripts 0 = .ok (.iconst 0, 1) := by decide +kernel
theorem dX8_countScripts_1 : decode cX8_countScripts 1 = .ok (.istore_n 1, 1) := by decide +kernel
theorem dX8_countScripts_2 : decode cX8_countScripts 2 = .ok (.iconst 0, 1) := by decide +kernel
theorem dX8_countScripts_3 : decode cX8_countScripts 3 = .ok (.istore_n 2, 1) := by decide +kernel
theorem dX8_countScripts_4 : decode cX8_countScripts 4 = .ok (.iload_n 2, 1) := by decide +kernel
theorem dX8_countScripts_5 : decode cX8_countScripts 5 = .ok (.iconst 4, 1) := by decide +kernel
theorem dX8_countScripts_6 : decode cX8_countScripts 6 = .ok (.if_icmp .ge 29, 3) := by decide +kernel
theorem dX8_countScripts_9 : decode cX8_countScripts 9 = .ok (.iload_n 1, 1) := by decide +kernel
theorem dX8_countScripts_10 : decode cX8_countScripts 10 = .ok (.aload_n 0, 1) := by decide +kernel
theorem dX8_countScripts_11 : decode cX8_countScripts 11 = .ok (.getfield 17, 3) := by decide +kernel
theorem dX8_countScripts_14 : decode cX8_countScripts 14 = .ok (.iload_n 2, 1) := by decide +kernel
theorem dX8_countScripts_15 : decode cX8_countScripts 15 = .ok (.aaload, 1) := by decide +kernel
theorem dX8_countScripts_16 : decode cX8_countScripts 16 = .ok (.invokevirtual 191, 3) := by decide +kernel
theorem dX8_countScripts_19 : decode cX8_countScripts 19 = .ok (.ifCond .eq 7, 3) := by decide +kernel
theorem dX8_countScripts_22 : decode cX8_countScripts 22 = .ok (.iconst 0, 1) := by decide +kernel
theorem dX8_countScripts_23 : decode cX8_countScripts 23 = .ok (.goto 4, 3) := by decide +kernel
theorem dX8_countScripts_26 : decode cX8_countScripts 26 = .ok (.iconst 1, 1) := by decide +kernel
theorem dX8_countScripts_27 : decode cX8_countScripts 27 = .ok (.iadd, 1) := by decide +kernel
theorem dX8_countScripts_28 : decode cX8_countScripts 28 = .ok (.istore_n 1, 1) := by decide +kernel
theorem dX8_countScripts_29 : decode cX8_countScripts 29 = .ok (.iinc 2 1, 3) := by decide +kernel
theorem dX8_countScripts_32 : decode cX8_countScripts 32 = .ok (.goto (-28), 3) := by decide +kernel
theorem dX8_countScripts_35 : decode cX8_countScripts 35 = .ok (.iload_n 1, 1) := by decide +kernel
theorem dX8_countScripts_36 : decode cX8_countScripts 36 = .ok (.ireturn, 1) := by decide +kernel
theorem dX8_finding_0 : decode cX8_finding 0 = .ok (.aload_n 0, 1) := by decide +kernel
theorem dX8_finding_1 : decode cX8_finding 1 = .ok (.getfield 72, 3) := by decide +kernel
theorem dX8_finding_4 : decode cX8_finding 4 = .ok (.ireturn, 1) := by decide +kernel
theorem dX8_findings_0 : decode cX8_findings 0 = .ok (.iload_n 1, 1) := by decide +kernel
theorem dX8_findings_1 : decode cX8_findings 1 = .ok (.iconst 1, 1) := by decide +kernel
theorem dX8_findings_2 : decode cX8_findings 2 = .ok (.iconst 5, 1) := by decide +kernel
theorem dX8_findings_3 : decode cX8_findings 3 = .ok (.invokestatic 90, 3) := by decide +kernel
theorem dX8_findings_6 : decode cX8_findings 6 = .ok (.ifCond .eq 5, 3) := by decide +kernel
theorem dX8_findings_9 : decode cX8_findings 9 = .ok (.iconst (-1), 1) := by decide +kernel
theorem dX8_findings_10 : decode cX8_findings 10 = .ok (.ireturn, 1) := by decide +kernel
theorem dX8_findings_11 : decode cX8_findings 11 = .ok (.aload_n 0, 1) := by decide +kernel
theorem dX8_findings_12 : decode cX8_findings 12 = .ok (.getfield 68, 3) := by decide +kernel
theorem dX8_findings_15 : decode cX8_findings 15 = .ok (.iload_n 1, 1) := by decide +kernel
theorem dX8_findings_16 : decode cX8_findings 16 = .ok (.iaload, 1) := by decide +kernel
theorem dX8_findings_17 : decode cX8_findings 17 = .ok (.ireturn, 1) := by decide +kernel
theorem dX8_digest_0 : decode cX8_digest 0 = .ok (.ldc2_w 368, 3) := by decide +kernel
theorem dX8_digest_3 : decode cX8_digest 3 = .ok (.lstore_n 1, 1) := by decide +kernel
theorem dX8_digest_4 : decode cX8_digest 4 = .ok (.iconst 0, 1) := by decide +kernel
theorem dX8_digest_5 : decode cX8_digest 5 = .ok (.istore_n 3, 1) := by decide +kernel
theorem dX8_digest_6 : decode cX8_digest 6 = .ok (.iload_n 3, 1) := by decide +kernel
theorem dX8_digest_7 : decode cX8_digest 7 = .ok (.bipush 6, 2) := by decide +kernel
theorem dX8_digest_9 : decode cX8_digest 9 = .ok (.if_icmp .gt 22, 3) := by decide +kernel
theorem dX8_digest_12 : decode cX8_digest 12 = .ok (.ldc2_w 370, 3) := by decide +kernel
theorem dX8_digest_15 : decode cX8_digest 15 = .ok (.lload_n 1, 1) := by decide +kernel
theorem dX8_digest_16 : decode cX8_digest 16 = .ok (.lmul, 1) := by decide +kernel
theorem dX8_digest_17 : decode cX8_digest 17 = .ok (.aload_n 0, 1) := by decide +kernel
theorem dX8_digest_18 : decode cX8_digest 18 = .ok (.iload_n 3, 1) := by decide +kernel
theorem dX8_digest_19 : decode cX8_digest 19 = .ok (.invokevirtual 349, 3) := by decide +kernel
theorem dX8_digest_22 : decode cX8_digest 22 = .ok (.i2l, 1) := by decide +kernel
theorem dX8_digest_23 : decode cX8_digest 23 = .ok (.ladd, 1) := by decide +kernel
theorem dX8_digest_24 : decode cX8_digest 24 = .ok (.lstore_n 1, 1) := by decide +kernel
theorem dX8_digest_25 : decode cX8_digest 25 = .ok (.iinc 3 1, 3) := by decide +kernel
theorem dX8_digest_28 : decode cX8_digest 28 = .ok (.goto (-22), 3) := by decide +kernel
theorem dX8_digest_31 : decode cX8_digest 31 = .ok (.iconst 0, 1) := by decide +kernel
theorem dX8_digest_32 : decode cX8_digest 32 = .ok (.istore_n 3, 1) := by decide +kernel
theorem dX8_digest_33 : decode cX8_digest 33 = .ok (.iload_n 3, 1) := by decide +kernel
theorem dX8_digest_34 : decode cX8_digest 34 = .ok (.iconst 4, 1) := by decide +kernel
theorem dX8_digest_35 : decode cX8_digest 35 = .ok (.if_icmp .ge 20, 3) := by decide +kernel
theorem dX8_digest_38 : decode cX8_digest 38 = .ok (.aload_n 0, 1) := by decide +kernel
theorem dX8_digest_39 : decode cX8_digest 39 = .ok (.getfield 23, 3) := by decide +kernel
theorem dX8_digest_42 : decode cX8_digest 42 = .ok (.iload_n 3, 1) := by decide +kernel
theorem dX8_digest_43 : decode cX8_digest 43 = .ok (.aaload, 1) := by decide +kernel
theorem dX8_digest_44 : decode cX8_digest 44 = .ok (.lload_n 1, 1) := by decide +kernel
theorem dX8_digest_45 : decode cX8_digest 45 = .ok (.invokevirtual 372, 3) := by decide +kernel
theorem dX8_digest_48 : decode cX8_digest 48 = .ok (.lstore_n 1, 1) := by decide +kernel
theorem dX8_digest_49 : decode cX8_digest 49 = .ok (.iinc 3 1, 3) := by decide +kernel
theorem dX8_digest_52 : decode cX8_digest 52 = .ok (.goto (-19), 3) := by decide +kernel
theorem dX8_digest_55 : decode cX8_digest 55 = .ok (.iconst 0, 1) := by decide +kernel
theorem dX8_digest_56 : decode cX8_digest 56 = .ok (.istore_n 3, 1) := by decide +kernel
theorem dX8_digest_57 : decode cX8_digest 57 = .ok (.iload_n 3, 1) := by decide +kernel
theorem dX8_digest_58 : decode cX8_digest 58 = .ok (.iconst 4, 1) := by decide +kernel
theorem dX8_digest_59 : decode cX8_digest 59 = .ok (.if_icmp .ge 20, 3) := by decide +kernel
theorem dX8_digest_62 : decode cX8_digest 62 = .ok (.aload_n 0, 1) := by decide +kernel
theorem dX8_digest_63 : decode cX8_digest 63 = .ok (.getfield 29, 3) := by decide +kernel
theorem dX8_digest_66 : decode cX8_digest 66 = .ok (.iload_n 3, 1) := by decide +kernel
theorem dX8_digest_67 : decode cX8_digest 67 = .ok (.aaload, 1) := by decide +kernel
theorem dX8_digest_68 : decode cX8_digest 68 = .ok (.lload_n 1, 1) := by decide +kernel
theorem dX8_digest_69 : decode cX8_digest 69 = .ok (.invokevirtual 376, 3) := by decide +kernel
theorem dX8_digest_72 : decode cX8_digest 72 = .ok (.lstore_n 1, 1) := by decide +kernel
theorem dX8_digest_73 : decode cX8_digest 73 = .ok (.iinc 3 1, 3) := by decide +kernel
theorem dX8_digest_76 : decode cX8_digest 76 = .ok (.goto (-19), 3) := by decide +kernel
theorem dX8_digest_79 : decode cX8_digest 79 = .ok (.aload_n 0, 1) := by decide +kernel
theorem dX8_digest_80 : decode cX8_digest 80 = .ok (.getfield 36, 3) := by decide +kernel
theorem dX8_digest_83 : decode cX8_digest 83 = .ok (.lload_n 1, 1) := by decide +kernel
theorem dX8_digest_84 : decode cX8_digest 84 = .ok (.invokevirtual 377, 3) := by decide +kernel
theorem dX8_digest_87 : decode cX8_digest 87 = .ok (.lstore_n 1, 1) := by decide +kernel
theorem dX8_digest_88 : decode cX8_digest 88 = .ok (.iconst 0, 1) := by decide +kernel
theorem dX8_digest_89 : decode cX8_digest 89 = .ok (.istore_n 3, 1) := by decide +kernel
theorem dX8_digest_90 : decode cX8_digest 90 = .ok (.iload_n 3, 1) := by decide +kernel
theorem dX8_digest_91 : decode cX8_digest 91 = .ok (.bipush 6, 2) := by decide +kernel
theorem dX8_digest_93 : decode cX8_digest 93 = .ok (.if_icmp .ge 20, 3) := by decide +kernel
theorem dX8_digest_96 : decode cX8_digest 96 = .ok (.aload_n 0, 1) := by decide +kernel
theorem dX8_digest_97 : decode cX8_digest 97 = .ok (.getfield 11, 3) := by decide +kernel
theorem dX8_digest_100 : decode cX8_digest 100 = .ok (.iload_n 3, 1) := by decide +kernel
theorem dX8_digest_101 : decode cX8_digest 101 = .ok (.aaload, 1) := by decide +kernel
theorem dX8_digest_102 : decode cX8_digest 102 = .ok (.lload_n 1, 1) := by decide +kernel
theorem dX8_digest_103 : decode cX8_digest 103 = .ok (.invokevirtual 378, 3) := by decide +kernel
theorem dX8_digest_106 : decode cX8_digest 106 = .ok (.lstore_n 1, 1) := by decide +kernel
theorem dX8_digest_107 : decode cX8_digest 107 = .ok (.iinc 3 1, 3) := by decide +kernel
theorem dX8_digest_110 : decode cX8_digest 110 = .ok (.goto (-20), 3) := by decide +kernel
theorem dX8_digest_113 : decode cX8_digest 113 = .ok (.iconst 0, 1) := by decide +kernel
theorem dX8_digest_114 : decode cX8_digest 114 = .ok (.istore_n 3, 1) := by decide +kernel
theorem dX8_digest_115 : decode cX8_digest 115 = .ok (.iload_n 3, 1) := by decide +kernel
theorem dX8_digest_116 : decode cX8_digest 116 = .ok (.iconst 4, 1) := by decide +kernel
theorem dX8_digest_117 : decode cX8_digest 117 = .ok (.if_icmp .ge 20, 3) := by decide +kernel
theorem dX8_digest_120 : decode cX8_digest 120 = .ok (.aload_n 0, 1) := by decide +kernel
theorem dX8_digest_121 : decode cX8_digest 121 = .ok (.getfield 17, 3) := by decide +kernel
theorem dX8_digest_124 : decode cX8_digest 124 = .ok (.iload_n 3, 1) := by decide +kernel
theorem dX8_digest_125 : decode cX8_digest 125 = .ok (.aaload, 1) := by decide +kernel
theorem dX8_digest_126 : decode cX8_digest 126 = .ok (.lload_n 1, 1) := by decide +kernel
theorem dX8_digest_127 : decode cX8_digest 127 = .ok (.invokevirtual 379, 3) := by decide +kernel
theorem dX8_digest_130 : decode cX8_digest 130 = .ok (.lstore_n 1, 1) := by decide +kernel
theorem dX8_digest_131 : decode cX8_digest 131 = .ok (.iinc 3 1, 3) := by decide +kernel
theorem dX8_digest_134 : decode cX8_digest 134 = .ok (.goto (-19), 3) := by decide +kernel
theorem dX8_digest_137 : decode cX8_digest 137 = .ok (.lload_n 1, 1) := by decide +kernel
theorem dX8_digest_138 : decode cX8_digest 138 = .ok (.lreturn, 1) := by decide +kernel
theorem dX9_init_0 : decode cX9_init 0 = .ok (.aload_n 0, 1) := by decide +kernel
theorem dX9_init_1 : decode cX9_init 1 = .ok (.invokespecial 1, 3) := by decide +kernel
theorem dX9_init_4 : decode cX9_init 4 = .ok (.aload_n 0, 1) := by decide +kernel
theorem dX9_init_5 : decode cX9_init 5 = .ok (.bipush 6, 2) := by decide +kernel
theorem dX9_init_7 : decode cX9_init 7 = .ok (.newarray .int, 2) := by decide +kernel
theorem dX9_init_9 : decode cX9_init 9 = .ok (.putfield 7, 3) := by decide +kernel
theorem dX9_init_12 : decode cX9_init 12 = .ok (.aload_n 0, 1) := by decide +kernel
theorem dX9_init_13 : decode cX9_init 13 = .ok (.bipush 6, 2) := by decide +kernel
theorem dX9_init_15 : decode cX9_init 15 = .ok (.newarray .int, 2) := by decide +kernel
theorem dX9_init_17 : decode cX9_init 17 = .ok (.putfield 13, 3) := by decide +kernel
theorem dX9_init_20 : decode cX9_init 20 = .ok (.aload_n 0, 1) := by decide +kernel
theorem dX9_init_21 : decode cX9_init 21 = .ok (.sipush 360, 3) := by decide +kernel
theorem dX9_init_24 : decode cX9_init 24 = .ok (.newarray .int, 2) := by decide +kernel
theorem dX9_init_26 : decode cX9_init 26 = .ok (.putfield 16, 3) := by decide +kernel
theorem dX9_init_29 : decode cX9_init 29 = .ok (.aload_n 0, 1) := by decide +kernel
theorem dX9_init_30 : decode cX9_init 30 = .ok (.bipush 60, 2) := by decide +kernel
theorem dX9_init_32 : decode cX9_init 32 = .ok (.newarray .int, 2) := by decide +kernel
theorem dX9_init_34 : decode cX9_init 34 = .ok (.putfield 19, 3) := by decide +kernel
theorem dX9_init_37 : decode cX9_init 37 = .ok (.aload_n 0, 1) := by decide +kernel
theorem dX9_init_38 : decode cX9_init 38 = .ok (.iconst 4, 1) := by decide +kernel
theorem dX9_init_39 : decode cX9_init 39 = .ok (.newarray .int, 2) := by decide +kernel
theorem dX9_init_41 : decode cX9_init 41 = .ok (.putfield 22, 3) := by decide +kernel
theorem dX9_init_44 : decode cX9_init 44 = .ok (.aload_n 0, 1) := by decide +kernel
theorem dX9_init_45 : decode cX9_init 45 = .ok (.sipush 320, 3) := by decide +kernel
theorem dX9_init_48 : decode cX9_init 48 = .ok (.newarray .byte, 2) := by decide +kernel
theorem dX9_init_50 : decode cX9_init 50 = .ok (.putfield 25, 3) := by decide +kernel
theorem dX9_init_53 : decode cX9_init 53 = .ok (.aload_n 0, 1) := by decide +kernel
theorem dX9_init_54 : decode cX9_init 54 = .ok (.iconst 4, 1) := by decide +kernel
theorem dX9_init_55 : decode cX9_init 55 = .ok (.newarray .boolean, 2) := by decide +kernel
theorem dX9_init_57 : decode cX9_init 57 = .ok (.putfield 29, 3) := by decide +kernel
theorem dX9_init_60 : decode cX9_init 60 = .ok (.aload_n 0, 1) := by decide +kernel
theorem dX9_init_61 : decode cX9_init 61 = .ok (.bipush 28, 2) := by decide +kernel
theorem dX9_init_63 : decode cX9_init 63 = .ok (.newarray .int, 2) := by decide +kernel
theorem dX9_init_65 : decode cX9_init 65 = .ok (.putfield 33, 3) := by decide +kernel
theorem dX9_init_68 : decode cX9_init 68 = .ok (.aload_n 0, 1) := by decide +kernel
theorem dX9_init_69 : decode cX9_init 69 = .ok (.iconst 4, 1) := by decide +kernel
theorem dX9_init_70 : decode cX9_init 70 = .ok (.newarray .boolean, 2) := by decide +kernel
theorem dX9_init_72 : decode cX9_init 72 = .ok (.putfield 36, 3) := by decide +kernel
theorem dX9_init_75 : decode cX9_init 75 = .ok (.aload_n 0, 1) := by decide +kernel
theorem dX9_init_76 : decode cX9_init 76 = .ok (.sipush 404, 3) := by decide +kernel
theorem dX9_init_79 : decode cX9_init 79 = .ok (.newarray .int, 2) := by decide +kernel
theorem dX9_init_81 : decode cX9_init 81 = .ok (.putfield 39, 3) := by decide +kernel
theorem dX9_init_84 : decode cX9_init 84 = .ok (.aload_n 0, 1) := by decide +kernel
theorem dX9_init_85 : decode cX9_init 85 = .ok (.bipush 7, 2) := by decide +kernel
theorem dX9_init_87 : decode cX9_init 87 = .ok (.newarray .int, 2) := by decide +kernel
theorem dX9_init_89 : decode cX9_init 89 = .ok (.putfield 42, 3) := by decide +kernel
theorem dX9_init_92 : decode cX9_init 92 = .ok (.aload_n 0, 1) := by decide +kernel
theorem dX9_init_93 : decode cX9_init 93 = .ok (.bipush 101, 2) := by decide +kernel
theorem dX9_init_95 : decode cX9_init 95 = .ok (.newarray .int, 2) := by decide +kernel
theorem dX9_init_97 : decode cX9_init 97 = .ok (.putfield 45, 3) := by decide +kernel
theorem dX9_init_100 : decode cX9_init 100 = .ok (.aload_n 0, 1) := by decide +kernel
theorem dX9_init_101 : decode cX9_init 101 = .ok (.bipush 6, 2) := by decide +kernel
theorem dX9_init_103 : decode cX9_init 103 = .ok (.newarray .int, 2) := by decide +kernel
theorem dX9_init_105 : decode cX9_init 105 = .ok (.putfield 48, 3) := by decide +kernel
theorem dX9_init_108 : decode cX9_init 108 = .ok (.aload_n 0, 1) := by decide +kernel
theorem dX9_init_109 : decode cX9_init 109 = .ok (.iconst 2, 1) := by decide +kernel
theorem dX9_init_110 : decode cX9_init 110 = .ok (.newarray .int, 2) := by decide +kernel
theorem dX9_init_112 : decode cX9_init 112 = .ok (.putfield 51, 3) := by decide +kernel
theorem dX9_init_115 : decode cX9_init 115 = .ok (.aload_n 0, 1) := by decide +kernel
theorem dX9_init_116 : decode cX9_init 116 = .ok (.iconst 4, 1) := by decide +kernel
theorem dX9_init_117 : decode cX9_init 117 = .ok (.newarray .boolean, 2) := by decide +kernel
theorem dX9_init_119 : decode cX9_init 119 = .ok (.putfield 54, 3) := by decide +kernel
theorem dX9_init_122 : decode cX9_init 122 = .ok (.aload_n 0, 1) := by decide +kernel
theorem dX9_init_123 : decode cX9_init 123 = .ok (.sipush 456, 3) := by decide +kernel
theorem dX9_init_126 : decode cX9_init 126 = .ok (.newarray .int, 2) := by decide +kernel
theorem dX9_init_128 : decode cX9_init 128 = .ok (.putfield 57, 3) := by decide +kernel
theorem dX9_init_131 : decode cX9_init 131 = .ok (.aload_n 0, 1) := by decide +kernel
theorem dX9_init_132 : decode cX9_init 132 = .ok (.sipush 400, 3) := by decide +kernel
theorem dX9_init_135 : decode cX9_init 135 = .ok (.newarray .int, 2) := by decide +kernel
theorem dX9_init_137 : decode cX9_init 137 = .ok (.putfield 60, 3) := by decide +kernel
theorem dX9_init_140 : decode cX9_init 140 = .ok (.aload_n 0, 1) := by decide +kernel
theorem dX9_init_141 : decode cX9_init 141 = .ok (.sipush 401, 3) := by decide +kernel
theorem dX9_init_144 : decode cX9_init 144 = .ok (.newarray .int, 2) := by decide +kernel
theorem dX9_init_146 : decode cX9_init 146 = .ok (.putfield 63, 3) := by decide +kernel
theorem dX9_init_149 : decode cX9_init 149 = .ok (.aload_n 0, 1) := by decide +kernel
theorem dX9_init_150 : decode cX9_init 150 = .ok (.sipush 400, 3) := by decide +kernel
theorem dX9_init_153 : decode cX9_init 153 = .ok (.newarray .boolean, 2) := by decide +kernel
theorem dX9_init_155 : decode cX9_init 155 = .ok (.putfield 66, 3) := by decide +kernel
theorem dX9_init_158 : decode cX9_init 158 = .ok (.aload_n 0, 1) := by decide +kernel
theorem dX9_init_159 : decode cX9_init 159 = .ok (.sipush 401, 3) := by decide +kernel
theorem dX9_init_162 : decode cX9_init 162 = .ok (.newarray .int, 2) := by decide +kernel
theorem dX9_init_164 : decode cX9_init 164 = .ok (.putfield 69, 3) := by decide +kernel
theorem dX9_init_167 : decode cX9_init 167 = .ok (.aload_n 0, 1) := by decide +kernel
theorem dX9_init_168 : decode cX9_init 168 = .ok (.lconst 1, 1) := by decide +kernel
theorem dX9_init_169 : decode cX9_init 169 = .ok (.putfield 72, 3) := by decide +kernel
theorem dX9_init_172 : decode cX9_init 172 = .ok (.iconst 0, 1) := by decide +kernel
theorem dX9_init_173 : decode cX9_init 173 = .ok (.istore_n 1, 1) := by decide +kernel
theorem dX9_init_174 : decode cX9_init 174 = .ok (.iload_n 1, 1) := by decide +kernel
theorem dX9_init_175 : decode cX9_init 175 = .ok (.bipush 6, 2) := by decide +kernel
theorem dX9_init_177 : decode cX9_init 177 = .ok (.if_icmp .ge 16, 3) := by decide +kernel
theorem dX9_init_180 : decode cX9_init 180 = .ok (.aload_n 0, 1) := by decide +kernel
theorem dX9_init_181 : decode cX9_init 181 = .ok (.getfield 13, 3) := by decide +kernel
theorem dX9_init_184 : decode cX9_init 184 = .ok (.iload_n 1, 1) := by decide +kernel
theorem dX9_init_185 : decode cX9_init 185 = .ok (.iconst (-1), 1) := by decide +kernel
theorem dX9_init_186 : decode cX9_init 186 = .ok (.iastore, 1) := by decide +kernel
theorem dX9_init_187 : decode cX9_init 187 = .ok (.iinc 1 1, 3) := by decide +kernel
theorem dX9_init_190 : decode cX9_init 190 = .ok (.goto (-16), 3) := by decide +kernel
theorem dX9_init_193 : decode cX9_init 193 = .ok (.iconst 0, 1) := by decide +kernel
theorem dX9_init_194 : decode cX9_init 194 = .ok (.istore_n 1, 1) := by decide +kernel
theorem dX9_init_195 : decode cX9_init 195 = .ok (.iload_n 1, 1) := by decide +kernel
theorem dX9_init_196 : decode cX9_init 196 = .ok (.iconst 4, 1) := by decide +kernel
theorem dX9_init_197 : decode cX9_init 197 = .ok (.if_icmp .ge 16, 3) := by decide +kernel
theorem dX9_init_200 : decode cX9_init 200 = .ok (.aload_n 0, 1) := by decide +kernel
theorem dX9_init_201 : decode cX9_init 201 = .ok (.getfield 22, 3) := by decide +kernel
theorem dX9_init_204 : decode cX9_init 204 = .ok (.iload_n 1, 1) := by decide +kernel
theorem dX9_init_205 : decode cX9_init 205 = .ok (.iconst (-1), 1) := by decide +kernel
theorem dX9_init_206 : decode cX9_init 206 = .ok (.iastore, 1) := by decide +kernel
theorem dX9_init_207 : decode cX9_init 207 = .ok (.iinc 1 1, 3) := by decide +kernel
theorem dX9_init_210 : decode cX9_init 210 = .ok (.goto (-15), 3) := by decide +kernel
theorem dX9_init_213 : decode cX9_init 213 = .ok (.return_, 1) := by decide +kernel
theorem dX9_in_0 : decode cX9_in 0 = .ok (.iload_n 0, 1) := by decide +kernel
theorem dX9_in_1 : decode cX9_in 1 = .ok (.iload_n 1, 1) := by decide +kernel
theorem dX9_in_2 : decode cX9_in 2 = .ok (.if_icmp .lt 12, 3) := by decide +kernel
theorem dX9_in_5 : decode cX9_in 5 = .ok (.iload_n 0, 1) := by decide +kernel
theorem dX9_in_6 : decode cX9_in 6 = .ok (.iload_n 2, 1) := by decide +kernel
theorem dX9_in_7 : decode cX9_in 7 = .ok (.if_icmp .gt 7, 3) := by decide +kernel
theorem dX9_in_10 : decode cX9_in 10 = .ok (.iconst 1, 1) := by decide +kernel
theorem dX9_in_11 : decode cX9_in 11 = .ok (.goto 4, 3) := by decide +kernel
theorem dX9_in_14 : decode cX9_in 14 = .ok (.iconst 0, 1) := by decide +kernel
theorem dX9_in_15 : decode cX9_in 15 = .ok (.ireturn, 1) := by decide +kernel
theorem dX9_lesser_0 : decode cX9_lesser 0 = .ok (.iload_n 0, 1) := by decide +kernel
theorem dX9_lesser_1 : decode cX9_lesser 1 = .ok (.iload_n 1, 1) := by decide +kernel
theorem dX9_lesser_2 : decode cX9_lesser 2 = .ok (.if_icmp .ge 7, 3) := by decide +kernel
theorem dX9_lesser_5 : decode cX9_lesser 5 = .ok (.iload_n 0, 1) := by decide +kernel
theorem dX9_lesser_6 : decode cX9_lesser 6 = .ok (.goto 4, 3) := by decide +kernel
theorem dX9_lesser_9 : decode cX9_lesser 9 = .ok (.iload_n 1, 1) := by decide +kernel
theorem dX9_lesser_10 : decode cX9_lesser 10 = .ok (.ireturn, 1) := by decide +kernel
theorem dX9_greater_0 : decode cX9_greater 0 = .ok (.iload_n 0, 1) := by decide +kernel
theorem dX9_greater_1 : decode cX9_greater 1 = .ok (.iload_n 1, 1) := by decide +kernel
theorem dX9_greater_2 : decode cX9_greater 2 = .ok (.if_icmp .le 7, 3) := by decide +kernel
theorem dX9_greater_5 : decode cX9_greater 5 = .ok (.iload_n 0, 1) := by decide +kernel
theorem dX9_greater_6 : decode cX9_greater 6 = .ok (.goto 4, 3) := by decide +kernel
theorem dX9_greater_9 : decode cX9_greater 9 = .ok (.iload_n 1, 1) := by decide +kernel
theorem dX9_greater_10 : decode cX9_greater 10 = .ok (.ireturn, 1) := by decide +kernel
theorem dX9_notes_0 : decode cX9_notes 0 = .ok (.aload_n 0, 1) := by decide +kernel
theorem dX9_notes_1 : decode cX9_notes 1 = .ok (.iload_n 1, 1) := by decide +kernel
theorem dX9_notes_2 : decode cX9_notes 2 = .ok (.putfield 76, 3) := by decide +kernel
theorem dX9_notes_5 : decode cX9_notes 5 = .ok (.aload_n 0, 1) := by decide +kernel
theorem dX9_notes_6 : decode cX9_notes 6 = .ok (.getfield 7, 3) := by decide +kernel
theorem dX9_notes_9 : decode cX9_notes 9 = .ok (.iload_n 1, 1) := by decide +kernel
theorem dX9_notes_10 : decode cX9_notes 10 = .ok (.dup2, 1) := by decide +kernel
theorem dX9_notes_11 : decode cX9_notes 11 = .ok (.iaload, 1) := by decide +kernel
theorem dX9_notes_12 : decode cX9_notes 12 = .ok (.iconst 1, 1) := by decide +kernel
theorem dX9_notes_13 : decode cX9_notes 13 = .ok (.iadd, 1) := by decide +kernel
theorem dX9_notes_14 : decode cX9_notes 14 = .ok (.iastore, 1) := by decide +kernel
theorem dX9_notes_15 : decode cX9_notes 15 = .ok (.bipush (-3), 2) := by decide +kernel
theorem dX9_notes_17 : decode cX9_notes 17 = .ok (.ireturn, 1) := by decide +kernel
theorem dX9_finding_0 : decode cX9_finding 0 = .ok (.aload_n 0, 1) := by decide +kernel
theorem dX9_finding_1 : decode cX9_finding 1 = .ok (.getfield 76, 3) := by decide +kernel
theorem dX9_finding_4 : decode cX9_finding 4 = .ok (.ireturn, 1) := by decide +kernel
theorem dX9_findings_0 : decode cX9_findings 0 = .ok (.iload_n 1, 1) := by decide +kernel
theorem dX9_findings_1 : decode cX9_findings 1 = .ok (.iconst 1, 1) := by decide +kernel
theorem dX9_findings_2 : decode cX9_findings 2 = .ok (.iconst 5, 1) := by decide +kernel
theorem dX9_findings_3 : decode cX9_findings 3 = .ok (.invokestatic 80, 3) := by decide +kernel
theorem dX9_findings_6 : decode cX9_findings 6 = .ok (.ifCond .eq 12, 3) := by decide +kernel
theorem dX9_findings_9 : decode cX9_findings 9 = .ok (.aload_n 0, 1) := by decide +kernel
theorem dX9_findings_10 : decode cX9_findings 10 = .ok (.getfield 7, 3) := by decide +kernel
theorem dX9_findings_13 : decode cX9_findings 13 = .ok (.iload_n 1, 1) := by decide +kernel
theorem dX9_findings_14 : decode cX9_findings 14 = .ok (.iaload, 1) := by decide +kernel
theorem dX9_findings_15 : decode cX9_findings 15 = .ok (.goto 4, 3) := by decide +kernel
theorem dX9_findings_18 : decode cX9_findings 18 = .ok (.iconst (-1), 1) := by decide +kernel
theorem dX9_findings_19 : decode cX9_findings 19 = .ok (.ireturn, 1) := by decide +kernel
theorem dX9_tells_0 : decode cX9_tells 0 = .ok (.aload_n 0, 1) := by decide +kernel
theorem dX9_tells_1 : decode cX9_tells 1 = .ok (.iload_n 1, 1) := by decide +kernel
theorem dX9_tells_2 : decode cX9_tells 2 = .ok (.putfield 84, 3) := by decide +kernel
theorem dX9_tells_5 : decode cX9_tells 5 = .ok (.iload_n 2, 1) := by decide +kernel
theorem dX9_tells_6 : decode cX9_tells 6 = .ok (.ireturn, 1) := by decide +kernel
theorem dX9_asked_0 : decode cX9_asked 0 = .ok (.aload_n 0, 1) := by decide +kernel
theorem dX9_asked_1 : decode cX9_asked 1 = .ok (.getfield 84, 3) := by decide +kernel
theorem dX9_asked_4 : decode cX9_asked 4 = .ok (.ireturn, 1) := by decide +kernel
theorem dX9_fraction_0 : decode cX9_fraction 0 = .ok (.lload_n 1, 1) := by decide +kernel
theorem dX9_fraction_1 : decode cX9_fraction 1 = .ok (.lstore 6, 2) := by decide +kernel
theorem dX9_fraction_3 : decode cX9_fraction 3 = .ok (.lload_n 3, 1) := by decide +kernel
theorem dX9_fraction_4 : decode cX9_fraction 4 = .ok (.lstore 8, 2) := by decide +kernel
theorem dX9_fraction_6 : decode cX9_fraction 6 = .ok (.lload 8, 2) := by decide +kernel
theorem dX9_fraction_8 : decode cX9_fraction 8 = .ok (.lconst 0, 1) := by decide +kernel
theorem dX9_fraction_9 : decode cX9_fraction 9 = .ok (.lcmp, 1) := by decide +kernel
theorem dX9_fraction_10 : decode cX9_fraction 10 = .ok (.ifCond .eq 21, 3) := by decide +kernel
theorem dX9_fraction_13 : decode cX9_fraction 13 = .ok (.lload 6, 2) := by decide +kernel
theorem dX9_fraction_15 : decode cX9_fraction 15 = .ok (.lload 8, 2) := by decide +kernel
theorem dX9_fraction_17 : decode cX9_fraction 17 = .ok (.lrem, 1) := by decide +kernel
theorem dX9_fraction_18 : decode cX9_fraction 18 = .ok (.lstore 10, 2) := by decide +kernel
theorem dX9_fraction_20 : decode cX9_fraction 20 = .ok (.lload 8, 2) := by decide +kernel
theorem dX9_fraction_22 : decode cX9_fraction 22 = .ok (.lstore 6, 2) := by decide +kernel
theorem dX9_fraction_24 : decode cX9_fraction 24 = .ok (.lload 10, 2) := by decide +kernel
theorem dX9_fraction_26 : decode cX9_fraction 26 = .ok (.lstore 8, 2) := by decide +kernel
theorem dX9_fraction_28 : decode cX9_fraction 28 = .ok (.goto (-22), 3) := by decide +kernel
theorem dX9_fraction_31 : decode cX9_fraction 31 = .ok (.aload_n 0, 1) := by decide +kernel
theorem dX9_fraction_32 : decode cX9_fraction 32 = .ok (.lload_n 1, 1) := by decide +kernel
theorem dX9_fraction_33 : decode cX9_fraction 33 = .ok (.lload 6, 2) := by decide +kernel
theorem dX9_fraction_35 : decode cX9_fraction 35 = .ok (.ldiv, 1) := by decide +kernel
theorem dX9_fraction_36 : decode cX9_fraction 36 = .ok (.putfield 87, 3) := by decide +kernel
theorem dX9_fraction_39 : decode cX9_fraction 39 = .ok (.aload_n 0, 1) := by decide +kernel
theorem dX9_fraction_40 : decode cX9_fraction 40 = .ok (.lload_n 3, 1) := by decide +kernel
theorem dX9_fraction_41 : decode cX9_fraction 41 = .ok (.lload 6, 2) := by decide +kernel
theorem dX9_fraction_43 : decode cX9_fraction 43 = .ok (.ldiv, 1) := by decide +kernel
theorem dX9_fraction_44 : decode cX9_fraction 44 = .ok (.putfield 72, 3) := by decide +kernel
theorem dX9_fraction_47 : decode cX9_fraction 47 = .ok (.iload 5, 2) := by decide +kernel
theorem dX9_fraction_49 : decode cX9_fraction 49 = .ok (.ireturn, 1) := by decide +kernel
theorem dX9_upper_0 : decode cX9_upper 0 = .ok (.aload_n 0, 1) := by decide +kernel
theorem dX9_upper_1 : decode cX9_upper 1 = .ok (.getfield 87, 3) := by decide +kernel
theorem dX9_upper_4 : decode cX9_upper 4 = .ok (.lreturn, 1) := by decide +kernel
theorem dX9_lower_0 : decode cX9_lower 0 = .ok (.aload_n 0, 1) := by decide +kernel
theorem dX9_lower_1 : decode cX9_lower 1 = .ok (.getfield 72, 3) := by decide +kernel
theorem dX9_lower_4 : decode cX9_lower 4 = .ok (.lreturn, 1) := by decide +kernel
theorem dX9_isRow_0 : decode cX9_isRow 0 = .ok (.iload_n 0, 1) := by decide +kernel
theorem dX9_isRow_1 : decode cX9_isRow 1 = .ok (.iconst 0, 1) := by decide +kernel
theorem dX9_isRow_2 : decode cX9_isRow 2 = .ok (.iconst 5, 1) := by decide +kernel
theorem dX9_isRow_3 : decode cX9_isRow 3 = .ok (.invokestatic 80, 3) := by decide +kernel
theorem dX9_isRow_6 : decode cX9_isRow 6 = .ok (.ireturn, 1) := by decide +kernel
theorem dX9_rowAt_0 : decode cX9_rowAt 0 = .ok (.aload_n 0, 1) := by decide +kernel
theorem dX9_rowAt_1 : decode cX9_rowAt 1 = .ok (.getfield 16, 3) := by decide +kernel
theorem dX9_rowAt_4 : decode cX9_rowAt 4 = .ok (.bipush 60, 2) := by decide +kernel
theorem dX9_rowAt_6 : decode cX9_rowAt 6 = .ok (.iload_n 1, 1) := by decide +kernel
theorem dX9_rowAt_7 : decode cX9_rowAt 7 = .ok (.imul, 1) := by decide +kernel
theorem dX9_rowAt_8 : decode cX9_rowAt 8 = .ok (.iload_n 2, 1) := by decide +kernel
theorem dX9_rowAt_9 : decode cX9_rowAt 9 = .ok (.iadd, 1) := by decide +kernel
theorem dX9_rowAt_10 : decode cX9_rowAt 10 = .ok (.iaload, 1) := by decide +kernel
theorem dX9_rowAt_11 : decode cX9_rowAt 11 = .ok (.ireturn, 1) := by decide +kernel
theorem dX9_row_0 : decode cX9_row 0 = .ok (.iload_n 1, 1) := by decide +kernel
theorem dX9_row_1 : decode cX9_row 1 = .ok (.invokestatic 90, 3) := by decide +kernel
theorem dX9_row_4 : decode cX9_row 4 = .ok (.ifCond .eq 9, 3) := by decide +kernel
theorem dX9_row_7 : decode cX9_row 7 = .ok (.iload_n 2, 1) := by decide +kernel
theorem dX9_row_8 : decode cX9_row 8 = .ok (.bipush 60, 2) := by decide +kernel
theorem dX9_row_10 : decode cX9_row 10 = .ok (.if_icmp .le 5, 3) := by decide +kernel
theorem dX9_row_13 : decode cX9_row 13 = .ok (.iconst (-1), 1) := by decide +kernel
theorem dX9_row_14 : decode cX9_row 14 = .ok (.ireturn, 1) := by decide +kernel
theorem dX9_row_15 : decode cX9_row 15 = .ok (.iload_n 2, 1) := by decide +kernel
theorem dX9_row_16 : decode cX9_row 16 = .ok (.ifCond .ge 9, 3) := by decide +kernel
theorem dX9_row_19 : decode cX9_row 19 = .ok (.aload_n 0, 1) := by decide +kernel
theorem dX9_row_20 : decode cX9_row 20 = .ok (.iconst 5, 1) := by decide +kernel
theorem dX9_row_21 : decode cX9_row 21 = .ok (.invokevirtual 94, 3) := by decide +kernel
theorem dX9_row_24 : decode cX9_row 24 = .ok (.ireturn, 1) := by decide +kernel
theorem dX9_row_25 : decode cX9_row 25 = .ok (.aload_n 0, 1) := by decide +kernel
theorem dX9_row_26 : decode cX9_row 26 = .ok (.getfield 13, 3) := by decide +kernel
theorem dX9_row_29 : decode cX9_row 29 = .ok (.iload_n 1, 1) := by decide +kernel
theorem dX9_row_30 : decode cX9_row 30 = .ok (.iload_n 2, 1) := by decide +kernel
theorem dX9_row_31 : decode cX9_row 31 = .ok (.iastore, 1) := by decide +kernel
theorem dX9_row_32 : decode cX9_row 32 = .ok (.iconst 0, 1) := by decide +kernel
theorem dX9_row_33 : decode cX9_row 33 = .ok (.istore_n 3, 1) := by decide +kernel
theorem dX9_row_34 : decode cX9_row 34 = .ok (.iload_n 3, 1) := by decide +kernel
theorem dX9_row_35 : decode cX9_row 35 = .ok (.bipush 60, 2) := by decide +kernel
theorem dX9_row_37 : decode cX9_row 37 = .ok (.if_icmp .ge 21, 3) := by decide +kernel
theorem dX9_row_40 : decode cX9_row 40 = .ok (.aload_n 0, 1) := by decide +kernel
theorem dX9_row_41 : decode cX9_row 41 = .ok (.getfield 16, 3) := by decide +kernel
theorem dX9_row_44 : decode cX9_row 44 = .ok (.bipush 60, 2) := by decide +kernel
theorem dX9_row_46 : decode cX9_row 46 = .ok (.iload_n 1, 1) := by decide +kernel
theorem dX9_row_47 : decode cX9_row 47 = .ok (.imul, 1) := by decide +kernel
theorem dX9_row_48 : decode cX9_row 48 = .ok (.iload_n 3, 1) := by decide +kernel
theorem dX9_row_49 : decode cX9_row 49 = .ok (.iadd, 1) := by decide +kernel
theorem dX9_row_50 : decode cX9_row 50 = .ok (.iconst 0, 1) := by decide +kernel
theorem dX9_row_51 : decode cX9_row 51 = .ok (.iastore, 1) := by decide +kernel
theorem dX9_row_52 : decode cX9_row 52 = .ok (.iinc 3 1, 3) := by decide +kernel
theorem dX9_row_55 : decode cX9_row 55 = .ok (.goto (-21), 3) := by decide +kernel
theorem dX9_row_58 : decode cX9_row 58 = .ok (.iload_n 2, 1) := by decide +kernel
theorem dX9_row_59 : decode cX9_row 59 = .ok (.ireturn, 1) := by decide +kernel
theorem dX9_lay_0 : decode cX9_lay 0 = .ok (.iload_n 1, 1) := by decide +kernel
theorem dX9_lay_1 : decode cX9_lay 1 = .ok (.invokestatic 90, 3) := by decide +kernel
theorem dX9_lay_4 : decode cX9_lay 4 = .ok (.ifCond .ne 5, 3) := by decide +kernel
theorem dX9_lay_7 : decode cX9_lay 7 = .ok (.iconst (-1), 1) := by decide +kernel
theorem dX9_lay_8 : decode cX9_lay 8 = .ok (.ireturn, 1) := by decide +kernel
theorem dX9_lay_9 : decode cX9_lay 9 = .ok (.aload_n 0, 1) := by decide +kernel
theorem dX9_lay_10 : decode cX9_lay 10 = .ok (.getfield 13, 3) := by decide +kernel
theorem dX9_lay_13 : decode cX9_lay 13 = .ok (.iload_n 1, 1) := by decide +kernel
theorem dX9_lay_14 : decode cX9_lay 14 = .ok (.iaload, 1) := by decide +kernel
theorem dX9_lay_15 : decode cX9_lay 15 = .ok (.ifCond .ge 9, 3) := by decide +kernel
theorem dX9_lay_18 : decode cX9_lay 18 = .ok (.aload_n 0, 1) := by decide +kernel
theorem dX9_lay_19 : decode cX9_lay 19 = .ok (.iconst 1, 1) := by decide +kernel
theorem dX9_lay_20 : decode cX9_lay 20 = .ok (.invokevirtual 94, 3) := by decide +kernel
theorem dX9_lay_23 : decode cX9_lay 23 = .ok (.ireturn, 1) := by decide +kernel
theorem dX9_lay_24 : decode cX9_lay 24 = .ok (.iload_n 2, 1) := by decide +kernel
theorem dX9_lay_25 : decode cX9_lay 25 = .ok (.iconst 0, 1) := by decide +kernel
theorem dX9_lay_26 : decode cX9_lay 26 = .ok (.aload_n 0, 1) := by decide +kernel
theorem dX9_lay_27 : decode cX9_lay 27 = .ok (.getfield 13, 3) := by decide +kernel
theorem dX9_lay_30 : decode cX9_lay 30 = .ok (.iload_n 1, 1) := by decide +kernel
theorem dX9_lay_31 : decode cX9_lay 31 = .ok (.iaload, 1) := by decide +kernel
theorem dX9_lay_32 : decode cX9_lay 32 = .ok (.iconst 1, 1) := by decide +kernel
theorem dX9_lay_33 : decode cX9_lay 33 = .ok (.isub, 1) := by decide +kernel
theorem dX9_lay_34 : decode cX9_lay 34 = .ok (.invokestatic 80, 3) := by decide +kernel
theorem dX9_lay_37 : decode cX9_lay 37 = .ok (.ifCond .ne 9, 3) := by decide +kernel
theorem dX9_lay_40 : decode cX9_lay 40 = .ok (.aload_n 0, 1) := by decide +kernel
theorem dX9_lay_41 : decode cX9_lay 41 = .ok (.iconst 2, 1) := by decide +kernel
theorem dX9_lay_42 : decode cX9_lay 42 = .ok (.invokevirtual 94, 3) := by decide +kernel
theorem dX9_lay_45 : decode cX9_lay 45 = .ok (.ireturn, 1) := by decide +kernel
theorem dX9_lay_46 : decode cX9_lay 46 = .ok (.aload_n 0, 1) := by decide +kernel
theorem dX9_lay_47 : decode cX9_lay 47 = .ok (.iload_n 1, 1) := by decide +kernel
theorem dX9_lay_48 : decode cX9_lay 48 = .ok (.iload_n 2, 1) := by decide +kernel
theorem dX9_lay_49 : decode cX9_lay 49 = .ok (.invokevirtual 98, 3) := by decide +kernel
theorem dX9_lay_52 : decode cX9_lay 52 = .ok (.istore 4, 2) := by decide +kernel
theorem dX9_lay_54 : decode cX9_lay 54 = .ok (.aload_n 0, 1) := by decide +kernel
theorem dX9_lay_55 : decode cX9_lay 55 = .ok (.getfield 16, 3) := by decide +kernel
theorem dX9_lay_58 : decode cX9_lay 58 = .ok (.bipush 60, 2) := by decide +kernel
theorem dX9_lay_60 : decode cX9_lay 60 = .ok (.iload_n 1, 1) := by decide +kernel
theorem dX9_lay_61 : decode cX9_lay 61 = .ok (.imul, 1) := by decide +kernel
theorem dX9_lay_62 : decode cX9_lay 62 = .ok (.iload_n 2, 1) := by decide +kernel
theorem dX9_lay_63 : decode cX9_lay 63 = .ok (.iadd, 1) := by decide +kernel
theorem dX9_lay_64 : decode cX9_lay 64 = .ok (.iload_n 3, 1) := by decide +kernel
theorem dX9_lay_65 : decode cX9_lay 65 = .ok (.iastore, 1) := by decide +kernel
theorem dX9_lay_66 : decode cX9_lay 66 = .ok (.aload_n 0, 1) := by decide +kernel
theorem dX9_lay_67 : decode cX9_lay 67 = .ok (.iload 4, 2) := by decide +kernel
theorem dX9_lay_69 : decode cX9_lay 69 = .ok (.iconst 1, 1) := by decide +kernel
theorem dX9_lay_70 : decode cX9_lay 70 = .ok (.invokevirtual 102, 3) := by decide +kernel
theorem dX9_lay_73 : decode cX9_lay 73 = .ok (.ireturn, 1) := by decide +kernel
theorem dX9_at_0 : decode cX9_at 0 = .ok (.iload_n 1, 1) := by decide +kernel
theorem dX9_at_1 : decode cX9_at 1 = .ok (.invokestatic 90, 3) := by decide +kernel
theorem dX9_at_4 : decode cX9_at 4 = .ok (.ifCond .ne 5, 3) := by decide +kernel
theorem dX9_at_7 : decode cX9_at 7 = .ok (.iconst (-1), 1) := by decide +kernel
theorem dX9_at_8 : decode cX9_at 8 = .ok (.ireturn, 1) := by decide +kernel
theorem dX9_at_9 : decode cX9_at 9 = .ok (.aload_n 0, 1) := by decide +kernel
theorem dX9_at_10 : decode cX9_at 10 = .ok (.getfield 13, 3) := by decide +kernel
theorem dX9_at_13 : decode cX9_at 13 = .ok (.iload_n 1, 1) := by decide +kernel
theorem dX9_at_14 : decode cX9_at 14 = .ok (.iaload, 1) := by decide +kernel
theorem dX9_at_15 : decode cX9_at 15 = .ok (.ifCond .ge 9, 3) := by decide +kernel
theorem dX9_at_18 : decode cX9_at 18 = .ok (.aload_n 0, 1) := by decide +kernel
theorem dX9_at_19 : decode cX9_at 19 = .ok (.iconst 1, 1) := by decide +kernel
theorem dX9_at_20 : decode cX9_at 20 = .ok (.invokevirtual 94, 3) := by decide +kernel
theorem dX9_at_23 : decode cX9_at 23 = .ok (.ireturn, 1) := by decide +kernel
theorem dX9_at_24 : decode cX9_at 24 = .ok (.iload_n 2, 1) := by decide +kernel
theorem dX9_at_25 : decode cX9_at 25 = .ok (.iconst 0, 1) := by decide +kernel
theorem dX9_at_26 : decode cX9_at 26 = .ok (.aload_n 0, 1) := by decide +kernel
theorem dX9_at_27 : decode cX9_at 27 = .ok (.getfield 13, 3) := by decide +kernel
theorem dX9_at_30 : decode cX9_at 30 = .ok (.iload_n 1, 1) := by decide +kernel
theorem dX9_at_31 : decode cX9_at 31 = .ok (.iaload, 1) := by decide +kernel
theorem dX9_at_32 : decode cX9_at 32 = .ok (.iconst 1, 1) := by decide +kernel
theorem dX9_at_33 : decode cX9_at 33 = .ok (.isub, 1) := by decide +kernel
theorem dX9_at_34 : decode cX9_at 34 = .ok (.invokestatic 80, 3) := by decide +kernel
theorem dX9_at_37 : decode cX9_at 37 = .ok (.ifCond .eq 17, 3) := by decide +kernel
theorem dX9_at_40 : decode cX9_at 40 = .ok (.aload_n 0, 1) := by decide +kernel
theorem dX9_at_41 : decode cX9_at 41 = .ok (.aload_n 0, 1) := by decide +kernel
theorem dX9_at_42 : decode cX9_at 42 = .ok (.iload_n 1, 1) := by decide +kernel
theorem dX9_at_43 : decode cX9_at 43 = .ok (.iload_n 2, 1) := by decide +kernel
theorem dX9_at_44 : decode cX9_at 44 = .ok (.invokevirtual 98, 3) := by decide +kernel
theorem dX9_at_47 : decode cX9_at 47 = .ok (.iconst 1, 1) := by decide +kernel
theorem dX9_at_48 : decode cX9_at 48 = .ok (.invokevirtual 102, 3) := by decide +kernel
theorem dX9_at_51 : decode cX9_at 51 = .ok (.goto 8, 3) := by decide +kernel
theorem dX9_at_54 : decode cX9_at 54 = .ok (.aload_n 0, 1) := by decide +kernel
theorem dX9_at_55 : decode cX9_at 55 = .ok (.iconst 2, 1) := by decide +kernel
theorem dX9_at_56 : decode cX9_at 56 = .ok (.invokevirtual 94, 3) := by decide +kernel
theorem dX9_at_59 : decode cX9_at 59 = .ok (.ireturn, 1) := by decide +kernel
theorem dX9_tear_0 : decode cX9_tear 0 = .ok (.iload_n 1, 1) := by decide +kernel
theorem dX9_tear_1 : decode cX9_tear 1 = .ok (.invokestatic 90, 3) := by decide +kernel
theorem dX9_tear_4 : decode cX9_tear 4 = .ok (.ifCond .ne 5, 3) := by decide +kernel
theorem dX9_tear_7 : decode cX9_tear 7 = .ok (.iconst (-1), 1) := by decide +kernel
theorem dX9_tear_8 : decode cX9_tear 8 = .ok (.ireturn, 1) := by decide +kernel
theorem dX9_tear_9 : decode cX9_tear 9 = .ok (.aload_n 0, 1) := by decide +kernel
theorem dX9_tear_10 : decode cX9_tear 10 = .ok (.getfield 13, 3) := by decide +kernel
theorem dX9_tear_13 : decode cX9_tear 13 = .ok (.iload_n 1, 1) := by decide +kernel
theorem dX9_tear_14 : decode cX9_tear 14 = .ok (.iaload, 1) := by decide +kernel
theorem dX9_tear_15 : decode cX9_tear 15 = .ok (.ifCond .ge 9, 3) := by decide +kernel
theorem dX9_tear_18 : decode cX9_tear 18 = .ok (.aload_n 0, 1) := by decide +kernel
theorem dX9_tear_19 : decode cX9_tear 19 = .ok (.iconst 1, 1) := by decide +kernel
theorem dX9_tear_20 : decode cX9_tear 20 = .ok (.invokevirtual 94, 3) := by decide +kernel
theorem dX9_tear_23 : decode cX9_tear 23 = .ok (.ireturn, 1) := by decide +kernel
theorem dX9_tear_24 : decode cX9_tear 24 = .ok (.aload_n 0, 1) := by decide +kernel
theorem dX9_tear_25 : decode cX9_tear 25 = .ok (.getfield 13, 3) := by decide +kernel
theorem dX9_tear_28 : decode cX9_tear 28 = .ok (.iload_n 1, 1) := by decide +kernel
theorem dX9_tear_29 : decode cX9_tear 29 = .ok (.iconst (-1), 1) := by decide +kernel
theorem dX9_tear_30 : decode cX9_tear 30 = .ok (.iastore, 1) := by decide +kernel
theorem dX9_tear_31 : decode cX9_tear 31 = .ok (.iconst 1, 1) := by decide +kernel
theorem dX9_tear_32 : decode cX9_tear 32 = .ok (.ireturn, 1) := by decide +kernel
theorem dX9_copy_0 : decode cX9_copy 0 = .ok (.iload_n 1, 1) := by decide +kernel
theorem dX9_copy_1 : decode cX9_copy 1 = .ok (.invokestatic 90, 3) := by decide +kernel
theorem dX9_copy_4 : decode cX9_copy 4 = .ok (.ifCond .eq 10, 3) := by decide +kernel
theorem dX9_copy_7 : decode cX9_copy 7 = .ok (.iload_n 3, 1) := by decide +kernel
theorem dX9_copy_8 : decode cX9_copy 8 = .ok (.invokestatic 90, 3) := by decide +kernel
theorem dX9_copy_11 : decode cX9_copy 11 = .ok (.ifCond .ne 5, 3) := by decide +kernel
theorem dX9_copy_14 : decode cX9_copy 14 = .ok (.iconst (-1), 1) := by decide +kernel
theorem dX9_copy_15 : decode cX9_copy 15 = .ok (.ireturn, 1) := by decide +kernel
theorem dX9_copy_16 : decode cX9_copy 16 = .ok (.iload 5, 2) := by decide +kernel
theorem dX9_copy_18 : decode cX9_copy 18 = .ok (.ifCond .ge 9, 3) := by decide +kernel
theorem dX9_copy_21 : decode cX9_copy 21 = .ok (.aload_n 0, 1) := by decide +kernel
theorem dX9_copy_22 : decode cX9_copy 22 = .ok (.iconst 5, 1) := by decide +kernel
theorem dX9_copy_23 : decode cX9_copy 23 = .ok (.invokevirtual 94, 3) := by decide +kernel
theorem dX9_copy_26 : decode cX9_copy 26 = .ok (.ireturn, 1) := by decide +kernel
theorem dX9_copy_27 : decode cX9_copy 27 = .ok (.aload_n 0, 1) := by decide +kernel
theorem dX9_copy_28 : decode cX9_copy 28 = .ok (.getfield 13, 3) := by decide +kernel
theorem dX9_copy_31 : decode cX9_copy 31 = .ok (.iload_n 1, 1) := by decide +kernel
theorem dX9_copy_32 : decode cX9_copy 32 = .ok (.iaload, 1) := by decide +kernel
theorem dX9_copy_33 : decode cX9_copy 33 = .ok (.ifCond .lt 12, 3) := by decide +kernel
theorem dX9_copy_36 : decode cX9_copy 36 = .ok (.aload_n 0, 1) := by decide +kernel
theorem dX9_copy_37 : decode cX9_copy 37 = .ok (.getfield 13, 3) := by decide +kernel
theorem dX9_copy_40 : decode cX9_copy 40 = .ok (.iload_n 3, 1) := by decide +kernel
theorem dX9_copy_41 : decode cX9_copy 41 = .ok (.iaload, 1) := by decide +kernel
theorem dX9_copy_42 : decode cX9_copy 42 = .ok (.ifCond .ge 9, 3) := by decide +kernel
theorem dX9_copy_45 : decode cX9_copy 45 = .ok (.aload_n 0, 1) := by decide +kernel
theorem dX9_copy_46 : decode cX9_copy 46 = .ok (.iconst 1, 1) := by decide +kernel
theorem dX9_copy_47 : decode cX9_copy 47 = .ok (.invokevirtual 94, 3) := by decide +kernel
theorem dX9_copy_50 : decode cX9_copy 50 = .ok (.ireturn, 1) := by decide +kernel
theorem dX9_copy_51 : decode cX9_copy 51 = .ok (.iload_n 2, 1) := by decide +kernel
theorem dX9_copy_52 : decode cX9_copy 52 = .ok (.ifCond .lt 43, 3) := by decide +kernel
theorem dX9_copy_55 : decode cX9_copy 55 = .ok (.iload 4, 2) := by decide +kernel
theorem dX9_copy_57 : decode cX9_copy 57 = .ok (.ifCond .lt 38, 3) := by decide +kernel
theorem dX9_copy_60 : decode cX9_copy 60 = .ok (.iload_n 2, 1) := by decide +kernel
theorem dX9_copy_61 : decode cX9_copy 61 = .ok (.i2l, 1) := by decide +kernel
theorem dX9_copy_62 : decode cX9_copy 62 = .ok (.iload 5, 2) := by decide +kernel
theorem dX9_copy_64 : decode cX9_copy 64 = .ok (.i2l, 1) := by decide +kernel
theorem dX9_copy_65 : decode cX9_copy 65 = .ok (.ladd, 1) := by decide +kernel
theorem dX9_copy_66 : decode cX9_copy 66 = .ok (.aload_n 0, 1) := by decide +kernel
theorem dX9_copy_67 : decode cX9_copy 67 = .ok (.getfield 13, 3) := by decide +kernel
theorem dX9_copy_70 : decode cX9_copy 70 = .ok (.iload_n 1, 1) := by decide +kernel
theorem dX9_copy_71 : decode cX9_copy 71 = .ok (.iaload, 1) := by decide +kernel
theorem dX9_copy_72 : decode cX9_copy 72 = .ok (.i2l, 1) := by decide +kernel
theorem dX9_copy_73 : decode cX9_copy 73 = .ok (.lcmp, 1) := by decide +kernel
theorem dX9_copy_74 : decode cX9_copy 74 = .ok (.ifCond .gt 21, 3) := by decide +kernel
theorem dX9_copy_77 : decode cX9_copy 77 = .ok (.iload 4, 2) := by decide +kernel
theorem dX9_copy_79 : decode cX9_copy 79 = .ok (.i2l, 1) := by decide +kernel
theorem dX9_copy_80 : decode cX9_copy 80 = .ok (.iload 5, 2) := by decide +kernel
theorem dX9_copy_82 : decode cX9_copy 82 = .ok (.i2l, 1) := by decide +kernel
theorem dX9_copy_83 : decode cX9_copy 83 = .ok (.ladd, 1) := by decide +kernel
theorem dX9_copy_84 : decode cX9_copy 84 = .ok (.aload_n 0, 1) := by decide +kernel
theorem dX9_copy_85 : decode cX9_copy 85 = .ok (.getfield 13, 3) := by decide +kernel
theorem dX9_copy_88 : decode cX9_copy 88 = .ok (.iload_n 3, 1) := by decide +kernel
theorem dX9_copy_89 : decode cX9_copy 89 = .ok (.iaload, 1) := by decide +kernel
theorem dX9_copy_90 : decode cX9_copy 90 = .ok (.i2l, 1) := by decide +kernel
theorem dX9_copy_91 : decode cX9_copy 91 = .ok (.lcmp, 1) := by decide +kernel
theorem dX9_copy_92 : decode cX9_copy 92 = .ok (.ifCond .le 9, 3) := by decide +kernel
theorem dX9_copy_95 : decode cX9_copy 95 = .ok (.aload_n 0, 1) := by decide +kernel
theorem dX9_copy_96 : decode cX9_copy 96 = .ok (.iconst 2, 1) := by decide +kernel
theorem dX9_copy_97 : decode cX9_copy 97 = .ok (.invokevirtual 94, 3) := by decide +kernel
theorem dX9_copy_100 : decode cX9_copy 100 = .ok (.ireturn, 1) := by decide +kernel
theorem dX9_copy_101 : decode cX9_copy 101 = .ok (.iconst 0, 1) := by decide +kernel
theorem dX9_copy_102 : decode cX9_copy 102 = .ok (.istore 6, 2) := by decide +kernel
theorem dX9_copy_104 : decode cX9_copy 104 = .ok (.iload 6, 2) := by decide +kernel
theorem dX9_copy_106 : decode cX9_copy 106 = .ok (.iload 5, 2) := by decide +kernel
theorem dX9_copy_108 : decode cX9_copy 108 = .ok (.if_icmp .ge 25, 3) := by decide +kernel
theorem dX9_copy_111 : decode cX9_copy 111 = .ok (.aload_n 0, 1) := by decide +kernel
theorem dX9_copy_112 : decode cX9_copy 112 = .ok (.getfield 19, 3) := by decide +kernel
theorem dX9_copy_115 : decode cX9_copy 115 = .ok (.iload 6, 2) := by decide +kernel
theorem dX9_copy_117 : decode cX9_copy 117 = .ok (.aload_n 0, 1) := by decide +kernel
theorem dX9_copy_118 : decode cX9_copy 118 = .ok (.iload_n 1, 1) := by decide +kernel
theorem dX9_copy_119 : decode cX9_copy 119 = .ok (.iload_n 2, 1) := by decide +kernel
theorem dX9_copy_120 : decode cX9_copy 120 = .ok (.iload 6, 2) := by decide +kernel
theorem dX9_copy_122 : decode cX9_copy 122 = .ok (.iadd, 1) := by decide +kernel
theorem dX9_copy_123 : decode cX9_copy 123 = .ok (.invokevirtual 98, 3) := by decide +kernel
theorem dX9_copy_126 : decode cX9_copy 126 = .ok (.iastore, 1) := by decide +kernel
theorem dX9_copy_127 : decode cX9_copy 127 = .ok (.iinc 6 1, 3) := by decide +kernel
theorem dX9_copy_130 : decode cX9_copy 130 = .ok (.goto (-26), 3) := by decide +kernel
theorem dX9_copy_133 : decode cX9_copy 133 = .ok (.iconst 0, 1) := by decide +kernel
theorem dX9_copy_134 : decode cX9_copy 134 = .ok (.istore 6, 2) := by decide +kernel
theorem dX9_copy_136 : decode cX9_copy 136 = .ok (.iload 6, 2) := by decide +kernel
theorem dX9_copy_138 : decode cX9_copy 138 = .ok (.iload 5, 2) := by decide +kernel
theorem dX9_copy_140 : decode cX9_copy 140 = .ok (.if_icmp .ge 31, 3) := by decide +kernel
theorem dX9_copy_143 : decode cX9_copy 143 = .ok (.aload_n 0, 1) := by decide +kernel
theorem dX9_copy_144 : decode cX9_copy 144 = .ok (.getfield 16, 3) := by decide +kernel
theorem dX9_copy_147 : decode cX9_copy 147 = .ok (.bipush 60, 2) := by decide +kernel
theorem dX9_copy_149 : decode cX9_copy 149 = .ok (.iload_n 3, 1) := by decide +kernel
theorem dX9_copy_150 : decode cX9_copy 150 = .ok (.imul, 1) := by decide +kernel
theorem dX9_copy_151 : decode cX9_copy 151 = .ok (.iload 4, 2) := by decide +kernel
theorem dX9_copy_153 : decode cX9_copy 153 = .ok (.iadd, 1) := by decide +kernel
theorem dX9_copy_154 : decode cX9_copy 154 = .ok (.iload 6, 2) := by decide +kernel
theorem dX9_copy_156 : decode cX9_copy 156 = .ok (.iadd, 1) := by decide +kernel
theorem dX9_copy_157 : decode cX9_copy 157 = .ok (.aload_n 0, 1) := by decide +kernel
theorem dX9_copy_158 : decode cX9_copy 158 = .ok (.getfield 19, 3) := by decide +kernel
theorem dX9_copy_161 : decode cX9_copy 161 = .ok (.iload 6, 2) := by decide +kernel
theorem dX9_copy_163 : decode cX9_copy 163 = .ok (.iaload, 1) := by decide +kernel
theorem dX9_copy_164 : decode cX9_copy 164 = .ok (.iastore, 1) := by decide +kernel
theorem dX9_copy_165 : decode cX9_copy 165 = .ok (.iinc 6 1, 3) := by decide +kernel
theorem dX9_copy_168 : decode cX9_copy 168 = .ok (.goto (-32), 3) := by decide +kernel
theorem dX9_copy_171 : decode cX9_copy 171 = .ok (.iconst 1, 1) := by decide +kernel
theorem dX9_copy_172 : decode cX9_copy 172 = .ok (.ireturn, 1) := by decide +kernel
theorem dX9_mean_0 : decode cX9_mean 0 = .ok (.iload_n 1, 1) := by decide +kernel
theorem dX9_mean_1 : decode cX9_mean 1 = .ok (.invokestatic 90, 3) := by decide +kernel
theorem dX9_mean_4 : decode cX9_mean 4 = .ok (.ifCond .ne 5, 3) := by decide +kernel
theorem dX9_mean_7 : decode cX9_mean 7 = .ok (.iconst (-1), 1) := by decide +kernel
theorem dX9_mean_8 : decode cX9_mean 8 = .ok (.ireturn, 1) := by decide +kernel
theorem dX9_mean_9 : decode cX9_mean 9 = .ok (.aload_n 0, 1) := by decide +kernel
theorem dX9_mean_10 : decode cX9_mean 10 = .ok (.getfield 13, 3) := by decide +kernel
theorem dX9_mean_13 : decode cX9_mean 13 = .ok (.iload_n 1, 1) := by decide +kernel
theorem dX9_mean_14 : decode cX9_mean 14 = .ok (.iaload, 1) := by decide +kernel
theorem dX9_mean_15 : decode cX9_mean 15 = .ok (.ifCond .ge 9, 3) := by decide +kernel
theorem dX9_mean_18 : decode cX9_mean 18 = .ok (.aload_n 0, 1) := by decide +kernel
theorem dX9_mean_19 : decode cX9_mean 19 = .ok (.iconst 1, 1) := by decide +kernel
theorem dX9_mean_20 : decode cX9_mean 20 = .ok (.invokevirtual 94, 3) := by decide +kernel
theorem dX9_mean_23 : decode cX9_mean 23 = .ok (.ireturn, 1) := by decide +kernel
theorem dX9_mean_24 : decode cX9_mean 24 = .ok (.aload_n 0, 1) := by decide +kernel
theorem dX9_mean_25 : decode cX9_mean 25 = .ok (.getfield 13, 3) := by decide +kernel
theorem dX9_mean_28 : decode cX9_mean 28 = .ok (.iload_n 1, 1) := by decide +kernel
theorem dX9_mean_29 : decode cX9_mean 29 = .ok (.iaload, 1) := by decide +kernel
theorem dX9_mean_30 : decode cX9_mean 30 = .ok (.ifCond .ne 9, 3) := by decide +kernel
theorem dX9_mean_33 : decode cX9_mean 33 = .ok (.aload_n 0, 1) := by decide +kernel
theorem dX9_mean_34 : decode cX9_mean 34 = .ok (.iconst 4, 1) := by decide +kernel
theorem dX9_mean_35 : decode cX9_mean 35 = .ok (.invokevirtual 94, 3) := by decide +kernel
theorem dX9_mean_38 : decode cX9_mean 38 = .ok (.ireturn, 1) := by decide +kernel
theorem dX9_mean_39 : decode cX9_mean 39 = .ok (.lconst 0, 1) := by decide +kernel
theorem dX9_mean_40 : decode cX9_mean 40 = .ok (.lstore_n 2, 1) := by decide +kernel
theorem dX9_mean_41 : decode cX9_mean 41 = .ok (.iconst 0, 1) := by decide +kernel
theorem dX9_mean_42 : decode cX9_mean 42 = .ok (.istore 4, 2) := by decide +kernel
theorem dX9_mean_44 : decode cX9_mean 44 = .ok (.iload 4, 2) := by decide +kernel
theorem dX9_mean_46 : decode cX9_mean 46 = .ok (.aload_n 0, 1) := by decide +kernel
theorem dX9_mean_47 : decode cX9_mean 47 = .ok (.getfield 13, 3) := by decide +kernel
theorem dX9_mean_50 : decode cX9_mean 50 = .ok (.iload_n 1, 1) := by decide +kernel
theorem dX9_mean_51 : decode cX9_mean 51 = .ok (.iaload, 1) := by decide +kernel
theorem dX9_mean_52 : decode cX9_mean 52 = .ok (.if_icmp .ge 20, 3) := by decide +kernel
theorem dX9_mean_55 : decode cX9_mean 55 = .ok (.lload_n 2, 1) := by decide +kernel
theorem dX9_mean_56 : decode cX9_mean 56 = .ok (.aload_n 0, 1) := by decide +kernel
theorem dX9_mean_57 : decode cX9_mean 57 = .ok (.iload_n 1, 1) := by decide +kernel
theorem dX9_mean_58 : decode cX9_mean 58 = .ok (.iload 4, 2) := by decide +kernel
theorem dX9_mean_60 : decode cX9_mean 60 = .ok (.invokevirtual 98, 3) := by decide +kernel
theorem dX9_mean_63 : decode cX9_mean 63 = .ok (.i2l, 1) := by decide +kernel
theorem dX9_mean_64 : decode cX9_mean 64 = .ok (.ladd, 1) := by decide +kernel
theorem dX9_mean_65 : decode cX9_mean 65 = .ok (.lstore_n 2, 1) := by decide +kernel
theorem dX9_mean_66 : decode cX9_mean 66 = .ok (.iinc 4 1, 3) := by decide +kernel
theorem dX9_mean_69 : decode cX9_mean 69 = .ok (.goto (-25), 3) := by decide +kernel
theorem dX9_mean_72 : decode cX9_mean 72 = .ok (.aload_n 0, 1) := by decide +kernel
theorem dX9_mean_73 : decode cX9_mean 73 = .ok (.lload_n 2, 1) := by decide +kernel
theorem dX9_mean_74 : decode cX9_mean 74 = .ok (.aload_n 0, 1) := by decide +kernel
theorem dX9_mean_75 : decode cX9_mean 75 = .ok (.getfield 13, 3) := by decide +kernel
theorem dX9_mean_78 : decode cX9_mean 78 = .ok (.iload_n 1, 1) := by decide +kernel
theorem dX9_mean_79 : decode cX9_mean 79 = .ok (.iaload, 1) := by decide +kernel
theorem dX9_mean_80 : decode cX9_mean 80 = .ok (.i2l, 1) := by decide +kernel
theorem dX9_mean_81 : decode cX9_mean 81 = .ok (.ldiv, 1) := by decide +kernel
theorem dX9_mean_82 : decode cX9_mean 82 = .ok (.l2i, 1) := by decide +kernel
theorem dX9_mean_83 : decode cX9_mean 83 = .ok (.iconst 1, 1) := by decide +kernel
theorem dX9_mean_84 : decode cX9_mean 84 = .ok (.invokevirtual 102, 3) := by decide +kernel
theorem dX9_mean_87 : decode cX9_mean 87 = .ok (.ireturn, 1) := by decide +kernel
theorem dX9_isText_0 : decode cX9_isText 0 = .ok (.iload_n 0, 1) := by decide +kernel
theorem dX9_isText_1 : decode cX9_isText 1 = .ok (.iconst 0, 1) := by decide +kernel
theorem dX9_isText_2 : decode cX9_isText 2 = .ok (.iconst 3, 1) := by decide +kernel
theorem dX9_isText_3 : decode cX9_isText 3 = .ok (.invokestatic 80, 3) := by decide +kernel
theorem dX9_isText_6 : decode cX9_isText 6 = .ok (.ireturn, 1) := by decide +kernel
theorem dX9_text_0 : decode cX9_text 0 = .ok (.iload_n 1, 1) := by decide +kernel
theorem dX9_text_1 : decode cX9_text 1 = .ok (.invokestatic 105, 3) := by decide +kernel
theorem dX9_text_4 : decode cX9_text 4 = .ok (.ifCond .eq 9, 3) := by decide +kernel
theorem dX9_text_7 : decode cX9_text 7 = .ok (.iload_n 2, 1) := by decide +kernel
theorem dX9_text_8 : decode cX9_text 8 = .ok (.bipush 80, 2) := by decide +kernel
theorem dX9_text_10 : decode cX9_text 10 = .ok (.if_icmp .le 5, 3) := by decide +kernel
theorem dX9_text_13 : decode cX9_text 13 = .ok (.iconst (-1), 1) := by decide +kernel
theorem dX9_text_14 : decode cX9_text 14 = .ok (.ireturn, 1) := by decide +kernel
theorem dX9_text_15 : decode cX9_text 15 = .ok (.iload_n 2, 1) := by decide +kernel
theorem dX9_text_16 : decode cX9_text 16 = .ok (.ifCond .ge 9, 3) := by decide +kernel
theorem dX9_text_19 : decode cX9_text 19 = .ok (.aload_n 0, 1) := by decide +kernel
theorem dX9_text_20 : decode cX9_text 20 = .ok (.iconst 5, 1) := by decide +kernel
theorem dX9_text_21 : decode cX9_text 21 = .ok (.invokevirtual 94, 3) := by decide +kernel
theorem dX9_text_24 : decode cX9_text 24 = .ok (.ireturn, 1) := by decide +kernel
theorem dX9_text_25 : decode cX9_text 25 = .ok (.aload_n 0, 1) := by decide +kernel
theorem dX9_text_26 : decode cX9_text 26 = .ok (.getfield 22, 3) := by decide +kernel
theorem dX9_text_29 : decode cX9_text 29 = .ok (.iload_n 1, 1) := by decide +kernel
theorem dX9_text_30 : decode cX9_text 30 = .ok (.iload_n 2, 1) := by decide +kernel
theorem dX9_text_31 : decode cX9_text 31 = .ok (.iastore, 1) := by decide +kernel
theorem dX9_text_32 : decode cX9_text 32 = .ok (.iconst 0, 1) := by decide +kernel
theorem dX9_text_33 : decode cX9_text 33 = .ok (.istore_n 3, 1) := by decide +kernel
theorem dX9_text_34 : decode cX9_text 34 = .ok (.iload_n 3, 1) := by decide +kernel
theorem dX9_text_35 : decode cX9_text 35 = .ok (.bipush 80, 2) := by decide +kernel
theorem dX9_text_37 : decode cX9_text 37 = .ok (.if_icmp .ge 22, 3) := by decide +kernel
theorem dX9_text_40 : decode cX9_text 40 = .ok (.aload_n 0, 1) := by decide +kernel
theorem dX9_text_41 : decode cX9_text 41 = .ok (.getfield 25, 3) := by decide +kernel
theorem dX9_text_44 : decode cX9_text 44 = .ok (.bipush 80, 2) := by decide +kernel
theorem dX9_text_46 : decode cX9_text 46 = .ok (.iload_n 1, 1) := by decide +kernel
theorem dX9_text_47 : decode cX9_text 47 = .ok (.imul, 1) := by decide +kernel
theorem dX9_text_48 : decode cX9_text 48 = .ok (.iload_n 3, 1) := by decide +kernel
theorem dX9_text_49 : decode cX9_text 49 = .ok (.iadd, 1) := by decide +kernel
theorem dX9_text_50 : decode cX9_text 50 = .ok (.bipush 32, 2) := by decide +kernel
theorem dX9_text_52 : decode cX9_text 52 = .ok (.bastore, 1) := by decide +kernel
theorem dX9_text_53 : decode cX9_text 53 = .ok (.iinc 3 1, 3) := by decide +kernel
theorem dX9_text_56 : decode cX9_text 56 = .ok (.goto (-22), 3) := by decide +kernel
theorem dX9_text_59 : decode cX9_text 59 = .ok (.iload_n 2, 1) := by decide +kernel
theorem dX9_text_60 : decode cX9_text 60 = .ok (.ireturn, 1) := by decide +kernel
theorem dX9_put_0 : decode cX9_put 0 = .ok (.iload_n 1, 1) := by decide +kernel
theorem dX9_put_1 : decode cX9_put 1 = .ok (.invokestatic 105, 3) := by decide +kernel
theorem dX9_put_4 : decode cX9_put 4 = .ok (.ifCond .ne 5, 3) := by decide +kernel
theorem dX9_put_7 : decode cX9_put 7 = .ok (.iconst (-1), 1) := by decide +kernel
theorem dX9_put_8 : decode cX9_put 8 = .ok (.ireturn, 1) := by decide +kernel
theorem dX9_put_9 : decode cX9_put 9 = .ok (.aload_n 0, 1) := by decide +kernel
theorem dX9_put_10 : decode cX9_put 10 = .ok (.getfield 22, 3) := by decide +kernel
theorem dX9_put_13 : decode cX9_put 13 = .ok (.iload_n 1, 1) := by decide +kernel
theorem dX9_put_14 : decode cX9_put 14 = .ok (.iaload, 1) := by decide +kernel
theorem dX9_put_15 : decode cX9_put 15 = .ok (.ifCond .ge 9, 3) := by decide +kernel
theorem dX9_put_18 : decode cX9_put 18 = .ok (.aload_n 0, 1) := by decide +kernel
theorem dX9_put_19 : decode cX9_put 19 = .ok (.iconst 1, 1) := by decide +kernel
theorem dX9_put_20 : decode cX9_put 20 = .ok (.invokevirtual 94, 3) := by decide +kernel
theorem dX9_put_23 : decode cX9_put 23 = .ok (.ireturn, 1) := by decide +kernel
theorem dX9_put_24 : decode cX9_put 24 = .ok (.iload_n 2, 1) := by decide +kernel
theorem dX9_put_25 : decode cX9_put 25 = .ok (.iconst 0, 1) := by decide +kernel
theorem dX9_put_26 : decode cX9_put 26 = .ok (.aload_n 0, 1) := by decide +kernel
theorem dX9_put_27 : decode cX9_put 27 = .ok (.getfield 22, 3) := by decide +kernel
theorem dX9_put_30 : decode cX9_put 30 = .ok (.iload_n 1, 1) := by decide +kernel
theorem dX9_put_31 : decode cX9_put 31 = .ok (.iaload, 1) := by decide +kernel
theorem dX9_put_32 : decode cX9_put 32 = .ok (.iconst 1, 1) := by decide +kernel
theorem dX9_put_33 : decode cX9_put 33 = .ok (.isub, 1) := by decide +kernel
theorem dX9_put_34 : decode cX9_put 34 = .ok (.invokestatic 80, 3) := by decide +kernel
theorem dX9_put_37 : decode cX9_put 37 = .ok (.ifCond .ne 9, 3) := by decide +kernel
theorem dX9_put_40 : decode cX9_put 40 = .ok (.aload_n 0, 1) := by decide +kernel
theorem dX9_put_41 : decode cX9_put 41 = .ok (.iconst 2, 1) := by decide +kernel
theorem dX9_put_42 : decode cX9_put 42 = .ok (.invokevirtual 94, 3) := by decide +kernel
theorem dX9_put_45 : decode cX9_put 45 = .ok (.ireturn, 1) := by decide +kernel
theorem dX9_put_46 : decode cX9_put 46 = .ok (.aload_n 0, 1) := by decide +kernel
theorem dX9_put_47 : decode cX9_put 47 = .ok (.getfield 25, 3) := by decide +kernel
theorem dX9_put_50 : decode cX9_put 50 = .ok (.bipush 80, 2) := by decide +kernel
theorem dX9_put_52 : decode cX9_put 52 = .ok (.iload_n 1, 1) := by decide +kernel
theorem dX9_put_53 : decode cX9_put 53 = .ok (.imul, 1) := by decide +kernel
theorem dX9_put_54 : decode cX9_put 54 = .ok (.iload_n 2, 1) := by decide +kernel
theorem dX9_put_55 : decode cX9_put 55 = .ok (.iadd, 1) := by decide +kernel
theorem dX9_put_56 : decode cX9_put 56 = .ok (.baload, 1) := by decide +kernel
theorem dX9_put_57 : decode cX9_put 57 = .ok (.istore 4, 2) := by decide +kernel
theorem dX9_put_59 : decode cX9_put 59 = .ok (.aload_n 0, 1) := by decide +kernel
theorem dX9_put_60 : decode cX9_put 60 = .ok (.getfield 25, 3) := by decide +kernel
theorem dX9_put_63 : decode cX9_put 63 = .ok (.bipush 80, 2) := by decide +kernel
theorem dX9_put_65 : decode cX9_put 65 = .ok (.iload_n 1, 1) := by decide +kernel
theorem dX9_put_66 : decode cX9_put 66 = .ok (.imul, 1) := by decide +kernel
theorem dX9_put_67 : decode cX9_put 67 = .ok (.iload_n 2, 1) := by decide +kernel
theorem dX9_put_68 : decode cX9_put 68 = .ok (.iadd, 1) := by decide +kernel
theorem dX9_put_69 : decode cX9_put 69 = .ok (.iload_n 3, 1) := by decide +kernel
theorem dX9_put_70 : decode cX9_put 70 = .ok (.i2b, 1) := by decide +kernel
theorem dX9_put_71 : decode cX9_put 71 = .ok (.bastore, 1) := by decide +kernel
theorem dX9_put_72 : decode cX9_put 72 = .ok (.sipush 1000, 3) := by decide +kernel
theorem dX9_put_75 : decode cX9_put 75 = .ok (.iload 4, 2) := by decide +kernel
theorem dX9_put_77 : decode cX9_put 77 = .ok (.iadd, 1) := by decide +kernel
theorem dX9_put_78 : decode cX9_put 78 = .ok (.ireturn, 1) := by decide +kernel
theorem dX9_byteAt_0 : decode cX9_byteAt 0 = .ok (.iload_n 2, 1) := by decide +kernel
theorem dX9_byteAt_1 : decode cX9_byteAt 1 = .ok (.aload_n 0, 1) := by decide +kernel
theorem dX9_byteAt_2 : decode cX9_byteAt 2 = .ok (.getfield 22, 3) := by decide +kernel
theorem dX9_byteAt_5 : decode cX9_byteAt 5 = .ok (.iload_n 1, 1) := by decide +kernel
theorem dX9_byteAt_6 : decode cX9_byteAt 6 = .ok (.iaload, 1) := by decide +kernel
theorem dX9_byteAt_7 : decode cX9_byteAt 7 = .ok (.if_icmp .ge 17, 3) := by decide +kernel
theorem dX9_byteAt_10 : decode cX9_byteAt 10 = .ok (.aload_n 0, 1) := by decide +kernel
theorem dX9_byteAt_11 : decode cX9_byteAt 11 = .ok (.getfield 25, 3) := by decide +kernel
theorem dX9_byteAt_14 : decode cX9_byteAt 14 = .ok (.bipush 80, 2) := by decide +kernel
theorem dX9_byteAt_16 : decode cX9_byteAt 16 = .ok (.iload_n 1, 1) := by decide +kernel
theorem dX9_byteAt_17 : decode cX9_byteAt 17 = .ok (.imul, 1) := by decide +kernel
theorem dX9_byteAt_18 : decode cX9_byteAt 18 = .ok (.iload_n 2, 1) := by decide +kernel
theorem dX9_byteAt_19 : decode cX9_byteAt 19 = .ok (.iadd, 1) := by decide +kernel
theorem dX9_byteAt_20 : decode cX9_byteAt 20 = .ok (.baload, 1) := by decide +kernel
theorem dX9_byteAt_21 : decode cX9_byteAt 21 = .ok (.goto 4, 3) := by decide +kernel
theorem dX9_byteAt_24 : decode cX9_byteAt 24 = .ok (.iconst 0, 1) := by decide +kernel
theorem dX9_byteAt_25 : decode cX9_byteAt 25 = .ok (.ireturn, 1) := by decide +kernel
theorem dX9_figure_0 : decode cX9_figure 0 = .ok (.aload_n 0, 1) := by decide +kernel
theorem dX9_figure_1 : decode cX9_figure 1 = .ok (.aload_n 0, 1) := by decide +kernel
theorem dX9_figure_2 : decode cX9_figure 2 = .ok (.iload_n 1, 1) := by decide +kernel
theorem dX9_figure_3 : decode cX9_figure 3 = .ok (.aload_n 0, 1) := by decide +kernel
theorem dX9_figure_4 : decode cX9_figure 4 = .ok (.getfield 108, 3) := by decide +kernel
theorem dX9_figure_7 : decode cX9_figure 7 = .ok (.invokevirtual 111, 3) := by decide +kernel
theorem dX9_figure_10 : decode cX9_figure 10 = .ok (.bipush 48, 2) := by decide +kernel
theorem dX9_figure_12 : decode cX9_figure 12 = .ok (.isub, 1) := by decide +kernel
theorem dX9_figure_13 : decode cX9_figure 13 = .ok (.putfield 114, 3) := by decide +kernel
theorem dX9_figure_16 : decode cX9_figure 16 = .ok (.aload_n 0, 1) := by decide +kernel
theorem dX9_figure_17 : decode cX9_figure 17 = .ok (.getfield 114, 3) := by decide +kernel
theorem dX9_figure_20 : decode cX9_figure 20 = .ok (.iload_n 2, 1) := by decide +kernel
theorem dX9_figure_21 : decode cX9_figure 21 = .ok (.bipush 9, 2) := by decide +kernel
theorem dX9_figure_23 : decode cX9_figure 23 = .ok (.invokestatic 80, 3) := by decide +kernel
theorem dX9_figure_26 : decode cX9_figure 26 = .ok (.istore_n 3, 1) := by decide +kernel
theorem dX9_figure_27 : decode cX9_figure 27 = .ok (.aload_n 0, 1) := by decide +kernel
theorem dX9_figure_28 : decode cX9_figure 28 = .ok (.dup, 1) := by decide +kernel
theorem dX9_figure_29 : decode cX9_figure 29 = .ok (.getfield 108, 3) := by decide +kernel
theorem dX9_figure_32 : decode cX9_figure 32 = .ok (.iload_n 3, 1) := by decide +kernel
theorem dX9_figure_33 : decode cX9_figure 33 = .ok (.ifCond .eq 7, 3) := by decide +kernel
theorem dX9_figure_36 : decode cX9_figure 36 = .ok (.iconst 1, 1) := by decide +kernel
theorem dX9_figure_37 : decode cX9_figure 37 = .ok (.goto 4, 3) := by decide +kernel
theorem dX9_figure_40 : decode cX9_figure 40 = .ok (.iconst 0, 1) := by decide +kernel
theorem dX9_figure_41 : decode cX9_figure 41 = .ok (.iadd, 1) := by decide +kernel
theorem dX9_figure_42 : decode cX9_figure 42 = .ok (.putfield 108, 3) := by decide +kernel
theorem dX9_figure_45 : decode cX9_figure 45 = .ok (.iload_n 3, 1) := by decide +kernel
theorem dX9_figure_46 : decode cX9_figure 46 = .ok (.ireturn, 1) := by decide +kernel
theorem dX9_itemOf_0 : decode cX9_itemOf 0 = .ok (.iload_n 0, 1) := by decide +kernel
theorem dX9_itemOf_1 : decode cX9_itemOf 1 = .ok (.tableswitch 91 104 119 #[83, 87, 89, 91, 85, 91, 91, 91, 91, 91, 81, 91, 91, 91, 91, 79], 79) := by decide +kernel
theorem dX9_itemOf_80 : decode cX9_itemOf 80 = .ok (.iconst 0, 1) := by decide +kernel
theorem dX9_itemOf_81 : decode cX9_itemOf 81 = .ok (.ireturn, 1) := by decide +kernel
theorem dX9_itemOf_82 : decode cX9_itemOf 82 = .ok (.iconst 1, 1) := by decide +kernel
theorem dX9_itemOf_83 : decode cX9_itemOf 83 = .ok (.ireturn, 1) := by decide +kernel
theorem dX9_itemOf_84 : decode cX9_itemOf 84 = .ok (.iconst 2, 1) := by decide +kernel
theorem dX9_itemOf_85 : decode cX9_itemOf 85 = .ok (.ireturn, 1) := by decide +kernel
theorem dX9_itemOf_86 : decode cX9_itemOf 86 = .ok (.iconst 3, 1) := by decide +kernel
theorem dX9_itemOf_87 : decode cX9_itemOf 87 = .ok (.ireturn, 1) := by decide +kernel
theorem dX9_itemOf_88 : decode cX9_itemOf 88 = .ok (.iconst 4, 1) := by decide +kernel
theorem dX9_itemOf_89 : decode cX9_itemOf 89 = .ok (.ireturn, 1) := by decide +kernel
theorem dX9_itemOf_90 : decode cX9_itemOf 90 = .ok (.iconst 5, 1) := by decide +kernel
theorem dX9_itemOf_91 : decode cX9_itemOf 91 = .ok (.ireturn, 1) := by decide +kernel
theorem dX9_itemOf_92 : decode cX9_itemOf 92 = .ok (.bipush (-9), 2) := by decide +kernel
theorem dX9_itemOf_94 : decode cX9_itemOf 94 = .ok (.ireturn, 1) := by decide +kernel
theorem dX9_readsSize_0 : decode cX9_readsSize 0 = .ok (.aload_n 0, 1) := by decide +kernel
theorem dX9_readsSize_1 : decode cX9_readsSize 1 = .ok (.iload_n 1, 1) := by decide +kernel
theorem dX9_readsSize_2 : decode cX9_readsSize 2 = .ok (.aload_n 0, 1) := by decide +kernel
theorem dX9_readsSize_3 : decode cX9_readsSize 3 = .ok (.getfield 108, 3) := by decide +kernel
theorem dX9_readsSize_6 : decode cX9_readsSize 6 = .ok (.invokevirtual 111, 3) := by decide +kernel
theorem dX9_readsSize_9 : decode cX9_readsSize 9 = .ok (.invokestatic 117, 3) := by decide +kernel
theorem dX9_readsSize_12 : decode cX9_readsSize 12 = .ok (.istore_n 2, 1) := by decide +kernel
theorem dX9_readsSize_13 : decode cX9_readsSize 13 = .ok (.iload_n 2, 1) := by decide +kernel
theorem dX9_readsSize_14 : decode cX9_readsSize 14 = .ok (.bipush (-9), 2) := by decide +kernel
theorem dX9_readsSize_16 : decode cX9_readsSize 16 = .ok (.if_icmp .ne 5, 3) := by decide +kernel
theorem dX9_readsSize_19 : decode cX9_readsSize 19 = .ok (.iconst 0, 1) := by decide +kernel
theorem dX9_readsSize_20 : decode cX9_readsSize 20 = .ok (.ireturn, 1) := by decide +kernel
theorem dX9_readsSize_21 : decode cX9_readsSize 21 = .ok (.aload_n 0, 1) := by decide +kernel
theorem dX9_readsSize_22 : decode cX9_readsSize 22 = .ok (.dup, 1) := by decide +kernel
theorem dX9_readsSize_23 : decode cX9_readsSize 23 = .ok (.getfield 108, 3) := by decide +kernel
theorem dX9_readsSize_26 : decode cX9_readsSize 26 = .ok (.iconst 1, 1) := by decide +kernel
theorem dX9_readsSize_27 : decode cX9_readsSize 27 = .ok (.iadd, 1) := by decide +kernel
theorem dX9_readsSize_28 : decode cX9_readsSize 28 = .ok (.putfield 108, 3) := by decide +kernel
theorem dX9_readsSize_31 : decode cX9_readsSize 31 = .ok (.iload_n 2, 1) := by decide +kernel
theorem dX9_readsSize_32 : decode cX9_readsSize 32 = .ok (.iconst 4, 1) := by decide +kernel
theorem dX9_readsSize_33 : decode cX9_readsSize 33 = .ok (.if_icmp .ge 49, 3) := by decide +kernel
theorem dX9_readsSize_36 : decode cX9_readsSize 36 = .ok (.aload_n 0, 1) := by decide +kernel
theorem dX9_readsSize_37 : decode cX9_readsSize 37 = .ok (.iload_n 1, 1) := by decide +kernel
theorem dX9_readsSize_38 : decode cX9_readsSize 38 = .ok (.aload_n 0, 1) := by decide +kernel
theorem dX9_readsSize_39 : decode cX9_readsSize 39 = .ok (.getfield 108, 3) := by decide +kernel
theorem dX9_readsSize_42 : decode cX9_readsSize 42 = .ok (.invokevirtual 111, 3) := by decide +kernel
theorem dX9_readsSize_45 : decode cX9_readsSize 45 = .ok (.bipush 63, 2) := by decide +kernel
theorem dX9_readsSize_47 : decode cX9_readsSize 47 = .ok (.if_icmp .ne 35, 3) := by decide +kernel
theorem dX9_readsSize_50 : decode cX9_readsSize 50 = .ok (.aload_n 0, 1) := by decide +kernel
theorem dX9_readsSize_51 : decode cX9_readsSize 51 = .ok (.dup, 1) := by decide +kernel
theorem dX9_readsSize_52 : decode cX9_readsSize 52 = .ok (.getfield 108, 3) := by decide +kernel
theorem dX9_readsSize_55 : decode cX9_readsSize 55 = .ok (.iconst 1, 1) := by decide +kernel
theorem dX9_readsSize_56 : decode cX9_readsSize 56 = .ok (.iadd, 1) := by decide +kernel
theorem dX9_readsSize_57 : decode cX9_readsSize 57 = .ok (.putfield 108, 3) := by decide +kernel
theorem dX9_readsSize_60 : decode cX9_readsSize 60 = .ok (.aload_n 0, 1) := by decide +kernel
theorem dX9_readsSize_61 : decode cX9_readsSize 61 = .ok (.getfield 42, 3) := by decide +kernel
theorem dX9_readsSize_64 : decode cX9_readsSize 64 = .ok (.iload_n 2, 1) := by decide +kernel
theorem dX9_readsSize_65 : decode cX9_readsSize 65 = .ok (.iconst 5, 1) := by decide +kernel
theorem dX9_readsSize_66 : decode cX9_readsSize 66 = .ok (.iastore, 1) := by decide +kernel
theorem dX9_readsSize_67 : decode cX9_readsSize 67 = .ok (.aload_n 0, 1) := by decide +kernel
theorem dX9_readsSize_68 : decode cX9_readsSize 68 = .ok (.getfield 42, 3) := by decide +kernel
theorem dX9_readsSize_71 : decode cX9_readsSize 71 = .ok (.bipush 6, 2) := by decide +kernel
theorem dX9_readsSize_73 : decode cX9_readsSize 73 = .ok (.dup2, 1) := by decide +kernel
theorem dX9_readsSize_74 : decode cX9_readsSize 74 = .ok (.iaload, 1) := by decide +kernel
theorem dX9_readsSize_75 : decode cX9_readsSize 75 = .ok (.iconst 1, 1) := by decide +kernel
theorem dX9_readsSize_76 : decode cX9_readsSize 76 = .ok (.iload_n 2, 1) := by decide +kernel
theorem dX9_readsSize_77 : decode cX9_readsSize 77 = .ok (.ishl, 1) := by decide +kernel
theorem dX9_readsSize_78 : decode cX9_readsSize 78 = .ok (.ior, 1) := by decide +kernel
theorem dX9_readsSize_79 : decode cX9_readsSize 79 = .ok (.iastore, 1) := by decide +kernel
theorem dX9_readsSize_80 : decode cX9_readsSize 80 = .ok (.iconst 1, 1) := by decide +kernel
theorem dX9_readsSize_81 : decode cX9_readsSize 81 = .ok (.ireturn, 1) := by decide +kernel
theorem dX9_readsSize_82 : decode cX9_readsSize 82 = .ok (.aload_n 0, 1) := by decide +kernel
theorem dX9_readsSize_83 : decode cX9_readsSize 83 = .ok (.iload_n 1, 1) := by decide +kernel
theorem dX9_readsSize_84 : decode cX9_readsSize 84 = .ok (.iload_n 2, 1) := by decide +kernel
theorem dX9_readsSize_85 : decode cX9_readsSize 85 = .ok (.iconst 4, 1) := by decide +kernel
theorem dX9_readsSize_86 : decode cX9_readsSize 86 = .ok (.if_icmp .ge 7, 3) := by decide +kernel
theorem dX9_readsSize_89 : decode cX9_readsSize 89 = .ok (.iconst 1, 1) := by decide +kernel
theorem dX9_readsSize_90 : decode cX9_readsSize 90 = .ok (.goto 4, 3) := by decide +kernel
theorem dX9_readsSize_93 : decode cX9_readsSize 93 = .ok (.iconst 0, 1) := by decide +kernel
theorem dX9_readsSize_94 : decode cX9_readsSize 94 = .ok (.invokevirtual 120, 3) := by decide +kernel
theorem dX9_readsSize_97 : decode cX9_readsSize 97 = .ok (.ifCond .ne 5, 3) := by decide +kernel
theorem dX9_readsSize_100 : decode cX9_readsSize 100 = .ok (.iconst 0, 1) := by decide +kernel
theorem dX9_readsSize_101 : decode cX9_readsSize 101 = .ok (.ireturn, 1) := by decide +kernel
theorem dX9_readsSize_102 : decode cX9_readsSize 102 = .ok (.aload_n 0, 1) := by decide +kernel
theorem dX9_readsSize_103 : decode cX9_readsSize 103 = .ok (.getfield 42, 3) := by decide +kernel
theorem dX9_readsSize_106 : decode cX9_readsSize 106 = .ok (.iload_n 2, 1) := by decide +kernel
theorem dX9_readsSize_107 : decode cX9_readsSize 107 = .ok (.aload_n 0, 1) := by decide +kernel
theorem dX9_readsSize_108 : decode cX9_readsSize 108 = .ok (.getfield 114, 3) := by decide +kernel
theorem dX9_readsSize_111 : decode cX9_readsSize 111 = .ok (.iastore, 1) := by decide +kernel
theorem dX9_readsSize_112 : decode cX9_readsSize 112 = .ok (.aload_n 0, 1) := by decide +kernel
theorem dX9_readsSize_113 : decode cX9_readsSize 113 = .ok (.getfield 42, 3) := by decide +kernel
theorem dX9_readsSize_116 : decode cX9_readsSize 116 = .ok (.bipush 6, 2) := by decide +kernel
theorem dX9_readsSize_118 : decode cX9_readsSize 118 = .ok (.dup2, 1) := by decide +kernel
theorem dX9_readsSize_119 : decode cX9_readsSize 119 = .ok (.iaload, 1) := by decide +kernel
theorem dX9_readsSize_120 : decode cX9_readsSize 120 = .ok (.iconst 1, 1) := by decide +kernel
theorem dX9_readsSize_121 : decode cX9_readsSize 121 = .ok (.iload_n 2, 1) := by decide +kernel
theorem dX9_readsSize_122 : decode cX9_readsSize 122 = .ok (.ishl, 1) := by decide +kernel
theorem dX9_readsSize_123 : decode cX9_readsSize 123 = .ok (.iconst (-1), 1) := by decide +kernel
theorem dX9_readsSize_124 : decode cX9_readsSize 124 = .ok (.ixor, 1) := by decide +kernel
theorem dX9_readsSize_125 : decode cX9_readsSize 125 = .ok (.iand, 1) := by decide +kernel
theorem dX9_readsSize_126 : decode cX9_readsSize 126 = .ok (.iastore, 1) := by decide +kernel
theorem dX9_readsSize_127 : decode cX9_readsSize 127 = .ok (.iconst 1, 1) := by decide +kernel
theorem dX9_readsSize_128 : decode cX9_readsSize 128 = .ok (.ireturn, 1) := by decide +kernel
theorem dX9_walkerFault_0 : decode cX9_walkerFault 0 = .ok (.aload_n 0, 1) := by decide +kernel
theorem dX9_walkerFault_1 : decode cX9_walkerFault 1 = .ok (.iconst 0, 1) := by decide +kernel
theorem dX9_walkerFault_2 : decode cX9_walkerFault 2 = .ok (.putfield 108, 3) := by decide +kernel
theorem dX9_walkerFault_5 : decode cX9_walkerFault 5 = .ok (.iconst 0, 1) := by decide +kernel
theorem dX9_walkerFault_6 : decode cX9_walkerFault 6 = .ok (.istore_n 2, 1) := by decide +kernel
theorem dX9_walkerFault_7 : decode cX9_walkerFault 7 = .ok (.iload_n 2, 1) := by decide +kernel
theorem dX9_walkerFault_8 : decode cX9_walkerFault 8 = .ok (.bipush 7, 2) := by decide +kernel
theorem dX9_walkerFault_10 : decode cX9_walkerFault 10 = .ok (.if_icmp .ge 25, 3) := by decide +kernel
theorem dX9_walkerFault_13 : decode cX9_walkerFault 13 = .ok (.aload_n 0, 1) := by decide +kernel
theorem dX9_walkerFault_14 : decode cX9_walkerFault 14 = .ok (.getfield 42, 3) := by decide +kernel
theorem dX9_walkerFault_17 : decode cX9_walkerFault 17 = .ok (.iload_n 2, 1) := by decide +kernel
theorem dX9_walkerFault_18 : decode cX9_walkerFault 18 = .ok (.iload_n 2, 1) := by decide +kernel
theorem dX9_walkerFault_19 : decode cX9_walkerFault 19 = .ok (.iconst 4, 1) := by decide +kernel
theorem dX9_walkerFault_20 : decode cX9_walkerFault 20 = .ok (.if_icmp .ge 7, 3) := by decide +kernel
theorem dX9_walkerFault_23 : decode cX9_walkerFault 23 = .ok (.iconst 5, 1) := by decide +kernel
theorem dX9_walkerFault_24 : decode cX9_walkerFault 24 = .ok (.goto 4, 3) := by decide +kernel
theorem dX9_walkerFault_27 : decode cX9_walkerFault 27 = .ok (.iconst 0, 1) := by decide +kernel
theorem dX9_walkerFault_28 : decode cX9_walkerFault 28 = .ok (.iastore, 1) := by decide +kernel
theorem dX9_walkerFault_29 : decode cX9_walkerFault 29 = .ok (.iinc 2 1, 3) := by decide +kernel
theorem dX9_walkerFault_32 : decode cX9_walkerFault 32 = .ok (.goto (-25), 3) := by decide +kernel
theorem dX9_walkerFault_35 : decode cX9_walkerFault 35 = .ok (.aload_n 0, 1) := by decide +kernel
theorem dX9_walkerFault_36 : decode cX9_walkerFault 36 = .ok (.getfield 108, 3) := by decide +kernel
theorem dX9_walkerFault_39 : decode cX9_walkerFault 39 = .ok (.aload_n 0, 1) := by decide +kernel
theorem dX9_walkerFault_40 : decode cX9_walkerFault 40 = .ok (.getfield 22, 3) := by decide +kernel
theorem dX9_walkerFault_43 : decode cX9_walkerFault 43 = .ok (.iload_n 1, 1) := by decide +kernel
theorem dX9_walkerFault_44 : decode cX9_walkerFault 44 = .ok (.iaload, 1) := by decide +kernel
theorem dX9_walkerFault_45 : decode cX9_walkerFault 45 = .ok (.if_icmp .ge 43, 3) := by decide +kernel
theorem dX9_walkerFault_48 : decode cX9_walkerFault 48 = .ok (.aload_n 0, 1) := by decide +kernel
theorem dX9_walkerFault_49 : decode cX9_walkerFault 49 = .ok (.iload_n 1, 1) := by decide +kernel
theorem dX9_walkerFault_50 : decode cX9_walkerFault 50 = .ok (.aload_n 0, 1) := by decide +kernel
theorem dX9_walkerFault_51 : decode cX9_walkerFault 51 = .ok (.getfield 108, 3) := by decide +kernel
theorem dX9_walkerFault_54 : decode cX9_walkerFault 54 = .ok (.invokevirtual 111, 3) := by decide +kernel
theorem dX9_walkerFault_57 : decode cX9_walkerFault 57 = .ok (.bipush 32, 2) := by decide +kernel
theorem dX9_walkerFault_59 : decode cX9_walkerFault 59 = .ok (.if_icmp .ne 16, 3) := by decide +kernel
theorem dX9_walkerFault_62 : decode cX9_walkerFault 62 = .ok (.aload_n 0, 1) := by decide +kernel
theorem dX9_walkerFault_63 : decode cX9_walkerFault 63 = .ok (.dup, 1) := by decide +kernel
theorem dX9_walkerFault_64 : decode cX9_walkerFault 64 = .ok (.getfield 108, 3) := by decide +kernel
theorem dX9_walkerFault_67 : decode cX9_walkerFault 67 = .ok (.iconst 1, 1) := by decide +kernel
theorem dX9_walkerFault_68 : decode cX9_walkerFault 68 = .ok (.iadd, 1) := by decide +kernel
theorem dX9_walkerFault_69 : decode cX9_walkerFault 69 = .ok (.putfield 108, 3) := by decide +kernel
theorem dX9_walkerFault_72 : decode cX9_walkerFault 72 = .ok (.goto (-37), 3) := by decide +kernel
theorem dX9_walkerFault_75 : decode cX9_walkerFault 75 = .ok (.aload_n 0, 1) := by decide +kernel
theorem dX9_walkerFault_76 : decode cX9_walkerFault 76 = .ok (.iload_n 1, 1) := by decide +kernel
theorem dX9_walkerFault_77 : decode cX9_walkerFault 77 = .ok (.invokevirtual 124, 3) := by decide +kernel
theorem dX9_walkerFault_80 : decode cX9_walkerFault 80 = .ok (.ifCond .ne (-45), 3) := by decide +kernel
theorem dX9_walkerFault_83 : decode cX9_walkerFault 83 = .ok (.aload_n 0, 1) := by decide +kernel
theorem dX9_walkerFault_84 : decode cX9_walkerFault 84 = .ok (.getfield 108, 3) := by decide +kernel
theorem dX9_walkerFault_87 : decode cX9_walkerFault 87 = .ok (.ireturn, 1) := by decide +kernel
theorem dX9_walkerFault_88 : decode cX9_walkerFault 88 = .ok (.bipush (-9), 2) := by decide +kernel
theorem dX9_walkerFault_90 : decode cX9_walkerFault 90 = .ok (.ireturn, 1) := by decide +kernel
theorem dX9_readsBoard_0 : decode cX9_readsBoard 0 = .ok (.aload_n 0, 1) := by decide +kernel
theorem dX9_readsBoard_1 : decode cX9_readsBoard 1 = .ok (.iload_n 1, 1) := by decide +kernel
theorem dX9_readsBoard_2 : decode cX9_readsBoard 2 = .ok (.aload_n 0, 1) := by decide +kernel
theorem dX9_readsBoard_3 : decode cX9_readsBoard 3 = .ok (.getfield 108, 3) := by decide +kernel
theorem dX9_readsBoard_6 : decode cX9_readsBoard 6 = .ok (.invokevirtual 111, 3) := by decide +kernel
theorem dX9_readsBoard_9 : decode cX9_readsBoard 9 = .ok (.istore_n 2, 1) := by decide +kernel
theorem dX9_readsBoard_10 : decode cX9_readsBoard 10 = .ok (.iload_n 2, 1) := by decide +kernel
theorem dX9_readsBoard_11 : decode cX9_readsBoard 11 = .ok (.bipush 117, 2) := by decide +kernel
theorem dX9_readsBoard_13 : decode cX9_readsBoard 13 = .ok (.if_icmp .eq 9, 3) := by decide +kernel
theorem dX9_readsBoard_16 : decode cX9_readsBoard 16 = .ok (.iload_n 2, 1) := by decide +kernel
theorem dX9_readsBoard_17 : decode cX9_readsBoard 17 = .ok (.bipush 98, 2) := by decide +kernel
theorem dX9_readsBoard_19 : decode cX9_readsBoard 19 = .ok (.if_icmp .ne 18, 3) := by decide +kernel
theorem dX9_readsBoard_22 : decode cX9_readsBoard 22 = .ok (.iload_n 2, 1) := by decide +kernel
theorem dX9_readsBoard_23 : decode cX9_readsBoard 23 = .ok (.bipush 98, 2) := by decide +kernel
theorem dX9_readsBoard_25 : decode cX9_readsBoard 25 = .ok (.if_icmp .ne 14, 3) := by decide +kernel
theorem dX9_readsBoard_28 : decode cX9_readsBoard 28 = .ok (.aload_n 0, 1) := by decide +kernel
theorem dX9_readsBoard_29 : decode cX9_readsBoard 29 = .ok (.getfield 127, 3) := by decide +kernel
theorem dX9_readsBoard_32 : decode cX9_readsBoard 32 = .ok (.bipush 8, 2) := by decide +kernel
theorem dX9_readsBoard_34 : decode cX9_readsBoard 34 = .ok (.if_icmp .ne 5, 3) := by decide +kernel
theorem dX9_readsBoard_37 : decode cX9_readsBoard 37 = .ok (.iconst 0, 1) := by decide +kernel
theorem dX9_readsBoard_38 : decode cX9_readsBoard 38 = .ok (.ireturn, 1) := by decide +kernel
theorem dX9_readsBoard_39 : decode cX9_readsBoard 39 = .ok (.aload_n 0, 1) := by decide +kernel
theorem dX9_readsBoard_40 : decode cX9_readsBoard 40 = .ok (.dup, 1) := by decide +kernel
theorem dX9_readsBoard_41 : decode cX9_readsBoard 41 = .ok (.getfield 108, 3) := by decide +kernel
theorem dX9_readsBoard_44 : decode cX9_readsBoard 44 = .ok (.iconst 1, 1) := by decide +kernel
theorem dX9_readsBoard_45 : decode cX9_readsBoard 45 = .ok (.iadd, 1) := by decide +kernel
theorem dX9_readsBoard_46 : decode cX9_readsBoard 46 = .ok (.putfield 108, 3) := by decide +kernel
theorem dX9_readsBoard_49 : decode cX9_readsBoard 49 = .ok (.iload_n 2, 1) := by decide +kernel
theorem dX9_readsBoard_50 : decode cX9_readsBoard 50 = .ok (.bipush 117, 2) := by decide +kernel
theorem dX9_readsBoard_52 : decode cX9_readsBoard 52 = .ok (.if_icmp .ne 35, 3) := by decide +kernel
theorem dX9_readsBoard_55 : decode cX9_readsBoard 55 = .ok (.aload_n 0, 1) := by decide +kernel
theorem dX9_readsBoard_56 : decode cX9_readsBoard 56 = .ok (.iload_n 1, 1) := by decide +kernel
theorem dX9_readsBoard_57 : decode cX9_readsBoard 57 = .ok (.iconst 0, 1) := by decide +kernel
theorem dX9_readsBoard_58 : decode cX9_readsBoard 58 = .ok (.invokevirtual 120, 3) := by decide +kernel
theorem dX9_readsBoard_61 : decode cX9_readsBoard 61 = .ok (.istore_n 3, 1) := by decide +kernel
theorem dX9_readsBoard_62 : decode cX9_readsBoard 62 = .ok (.aload_n 0, 1) := by decide +kernel
theorem dX9_readsBoard_63 : decode cX9_readsBoard 63 = .ok (.getfield 45, 3) := by decide +kernel
theorem dX9_readsBoard_66 : decode cX9_readsBoard 66 = .ok (.iconst 0, 1) := by decide +kernel
theorem dX9_readsBoard_67 : decode cX9_readsBoard 67 = .ok (.iload_n 3, 1) := by decide +kernel
theorem dX9_readsBoard_68 : decode cX9_readsBoard 68 = .ok (.ifCond .eq 10, 3) := by decide +kernel
theorem dX9_readsBoard_71 : decode cX9_readsBoard 71 = .ok (.aload_n 0, 1) := by decide +kernel
theorem dX9_readsBoard_72 : decode cX9_readsBoard 72 = .ok (.getfield 114, 3) := by decide +kernel
theorem dX9_readsBoard_75 : decode cX9_readsBoard 75 = .ok (.goto 9, 3) := by decide +kernel
theorem dX9_readsBoard_78 : decode cX9_readsBoard 78 = .ok (.aload_n 0, 1) := by decide +kernel
theorem dX9_readsBoard_79 : decode cX9_readsBoard 79 = .ok (.getfield 45, 3) := by decide +kernel
theorem dX9_readsBoard_82 : decode cX9_readsBoard 82 = .ok (.iconst 0, 1) := by decide +kernel
theorem dX9_readsBoard_83 : decode cX9_readsBoard 83 = .ok (.iaload, 1) := by decide +kernel
theorem dX9_readsBoard_84 : decode cX9_readsBoard 84 = .ok (.iastore, 1) := by decide +kernel
theorem dX9_readsBoard_85 : decode cX9_readsBoard 85 = .ok (.iload_n 3, 1) := by decide +kernel
theorem dX9_readsBoard_86 : decode cX9_readsBoard 86 = .ok (.ireturn, 1) := by decide +kernel
theorem dX9_readsBoard_87 : decode cX9_readsBoard 87 = .ok (.aload_n 0, 1) := by decide +kernel
theorem dX9_readsBoard_88 : decode cX9_readsBoard 88 = .ok (.iload_n 1, 1) := by decide +kernel
theorem dX9_readsBoard_89 : decode cX9_readsBoard 89 = .ok (.iconst 0, 1) := by decide +kernel
theorem dX9_readsBoard_90 : decode cX9_readsBoard 90 = .ok (.invokevirtual 120, 3) := by decide +kernel
theorem dX9_readsBoard_93 : decode cX9_readsBoard 93 = .ok (.ifCond .ne 5, 3) := by decide +kernel
theorem dX9_readsBoard_96 : decode cX9_readsBoard 96 = .ok (.iconst 0, 1) := by decide +kernel
theorem dX9_readsBoard_97 : decode cX9_readsBoard 97 = .ok (.ireturn, 1) := by decide +kernel
theorem dX9_readsBoard_98 : decode cX9_readsBoard 98 = .ok (.aload_n 0, 1) := by decide +kernel
theorem dX9_readsBoard_99 : decode cX9_readsBoard 99 = .ok (.getfield 114, 3) := by decide +kernel
theorem dX9_readsBoard_102 : decode cX9_readsBoard 102 = .ok (.istore_n 3, 1) := by decide +kernel
theorem dX9_readsBoard_103 : decode cX9_readsBoard 103 = .ok (.aload_n 0, 1) := by decide +kernel
theorem dX9_readsBoard_104 : decode cX9_readsBoard 104 = .ok (.iload_n 1, 1) := by decide +kernel
theorem dX9_readsBoard_105 : decode cX9_readsBoard 105 = .ok (.iconst 0, 1) := by decide +kernel
theorem dX9_readsBoard_106 : decode cX9_readsBoard 106 = .ok (.invokevirtual 120, 3) := by decide +kernel
theorem dX9_readsBoard_109 : decode cX9_readsBoard 109 = .ok (.ifCond .eq 13, 3) := by decide +kernel
theorem dX9_readsBoard_112 : decode cX9_readsBoard 112 = .ok (.bipush 10, 2) := by decide +kernel
theorem dX9_readsBoard_114 : decode cX9_readsBoard 114 = .ok (.iload_n 3, 1) := by decide +kernel
theorem dX9_readsBoard_115 : decode cX9_readsBoard 115 = .ok (.imul, 1) := by decide +kernel
theorem dX9_readsBoard_116 : decode cX9_readsBoard 116 = .ok (.aload_n 0, 1) := by decide +kernel
theorem dX9_readsBoard_117 : decode cX9_readsBoard 117 = .ok (.getfield 114, 3) := by decide +kernel
theorem dX9_readsBoard_120 : decode cX9_readsBoard 120 = .ok (.iadd, 1) := by decide +kernel
theorem dX9_readsBoard_121 : decode cX9_readsBoard 121 = .ok (.istore_n 3, 1) := by decide +kernel
theorem dX9_readsBoard_122 : decode cX9_readsBoard 122 = .ok (.aload_n 0, 1) := by decide +kernel
theorem dX9_readsBoard_123 : decode cX9_readsBoard 123 = .ok (.iload_n 1, 1) := by decide +kernel
theorem dX9_readsBoard_124 : decode cX9_readsBoard 124 = .ok (.aload_n 0, 1) := by decide +kernel
theorem dX9_readsBoard_125 : decode cX9_readsBoard 125 = .ok (.getfield 108, 3) := by decide +kernel
theorem dX9_readsBoard_128 : decode cX9_readsBoard 128 = .ok (.invokevirtual 111, 3) := by decide +kernel
theorem dX9_readsBoard_131 : decode cX9_readsBoard 131 = .ok (.bipush 58, 2) := by decide +kernel
theorem dX9_readsBoard_133 : decode cX9_readsBoard 133 = .ok (.if_icmp .eq 5, 3) := by decide +kernel
theorem dX9_readsBoard_136 : decode cX9_readsBoard 136 = .ok (.iconst 0, 1) := by decide +kernel
theorem dX9_readsBoard_137 : decode cX9_readsBoard 137 = .ok (.ireturn, 1) := by decide +kernel
theorem dX9_readsBoard_138 : decode cX9_readsBoard 138 = .ok (.aload_n 0, 1) := by decide +kernel
theorem dX9_readsBoard_139 : decode cX9_readsBoard 139 = .ok (.dup, 1) := by decide +kernel
theorem dX9_readsBoard_140 : decode cX9_readsBoard 140 = .ok (.getfield 108, 3) := by decide +kernel
theorem dX9_readsBoard_143 : decode cX9_readsBoard 143 = .ok (.iconst 1, 1) := by decide +kernel
theorem dX9_readsBoard_144 : decode cX9_readsBoard 144 = .ok (.iadd, 1) := by decide +kernel
theorem dX9_readsBoard_145 : decode cX9_readsBoard 145 = .ok (.putfield 108, 3) := by decide +kernel
theorem dX9_readsBoard_148 : decode cX9_readsBoard 148 = .ok (.aload_n 0, 1) := by decide +kernel
theorem dX9_readsBoard_149 : decode cX9_readsBoard 149 = .ok (.iload_n 1, 1) := by decide +kernel
theorem dX9_readsBoard_150 : decode cX9_readsBoard 150 = .ok (.iconst 1, 1) := by decide +kernel
theorem dX9_readsBoard_151 : decode cX9_readsBoard 151 = .ok (.invokevirtual 120, 3) := by decide +kernel
theorem dX9_readsBoard_154 : decode cX9_readsBoard 154 = .ok (.ifCond .ne 5, 3) := by decide +kernel
theorem dX9_readsBoard_157 : decode cX9_readsBoard 157 = .ok (.iconst 0, 1) := by decide +kernel
theorem dX9_readsBoard_158 : decode cX9_readsBoard 158 = .ok (.ireturn, 1) := by decide +kernel
theorem dX9_readsBoard_159 : decode cX9_readsBoard 159 = .ok (.aload_n 0, 1) := by decide +kernel
theorem dX9_readsBoard_160 : decode cX9_readsBoard 160 = .ok (.getfield 45, 3) := by decide +kernel
theorem dX9_readsBoard_163 : decode cX9_readsBoard 163 = .ok (.iconst 1, 1) := by decide +kernel
theorem dX9_readsBoard_164 : decode cX9_readsBoard 164 = .ok (.iload_n 3, 1) := by decide +kernel
theorem dX9_readsBoard_165 : decode cX9_readsBoard 165 = .ok (.iadd, 1) := by decide +kernel
theorem dX9_readsBoard_166 : decode cX9_readsBoard 166 = .ok (.dup2, 1) := by decide +kernel
theorem dX9_readsBoard_167 : decode cX9_readsBoard 167 = .ok (.iaload, 1) := by decide +kernel
theorem dX9_readsBoard_168 : decode cX9_readsBoard 168 = .ok (.aload_n 0, 1) := by decide +kernel
theorem dX9_readsBoard_169 : decode cX9_readsBoard 169 = .ok (.getfield 114, 3) := by decide +kernel
theorem dX9_readsBoard_172 : decode cX9_readsBoard 172 = .ok (.iadd, 1) := by decide +kernel
theorem dX9_readsBoard_173 : decode cX9_readsBoard 173 = .ok (.iastore, 1) := by decide +kernel
theorem dX9_readsBoard_174 : decode cX9_readsBoard 174 = .ok (.aload_n 0, 1) := by decide +kernel
theorem dX9_readsBoard_175 : decode cX9_readsBoard 175 = .ok (.dup, 1) := by decide +kernel
theorem dX9_readsBoard_176 : decode cX9_readsBoard 176 = .ok (.getfield 127, 3) := by decide +kernel
theorem dX9_readsBoard_179 : decode cX9_readsBoard 179 = .ok (.iconst 1, 1) := by decide +kernel
theorem dX9_readsBoard_180 : decode cX9_readsBoard 180 = .ok (.iadd, 1) := by decide +kernel
theorem dX9_readsBoard_181 : decode cX9_readsBoard 181 = .ok (.putfield 127, 3) := by decide +kernel
theorem dX9_readsBoard_184 : decode cX9_readsBoard 184 = .ok (.iconst 1, 1) := by decide +kernel
theorem dX9_readsBoard_185 : decode cX9_readsBoard 185 = .ok (.ireturn, 1) := by decide +kernel
theorem dX9_boardFault_0 : decode cX9_boardFault 0 = .ok (.aload_n 0, 1) := by decide +kernel
theorem dX9_boardFault_1 : decode cX9_boardFault 1 = .ok (.iconst 0, 1) := by decide +kernel
theorem dX9_boardFault_2 : decode cX9_boardFault 2 = .ok (.putfield 108, 3) := by decide +kernel
theorem dX9_boardFault_5 : decode cX9_boardFault 5 = .ok (.aload_n 0, 1) := by decide +kernel
theorem dX9_boardFault_6 : decode cX9_boardFault 6 = .ok (.iconst 0, 1) := by decide +kernel
theorem dX9_boardFault_7 : decode cX9_boardFault 7 = .ok (.putfield 127, 3) := by decide +kernel
theorem dX9_boardFault_10 : decode cX9_boardFault 10 = .ok (.iconst 0, 1) := by decide +kernel
theorem dX9_boardFault_11 : decode cX9_boardFault 11 = .ok (.istore_n 2, 1) := by decide +kernel
theorem dX9_boardFault_12 : decode cX9_boardFault 12 = .ok (.iload_n 2, 1) := by decide +kernel
theorem dX9_boardFault_13 : decode cX9_boardFault 13 = .ok (.bipush 101, 2) := by decide +kernel
theorem dX9_boardFault_15 : decode cX9_boardFault 15 = .ok (.if_icmp .ge 24, 3) := by decide +kernel
theorem dX9_boardFault_18 : decode cX9_boardFault 18 = .ok (.aload_n 0, 1) := by decide +kernel
theorem dX9_boardFault_19 : decode cX9_boardFault 19 = .ok (.getfield 45, 3) := by decide +kernel
theorem dX9_boardFault_22 : decode cX9_boardFault 22 = .ok (.iload_n 2, 1) := by decide +kernel
theorem dX9_boardFault_23 : decode cX9_boardFault 23 = .ok (.iload_n 2, 1) := by decide +kernel
theorem dX9_boardFault_24 : decode cX9_boardFault 24 = .ok (.ifCond .ne 7, 3) := by decide +kernel
theorem dX9_boardFault_27 : decode cX9_boardFault 27 = .ok (.iconst 1, 1) := by decide +kernel
theorem dX9_boardFault_28 : decode cX9_boardFault 28 = .ok (.goto 4, 3) := by decide +kernel
theorem dX9_boardFault_31 : decode cX9_boardFault 31 = .ok (.iconst 0, 1) := by decide +kernel
theorem dX9_boardFault_32 : decode cX9_boardFault 32 = .ok (.iastore, 1) := by decide +kernel
theorem dX9_boardFault_33 : decode cX9_boardFault 33 = .ok (.iinc 2 1, 3) := by decide +kernel
theorem dX9_boardFault_36 : decode cX9_boardFault 36 = .ok (.goto (-24), 3) := by decide +kernel
theorem dX9_boardFault_39 : decode cX9_boardFault 39 = .ok (.aload_n 0, 1) := by decide +kernel
theorem dX9_boardFault_40 : decode cX9_boardFault 40 = .ok (.getfield 108, 3) := by decide +kernel
theorem dX9_boardFault_43 : decode cX9_boardFault 43 = .ok (.aload_n 0, 1) := by decide +kernel
theorem dX9_boardFault_44 : decode cX9_boardFault 44 = .ok (.getfield 22, 3) := by decide +kernel
theorem dX9_boardFault_47 : decode cX9_boardFault 47 = .ok (.iload_n 1, 1) := by decide +kernel
theorem dX9_boardFault_48 : decode cX9_boardFault 48 = .ok (.iaload, 1) := by decide +kernel
theorem dX9_boardFault_49 : decode cX9_boardFault 49 = .ok (.if_icmp .ge 43, 3) := by decide +kernel
theorem dX9_boardFault_52 : decode cX9_boardFault 52 = .ok (.aload_n 0, 1) := by decide +kernel
theorem dX9_boardFault_53 : decode cX9_boardFault 53 = .ok (.iload_n 1, 1) := by decide +kernel
theorem dX9_boardFault_54 : decode cX9_boardFault 54 = .ok (.aload_n 0, 1) := by decide +kernel
theorem dX9_boardFault_55 : decode cX9_boardFault 55 = .ok (.getfield 108, 3) := by decide +kernel
theorem dX9_boardFault_58 : decode cX9_boardFault 58 = .ok (.invokevirtual 111, 3) := by decide +kernel
theorem dX9_boardFault_61 : decode cX9_boardFault 61 = .ok (.bipush 32, 2) := by decide +kernel
theorem dX9_boardFault_63 : decode cX9_boardFault 63 = .ok (.if_icmp .ne 16, 3) := by decide +kernel
theorem dX9_boardFault_66 : decode cX9_boardFault 66 = .ok (.aload_n 0, 1) := by decide +kernel
theorem dX9_boardFault_67 : decode cX9_boardFault 67 = .ok (.dup, 1) := by decide +kernel
theorem dX9_boardFault_68 : decode cX9_boardFault 68 = .ok (.getfield 108, 3) := by decide +kernel
theorem dX9_boardFault_71 : decode cX9_boardFault 71 = .ok (.iconst 1, 1) := by decide +kernel
theorem dX9_boardFault_72 : decode cX9_boardFault 72 = .ok (.iadd, 1) := by decide +kernel
theorem dX9_boardFault_73 : decode cX9_boardFault 73 = .ok (.putfield 108, 3) := by decide +kernel
theorem dX9_boardFault_76 : decode cX9_boardFault 76 = .ok (.goto (-37), 3) := by decide +kernel
theorem dX9_boardFault_79 : decode cX9_boardFault 79 = .ok (.aload_n 0, 1) := by decide +kernel
theorem dX9_boardFault_80 : decode cX9_boardFault 80 = .ok (.iload_n 1, 1) := by decide +kernel
theorem dX9_boardFault_81 : decode cX9_boardFault 81 = .ok (.invokevirtual 130, 3) := by decide +kernel
theorem dX9_boardFault_84 : decode cX9_boardFault 84 = .ok (.ifCond .ne (-45), 3) := by decide +kernel
theorem dX9_boardFault_87 : decode cX9_boardFault 87 = .ok (.aload_n 0, 1) := by decide +kernel
theorem dX9_boardFault_88 : decode cX9_boardFault 88 = .ok (.getfield 108, 3) := by decide +kernel
theorem dX9_boardFault_91 : decode cX9_boardFault 91 = .ok (.ireturn, 1) := by decide +kernel
theorem dX9_boardFault_92 : decode cX9_boardFault 92 = .ok (.bipush (-9), 2) := by decide +kernel
theorem dX9_boardFault_94 : decode cX9_boardFault 94 = .ok (.ireturn, 1) := by decide +kernel
theorem dX9_fault_0 : decode cX9_fault 0 = .ok (.iload_n 1, 1) := by decide +kernel
theorem dX9_fault_1 : decode cX9_fault 1 = .ok (.invokestatic 105, 3) := by decide +kernel
theorem dX9_fault_4 : decode cX9_fault 4 = .ok (.ifCond .ne 5, 3) := by decide +kernel
theorem dX9_fault_7 : decode cX9_fault 7 = .ok (.iconst (-1), 1) := by decide +kernel
theorem dX9_fault_8 : decode cX9_fault 8 = .ok (.ireturn, 1) := by decide +kernel
theorem dX9_fault_9 : decode cX9_fault 9 = .ok (.aload_n 0, 1) := by decide +kernel
theorem dX9_fault_10 : decode cX9_fault 10 = .ok (.getfield 22, 3) := by decide +kernel
theorem dX9_fault_13 : decode cX9_fault 13 = .ok (.iload_n 1, 1) := by decide +kernel
theorem dX9_fault_14 : decode cX9_fault 14 = .ok (.iaload, 1) := by decide +kernel
theorem dX9_fault_15 : decode cX9_fault 15 = .ok (.ifCond .ge 11, 3) := by decide +kernel
theorem dX9_fault_18 : decode cX9_fault 18 = .ok (.aload_n 0, 1) := by decide +kernel
theorem dX9_fault_19 : decode cX9_fault 19 = .ok (.iconst 1, 1) := by decide +kernel
theorem dX9_fault_20 : decode cX9_fault 20 = .ok (.invokevirtual 94, 3) := by decide +kernel
theorem dX9_fault_23 : decode cX9_fault 23 = .ok (.goto 20, 3) := by decide +kernel
theorem dX9_fault_26 : decode cX9_fault 26 = .ok (.iload_n 2, 1) := by decide +kernel
theorem dX9_fault_27 : decode cX9_fault 27 = .ok (.ifCond .eq 11, 3) := by decide +kernel
theorem dX9_fault_30 : decode cX9_fault 30 = .ok (.aload_n 0, 1) := by decide +kernel
theorem dX9_fault_31 : decode cX9_fault 31 = .ok (.iload_n 1, 1) := by decide +kernel
theorem dX9_fault_32 : decode cX9_fault 32 = .ok (.invokevirtual 133, 3) := by decide +kernel
theorem dX9_fault_35 : decode cX9_fault 35 = .ok (.goto 8, 3) := by decide +kernel
theorem dX9_fault_38 : decode cX9_fault 38 = .ok (.aload_n 0, 1) := by decide +kernel
theorem dX9_fault_39 : decode cX9_fault 39 = .ok (.iload_n 1, 1) := by decide +kernel
theorem dX9_fault_40 : decode cX9_fault 40 = .ok (.invokevirtual 136, 3) := by decide +kernel
theorem dX9_fault_43 : decode cX9_fault 43 = .ok (.ireturn, 1) := by decide +kernel
theorem dX9_isPlace_0 : decode cX9_isPlace 0 = .ok (.iload_n 0, 1) := by decide +kernel
theorem dX9_isPlace_1 : decode cX9_isPlace 1 = .ok (.iconst 0, 1) := by decide +kernel
theorem dX9_isPlace_2 : decode cX9_isPlace 2 = .ok (.iconst 3, 1) := by decide +kernel
theorem dX9_isPlace_3 : decode cX9_isPlace 3 = .ok (.invokestatic 80, 3) := by decide +kernel
theorem dX9_isPlace_6 : decode cX9_isPlace 6 = .ok (.ireturn, 1) := by decide +kernel
theorem dX9_bits_0 : decode cX9_bits 0 = .ok (.iconst 0, 1) := by decide +kernel
theorem dX9_bits_1 : decode cX9_bits 1 = .ok (.istore_n 1, 1) := by decide +kernel
theorem dX9_bits_2 : decode cX9_bits 2 = .ok (.iload_n 0, 1) := by decide +kernel
theorem dX9_bits_3 : decode cX9_bits 3 = .ok (.istore_n 2, 1) := by decide +kernel
theorem dX9_bits_4 : decode cX9_bits 4 = .ok (.iload_n 2, 1) := by decide +kernel
theorem dX9_bits_5 : decode cX9_bits 5 = .ok (.ifCond .eq 15, 3) := by decide +kernel
theorem dX9_bits_8 : decode cX9_bits 8 = .ok (.iinc 1 1, 3) := by decide +kernel
theorem dX9_bits_11 : decode cX9_bits 11 = .ok (.iload_n 2, 1) := by decide +kernel
theorem dX9_bits_12 : decode cX9_bits 12 = .ok (.iload_n 2, 1) := by decide +kernel
theorem dX9_bits_13 : decode cX9_bits 13 = .ok (.iconst 1, 1) := by decide +kernel
theorem dX9_bits_14 : decode cX9_bits 14 = .ok (.isub, 1) := by decide +kernel
theorem dX9_bits_15 : decode cX9_bits 15 = .ok (.iand, 1) := by decide +kernel
theorem dX9_bits_16 : decode cX9_bits 16 = .ok (.istore_n 2, 1) := by decide +kernel
theorem dX9_bits_17 : decode cX9_bits 17 = .ok (.goto (-13), 3) := by decide +kernel
theorem dX9_bits_20 : decode cX9_bits 20 = .ok (.iload_n 1, 1) := by decide +kernel
theorem dX9_bits_21 : decode cX9_bits 21 = .ok (.ireturn, 1) := by decide +kernel
theorem dX9_walker_0 : decode cX9_walker 0 = .ok (.iload_n 1, 1) := by decide +kernel
theorem dX9_walker_1 : decode cX9_walker 1 = .ok (.invokestatic 139, 3) := by decide +kernel
theorem dX9_walker_4 : decode cX9_walker 4 = .ok (.ifCond .eq 10, 3) := by decide +kernel
theorem dX9_walker_7 : decode cX9_walker 7 = .ok (.iload_n 2, 1) := by decide +kernel
theorem dX9_walker_8 : decode cX9_walker 8 = .ok (.invokestatic 105, 3) := by decide +kernel
theorem dX9_walker_11 : decode cX9_walker 11 = .ok (.ifCond .ne 5, 3) := by decide +kernel
theorem dX9_walker_14 : decode cX9_walker 14 = .ok (.iconst (-1), 1) := by decide +kernel
theorem dX9_walker_15 : decode cX9_walker 15 = .ok (.ireturn, 1) := by decide +kernel
theorem dX9_walker_16 : decode cX9_walker 16 = .ok (.aload_n 0, 1) := by decide +kernel
theorem dX9_walker_17 : decode cX9_walker 17 = .ok (.getfield 22, 3) := by decide +kernel
theorem dX9_walker_20 : decode cX9_walker 20 = .ok (.iload_n 2, 1) := by decide +kernel
theorem dX9_walker_21 : decode cX9_walker 21 = .ok (.iaload, 1) := by decide +kernel
theorem dX9_walker_22 : decode cX9_walker 22 = .ok (.ifCond .ge 9, 3) := by decide +kernel
theorem dX9_walker_25 : decode cX9_walker 25 = .ok (.aload_n 0, 1) := by decide +kernel
theorem dX9_walker_26 : decode cX9_walker 26 = .ok (.iconst 1, 1) := by decide +kernel
theorem dX9_walker_27 : decode cX9_walker 27 = .ok (.invokevirtual 94, 3) := by decide +kernel
theorem dX9_walker_30 : decode cX9_walker 30 = .ok (.ireturn, 1) := by decide +kernel
theorem dX9_walker_31 : decode cX9_walker 31 = .ok (.aload_n 0, 1) := by decide +kernel
theorem dX9_walker_32 : decode cX9_walker 32 = .ok (.iload_n 2, 1) := by decide +kernel
theorem dX9_walker_33 : decode cX9_walker 33 = .ok (.invokevirtual 136, 3) := by decide +kernel
theorem dX9_walker_36 : decode cX9_walker 36 = .ok (.bipush (-9), 2) := by decide +kernel
theorem dX9_walker_38 : decode cX9_walker 38 = .ok (.if_icmp .eq 6, 3) := by decide +kernel
theorem dX9_walker_41 : decode cX9_walker 41 = .ok (.bipush (-4), 2) := by decide +kernel
theorem dX9_walker_43 : decode cX9_walker 43 = .ok (.ireturn, 1) := by decide +kernel
theorem dX9_walker_44 : decode cX9_walker 44 = .ok (.iconst 0, 1) := by decide +kernel
theorem dX9_walker_45 : decode cX9_walker 45 = .ok (.istore_n 3, 1) := by decide +kernel
theorem dX9_walker_46 : decode cX9_walker 46 = .ok (.iload_n 3, 1) := by decide +kernel
theorem dX9_walker_47 : decode cX9_walker 47 = .ok (.bipush 7, 2) := by decide +kernel
theorem dX9_walker_49 : decode cX9_walker 49 = .ok (.if_icmp .ge 26, 3) := by decide +kernel
theorem dX9_walker_52 : decode cX9_walker 52 = .ok (.aload_n 0, 1) := by decide +kernel
theorem dX9_walker_53 : decode cX9_walker 53 = .ok (.getfield 33, 3) := by decide +kernel
theorem dX9_walker_56 : decode cX9_walker 56 = .ok (.bipush 7, 2) := by decide +kernel
theorem dX9_walker_58 : decode cX9_walker 58 = .ok (.iload_n 1, 1) := by decide +kernel
theorem dX9_walker_59 : decode cX9_walker 59 = .ok (.imul, 1) := by decide +kernel
theorem dX9_walker_60 : decode cX9_walker 60 = .ok (.iload_n 3, 1) := by decide +kernel
theorem dX9_walker_61 : decode cX9_walker 61 = .ok (.iadd, 1) := by decide +kernel
theorem dX9_walker_62 : decode cX9_walker 62 = .ok (.aload_n 0, 1) := by decide +kernel
theorem dX9_walker_63 : decode cX9_walker 63 = .ok (.getfield 42, 3) := by decide +kernel
theorem dX9_walker_66 : decode cX9_walker 66 = .ok (.iload_n 3, 1) := by decide +kernel
theorem dX9_walker_67 : decode cX9_walker 67 = .ok (.iaload, 1) := by decide +kernel
theorem dX9_walker_68 : decode cX9_walker 68 = .ok (.iastore, 1) := by decide +kernel
theorem dX9_walker_69 : decode cX9_walker 69 = .ok (.iinc 3 1, 3) := by decide +kernel
theorem dX9_walker_72 : decode cX9_walker 72 = .ok (.goto (-26), 3) := by decide +kernel
theorem dX9_walker_75 : decode cX9_walker 75 = .ok (.aload_n 0, 1) := by decide +kernel
theorem dX9_walker_76 : decode cX9_walker 76 = .ok (.getfield 29, 3) := by decide +kernel
theorem dX9_walker_79 : decode cX9_walker 79 = .ok (.iload_n 1, 1) := by decide +kernel
theorem dX9_walker_80 : decode cX9_walker 80 = .ok (.iconst 1, 1) := by decide +kernel
theorem dX9_walker_81 : decode cX9_walker 81 = .ok (.bastore, 1) := by decide +kernel
theorem dX9_walker_82 : decode cX9_walker 82 = .ok (.aload_n 0, 1) := by decide +kernel
theorem dX9_walker_83 : decode cX9_walker 83 = .ok (.getfield 42, 3) := by decide +kernel
theorem dX9_walker_86 : decode cX9_walker 86 = .ok (.bipush 6, 2) := by decide +kernel
theorem dX9_walker_88 : decode cX9_walker 88 = .ok (.iaload, 1) := by decide +kernel
theorem dX9_walker_89 : decode cX9_walker 89 = .ok (.invokestatic 142, 3) := by decide +kernel
theorem dX9_walker_92 : decode cX9_walker 92 = .ok (.ireturn, 1) := by decide +kernel
theorem dX9_board_0 : decode cX9_board 0 = .ok (.iload_n 1, 1) := by decide +kernel
theorem dX9_board_1 : decode cX9_board 1 = .ok (.invokestatic 139, 3) := by decide +kernel
theorem dX9_board_4 : decode cX9_board 4 = .ok (.ifCond .eq 10, 3) := by decide +kernel
theorem dX9_board_7 : decode cX9_board 7 = .ok (.iload_n 2, 1) := by decide +kernel
theorem dX9_board_8 : decode cX9_board 8 = .ok (.invokestatic 105, 3) := by decide +kernel
theorem dX9_board_11 : decode cX9_board 11 = .ok (.ifCond .ne 5, 3) := by decide +kernel
theorem dX9_board_14 : decode cX9_board 14 = .ok (.iconst (-1), 1) := by decide +kernel
theorem dX9_board_15 : decode cX9_board 15 = .ok (.ireturn, 1) := by decide +kernel
theorem dX9_board_16 : decode cX9_board 16 = .ok (.aload_n 0, 1) := by decide +kernel
theorem dX9_board_17 : decode cX9_board 17 = .ok (.getfield 22, 3) := by decide +kernel
theorem dX9_board_20 : decode cX9_board 20 = .ok (.iload_n 2, 1) := by decide +kernel
theorem dX9_board_21 : decode cX9_board 21 = .ok (.iaload, 1) := by decide +kernel
theorem dX9_board_22 : decode cX9_board 22 = .ok (.ifCond .ge 9, 3) := by decide +kernel
theorem dX9_board_25 : decode cX9_board 25 = .ok (.aload_n 0, 1) := by decide +kernel
theorem dX9_board_26 : decode cX9_board 26 = .ok (.iconst 1, 1) := by decide +kernel
theorem dX9_board_27 : decode cX9_board 27 = .ok (.invokevirtual 94, 3) := by decide +kernel
theorem dX9_board_30 : decode cX9_board 30 = .ok (.ireturn, 1) := by decide +kernel
theorem dX9_board_31 : decode cX9_board 31 = .ok (.aload_n 0, 1) := by decide +kernel
theorem dX9_board_32 : decode cX9_board 32 = .ok (.iload_n 2, 1) := by decide +kernel
theorem dX9_board_33 : decode cX9_board 33 = .ok (.invokevirtual 133, 3) := by decide +kernel
theorem dX9_board_36 : decode cX9_board 36 = .ok (.bipush (-9), 2) := by decide +kernel
theorem dX9_board_38 : decode cX9_board 38 = .ok (.if_icmp .eq 6, 3) := by decide +kernel
theorem dX9_board_41 : decode cX9_board 41 = .ok (.bipush (-4), 2) := by decide +kernel
theorem dX9_board_43 : decode cX9_board 43 = .ok (.ireturn, 1) := by decide +kernel
theorem dX9_board_44 : decode cX9_board 44 = .ok (.iconst 0, 1) := by decide +kernel
theorem dX9_board_45 : decode cX9_board 45 = .ok (.istore_n 3, 1) := by decide +kernel
theorem dX9_board_46 : decode cX9_board 46 = .ok (.iload_n 3, 1) := by decide +kernel
theorem dX9_board_47 : decode cX9_board 47 = .ok (.bipush 101, 2) := by decide +kernel
theorem dX9_board_49 : decode cX9_board 49 = .ok (.if_icmp .ge 26, 3) := by decide +kernel
theorem dX9_board_52 : decode cX9_board 52 = .ok (.aload_n 0, 1) := by decide +kernel
theorem dX9_board_53 : decode cX9_board 53 = .ok (.getfield 39, 3) := by decide +kernel
theorem dX9_board_56 : decode cX9_board 56 = .ok (.bipush 101, 2) := by decide +kernel
theorem dX9_board_58 : decode cX9_board 58 = .ok (.iload_n 1, 1) := by decide +kernel
theorem dX9_board_59 : decode cX9_board 59 = .ok (.imul, 1) := by decide +kernel
theorem dX9_board_60 : decode cX9_board 60 = .ok (.iload_n 3, 1) := by decide +kernel
theorem dX9_board_61 : decode cX9_board 61 = .ok (.iadd, 1) := by decide +kernel
theorem dX9_board_62 : decode cX9_board 62 = .ok (.aload_n 0, 1) := by decide +kernel
theorem dX9_board_63 : decode cX9_board 63 = .ok (.getfield 45, 3) := by decide +kernel
theorem dX9_board_66 : decode cX9_board 66 = .ok (.iload_n 3, 1) := by decide +kernel
theorem dX9_board_67 : decode cX9_board 67 = .ok (.iaload, 1) := by decide +kernel
theorem dX9_board_68 : decode cX9_board 68 = .ok (.iastore, 1) := by decide +kernel
theorem dX9_board_69 : decode cX9_board 69 = .ok (.iinc 3 1, 3) := by decide +kernel
theorem dX9_board_72 : decode cX9_board 72 = .ok (.goto (-26), 3) := by decide +kernel
theorem dX9_board_75 : decode cX9_board 75 = .ok (.aload_n 0, 1) := by decide +kernel
theorem dX9_board_76 : decode cX9_board 76 = .ok (.getfield 36, 3) := by decide +kernel
theorem dX9_board_79 : decode cX9_board 79 = .ok (.iload_n 1, 1) := by decide +kernel
theorem dX9_board_80 : decode cX9_board 80 = .ok (.iconst 1, 1) := by decide +kernel
theorem dX9_board_81 : decode cX9_board 81 = .ok (.bastore, 1) := by decide +kernel
theorem dX9_board_82 : decode cX9_board 82 = .ok (.aload_n 0, 1) := by decide +kernel
theorem dX9_board_83 : decode cX9_board 83 = .ok (.getfield 127, 3) := by decide +kernel
theorem dX9_board_86 : decode cX9_board 86 = .ok (.ireturn, 1) := by decide +kernel
theorem dX9_about_0 : decode cX9_about 0 = .ok (.iload_n 1, 1) := by decide +kernel
theorem dX9_about_1 : decode cX9_about 1 = .ok (.invokestatic 139, 3) := by decide +kernel
theorem dX9_about_4 : decode cX9_about 4 = .ok (.ifCond .eq 13, 3) := by decide +kernel
theorem dX9_about_7 : decode cX9_about 7 = .ok (.iload_n 2, 1) := by decide +kernel
theorem dX9_about_8 : decode cX9_about 8 = .ok (.iconst 0, 1) := by decide +kernel
theorem dX9_about_9 : decode cX9_about 9 = .ok (.bipush 6, 2) := by decide +kernel
theorem dX9_about_11 : decode cX9_about 11 = .ok (.invokestatic 80, 3) := by decide +kernel
theorem dX9_about_14 : decode cX9_about 14 = .ok (.ifCond .ne 5, 3) := by decide +kernel
theorem dX9_about_17 : decode cX9_about 17 = .ok (.iconst (-1), 1) := by decide +kernel
theorem dX9_about_18 : decode cX9_about 18 = .ok (.ireturn, 1) := by decide +kernel
theorem dX9_about_19 : decode cX9_about 19 = .ok (.aload_n 0, 1) := by decide +kernel
theorem dX9_about_20 : decode cX9_about 20 = .ok (.getfield 29, 3) := by decide +kernel
theorem dX9_about_23 : decode cX9_about 23 = .ok (.iload_n 1, 1) := by decide +kernel
theorem dX9_about_24 : decode cX9_about 24 = .ok (.baload, 1) := by decide +kernel
theorem dX9_about_25 : decode cX9_about 25 = .ok (.ifCond .eq 22, 3) := by decide +kernel
theorem dX9_about_28 : decode cX9_about 28 = .ok (.aload_n 0, 1) := by decide +kernel
theorem dX9_about_29 : decode cX9_about 29 = .ok (.aload_n 0, 1) := by decide +kernel
theorem dX9_about_30 : decode cX9_about 30 = .ok (.getfield 33, 3) := by decide +kernel
theorem dX9_about_33 : decode cX9_about 33 = .ok (.bipush 7, 2) := by decide +kernel
theorem dX9_about_35 : decode cX9_about 35 = .ok (.iload_n 1, 1) := by decide +kernel
theorem dX9_about_36 : decode cX9_about 36 = .ok (.imul, 1) := by decide +kernel
theorem dX9_about_37 : decode cX9_about 37 = .ok (.iload_n 2, 1) := by decide +kernel
theorem dX9_about_38 : decode cX9_about 38 = .ok (.iadd, 1) := by decide +kernel
theorem dX9_about_39 : decode cX9_about 39 = .ok (.iaload, 1) := by decide +kernel
theorem dX9_about_40 : decode cX9_about 40 = .ok (.iconst 1, 1) := by decide +kernel
theorem dX9_about_41 : decode cX9_about 41 = .ok (.invokevirtual 102, 3) := by decide +kernel
theorem dX9_about_44 : decode cX9_about 44 = .ok (.goto 8, 3) := by decide +kernel
theorem dX9_about_47 : decode cX9_about 47 = .ok (.aload_n 0, 1) := by decide +kernel
theorem dX9_about_48 : decode cX9_about 48 = .ok (.iconst 1, 1) := by decide +kernel
theorem dX9_about_49 : decode cX9_about 49 = .ok (.invokevirtual 94, 3) := by decide +kernel
theorem dX9_about_52 : decode cX9_about 52 = .ok (.ireturn, 1) := by decide +kernel
theorem dX9_rub_0 : decode cX9_rub 0 = .ok (.iload_n 1, 1) := by decide +kernel
theorem dX9_rub_1 : decode cX9_rub 1 = .ok (.invokestatic 139, 3) := by decide +kernel
theorem dX9_rub_4 : decode cX9_rub 4 = .ok (.ifCond .eq 13, 3) := by decide +kernel
theorem dX9_rub_7 : decode cX9_rub 7 = .ok (.iload_n 2, 1) := by decide +kernel
theorem dX9_rub_8 : decode cX9_rub 8 = .ok (.iconst 0, 1) := by decide +kernel
theorem dX9_rub_9 : decode cX9_rub 9 = .ok (.bipush 99, 2) := by decide +kernel
theorem dX9_rub_11 : decode cX9_rub 11 = .ok (.invokestatic 80, 3) := by decide +kernel
theorem dX9_rub_14 : decode cX9_rub 14 = .ok (.ifCond .ne 5, 3) := by decide +kernel
theorem dX9_rub_17 : decode cX9_rub 17 = .ok (.iconst (-1), 1) := by decide +kernel
theorem dX9_rub_18 : decode cX9_rub 18 = .ok (.ireturn, 1) := by decide +kernel
theorem dX9_rub_19 : decode cX9_rub 19 = .ok (.aload_n 0, 1) := by decide +kernel
theorem dX9_rub_20 : decode cX9_rub 20 = .ok (.getfield 36, 3) := by decide +kernel
theorem dX9_rub_23 : decode cX9_rub 23 = .ok (.iload_n 1, 1) := by decide +kernel
theorem dX9_rub_24 : decode cX9_rub 24 = .ok (.baload, 1) := by decide +kernel
theorem dX9_rub_25 : decode cX9_rub 25 = .ok (.ifCond .eq 32, 3) := by decide +kernel
theorem dX9_rub_28 : decode cX9_rub 28 = .ok (.aload_n 0, 1) := by decide +kernel
theorem dX9_rub_29 : decode cX9_rub 29 = .ok (.aload_n 0, 1) := by decide +kernel
theorem dX9_rub_30 : decode cX9_rub 30 = .ok (.getfield 39, 3) := by decide +kernel
theorem dX9_rub_33 : decode cX9_rub 33 = .ok (.bipush 101, 2) := by decide +kernel
theorem dX9_rub_35 : decode cX9_rub 35 = .ok (.iload_n 1, 1) := by decide +kernel
theorem dX9_rub_36 : decode cX9_rub 36 = .ok (.imul, 1) := by decide +kernel
theorem dX9_rub_37 : decode cX9_rub 37 = .ok (.iconst 1, 1) := by decide +kernel
theorem dX9_rub_38 : decode cX9_rub 38 = .ok (.iadd, 1) := by decide +kernel
theorem dX9_rub_39 : decode cX9_rub 39 = .ok (.iload_n 2, 1) := by decide +kernel
theorem dX9_rub_40 : decode cX9_rub 40 = .ok (.iadd, 1) := by decide +kernel
theorem dX9_rub_41 : decode cX9_rub 41 = .ok (.iaload, 1) := by decide +kernel
theorem dX9_rub_42 : decode cX9_rub 42 = .ok (.aload_n 0, 1) := by decide +kernel
theorem dX9_rub_43 : decode cX9_rub 43 = .ok (.getfield 39, 3) := by decide +kernel
theorem dX9_rub_46 : decode cX9_rub 46 = .ok (.bipush 101, 2) := by decide +kernel
theorem dX9_rub_48 : decode cX9_rub 48 = .ok (.iload_n 1, 1) := by decide +kernel
theorem dX9_rub_49 : decode cX9_rub 49 = .ok (.imul, 1) := by decide +kernel
theorem dX9_rub_50 : decode cX9_rub 50 = .ok (.iaload, 1) := by decide +kernel
theorem dX9_rub_51 : decode cX9_rub 51 = .ok (.invokevirtual 102, 3) := by decide +kernel
theorem dX9_rub_54 : decode cX9_rub 54 = .ok (.goto 8, 3) := by decide +kernel
theorem dX9_rub_57 : decode cX9_rub 57 = .ok (.aload_n 0, 1) := by decide +kernel
theorem dX9_rub_58 : decode cX9_rub 58 = .ok (.iconst 1, 1) := by decide +kernel
theorem dX9_rub_59 : decode cX9_rub 59 = .ok (.invokevirtual 94, 3) := by decide +kernel
theorem dX9_rub_62 : decode cX9_rub 62 = .ok (.ireturn, 1) := by decide +kernel
theorem dX9_wax_0 : decode cX9_wax 0 = .ok (.iload_n 1, 1) := by decide +kernel
theorem dX9_wax_1 : decode cX9_wax 1 = .ok (.invokestatic 139, 3) := by decide +kernel
theorem dX9_wax_4 : decode cX9_wax 4 = .ok (.ifCond .eq 22, 3) := by decide +kernel
theorem dX9_wax_7 : decode cX9_wax 7 = .ok (.iload_n 2, 1) := by decide +kernel
theorem dX9_wax_8 : decode cX9_wax 8 = .ok (.iconst 0, 1) := by decide +kernel
theorem dX9_wax_9 : decode cX9_wax 9 = .ok (.iconst 1, 1) := by decide +kernel
theorem dX9_wax_10 : decode cX9_wax 10 = .ok (.invokestatic 80, 3) := by decide +kernel
theorem dX9_wax_13 : decode cX9_wax 13 = .ok (.ifCond .eq 13, 3) := by decide +kernel
theorem dX9_wax_16 : decode cX9_wax 16 = .ok (.iload_n 3, 1) := by decide +kernel
theorem dX9_wax_17 : decode cX9_wax 17 = .ok (.iconst 0, 1) := by decide +kernel
theorem dX9_wax_18 : decode cX9_wax 18 = .ok (.bipush 9, 2) := by decide +kernel
theorem dX9_wax_20 : decode cX9_wax 20 = .ok (.invokestatic 80, 3) := by decide +kernel
theorem dX9_wax_23 : decode cX9_wax 23 = .ok (.ifCond .ne 5, 3) := by decide +kernel
theorem dX9_wax_26 : decode cX9_wax 26 = .ok (.iconst (-1), 1) := by decide +kernel
theorem dX9_wax_27 : decode cX9_wax 27 = .ok (.ireturn, 1) := by decide +kernel
theorem dX9_wax_28 : decode cX9_wax 28 = .ok (.aload_n 0, 1) := by decide +kernel
theorem dX9_wax_29 : decode cX9_wax 29 = .ok (.getfield 29, 3) := by decide +kernel
theorem dX9_wax_32 : decode cX9_wax 32 = .ok (.iload_n 1, 1) := by decide +kernel
theorem dX9_wax_33 : decode cX9_wax 33 = .ok (.baload, 1) := by decide +kernel
theorem dX9_wax_34 : decode cX9_wax 34 = .ok (.ifCond .ne 9, 3) := by decide +kernel
theorem dX9_wax_37 : decode cX9_wax 37 = .ok (.aload_n 0, 1) := by decide +kernel
theorem dX9_wax_38 : decode cX9_wax 38 = .ok (.iconst 1, 1) := by decide +kernel
theorem dX9_wax_39 : decode cX9_wax 39 = .ok (.invokevirtual 94, 3) := by decide +kernel
theorem dX9_wax_42 : decode cX9_wax 42 = .ok (.ireturn, 1) := by decide +kernel
theorem dX9_wax_43 : decode cX9_wax 43 = .ok (.aload_n 0, 1) := by decide +kernel
theorem dX9_wax_44 : decode cX9_wax 44 = .ok (.getfield 33, 3) := by decide +kernel
theorem dX9_wax_47 : decode cX9_wax 47 = .ok (.bipush 7, 2) := by decide +kernel
theorem dX9_wax_49 : decode cX9_wax 49 = .ok (.iload_n 1, 1) := by decide +kernel
theorem dX9_wax_50 : decode cX9_wax 50 = .ok (.imul, 1) := by decide +kernel
theorem dX9_wax_51 : decode cX9_wax 51 = .ok (.iconst 4, 1) := by decide +kernel
