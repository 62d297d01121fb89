theorem dX7_term0_0 : decode cX7_term0 0 = .ok (.aload_n 0, 1) := by decide +kernel
theorem dX7_term0_1 : decode cX7_term0 1 = .ok (.invokevirtual 317, 3) := by decide +kernel
theorem dX7_term0_4 : decode cX7_term0 4 = .ok (.istore_n 1, 1) := by decide +kernel
theorem dX7_term0_5 : decode cX7_term0 5 = .ok (.aload_n 0, 1) := by decide +kernel
theorem dX7_term0_6 : decode cX7_term0 6 = .ok (.bipush 42, 2) := by decide +kernel
theorem dX7_term0_8 : decode cX7_term0 8 = .ok (.invokevirtual 212, 3) := by decide +kernel
theorem dX7_term0_11 : decode cX7_term0 11 = .ok (.ifCond .eq 17, 3) := by decide +kernel
theorem dX7_term0_14 : decode cX7_term0 14 = .ok (.aload_n 0, 1) := by decide +kernel
theorem dX7_term0_15 : decode cX7_term0 15 = .ok (.invokevirtual 187, 3) := by decide +kernel
theorem dX7_term0_18 : decode cX7_term0 18 = .ok (.iload_n 1, 1) := by decide +kernel
theorem dX7_term0_19 : decode cX7_term0 19 = .ok (.aload_n 0, 1) := by decide +kernel
theorem dX7_term0_20 : decode cX7_term0 20 = .ok (.invokevirtual 317, 3) := by decide +kernel
theorem dX7_term0_23 : decode cX7_term0 23 = .ok (.imul, 1) := by decide +kernel
theorem dX7_term0_24 : decode cX7_term0 24 = .ok (.istore_n 1, 1) := by decide +kernel
theorem dX7_term0_25 : decode cX7_term0 25 = .ok (.goto (-20), 3) := by decide +kernel
theorem dX7_term0_28 : decode cX7_term0 28 = .ok (.iload_n 1, 1) := by decide +kernel
theorem dX7_term0_29 : decode cX7_term0 29 = .ok (.ireturn, 1) := by decide +kernel
theorem dX7_added0_0 : decode cX7_added0 0 = .ok (.aload_n 0, 1) := by decide +kernel
theorem dX7_added0_1 : decode cX7_added0 1 = .ok (.invokevirtual 320, 3) := by decide +kernel
theorem dX7_added0_4 : decode cX7_added0 4 = .ok (.istore_n 1, 1) := by decide +kernel
theorem dX7_added0_5 : decode cX7_added0 5 = .ok (.aload_n 0, 1) := by decide +kernel
theorem dX7_added0_6 : decode cX7_added0 6 = .ok (.bipush 43, 2) := by decide +kernel
theorem dX7_added0_8 : decode cX7_added0 8 = .ok (.invokevirtual 212, 3) := by decide +kernel
theorem dX7_added0_11 : decode cX7_added0 11 = .ok (.ifCond .ne 12, 3) := by decide +kernel
theorem dX7_added0_14 : decode cX7_added0 14 = .ok (.aload_n 0, 1) := by decide +kernel
theorem dX7_added0_15 : decode cX7_added0 15 = .ok (.bipush 45, 2) := by decide +kernel
theorem dX7_added0_17 : decode cX7_added0 17 = .ok (.invokevirtual 212, 3) := by decide +kernel
theorem dX7_added0_20 : decode cX7_added0 20 = .ok (.ifCond .eq 46, 3) := by decide +kernel
theorem dX7_added0_23 : decode cX7_added0 23 = .ok (.aload_n 0, 1) := by decide +kernel
theorem dX7_added0_24 : decode cX7_added0 24 = .ok (.getfield 167, 3) := by decide +kernel
theorem dX7_added0_27 : decode cX7_added0 27 = .ok (.ldc2_w 229, 3) := by decide +kernel
theorem dX7_added0_30 : decode cX7_added0 30 = .ok (.lcmp, 1) := by decide +kernel
theorem dX7_added0_31 : decode cX7_added0 31 = .ok (.ifCond .ne 7, 3) := by decide +kernel
theorem dX7_added0_34 : decode cX7_added0 34 = .ok (.iconst 1, 1) := by decide +kernel
theorem dX7_added0_35 : decode cX7_added0 35 = .ok (.goto 4, 3) := by decide +kernel
theorem dX7_added0_38 : decode cX7_added0 38 = .ok (.iconst 0, 1) := by decide +kernel
theorem dX7_added0_39 : decode cX7_added0 39 = .ok (.istore_n 2, 1) := by decide +kernel
theorem dX7_added0_40 : decode cX7_added0 40 = .ok (.aload_n 0, 1) := by decide +kernel
theorem dX7_added0_41 : decode cX7_added0 41 = .ok (.invokevirtual 187, 3) := by decide +kernel
theorem dX7_added0_44 : decode cX7_added0 44 = .ok (.aload_n 0, 1) := by decide +kernel
theorem dX7_added0_45 : decode cX7_added0 45 = .ok (.invokevirtual 320, 3) := by decide +kernel
theorem dX7_added0_48 : decode cX7_added0 48 = .ok (.istore_n 3, 1) := by decide +kernel
theorem dX7_added0_49 : decode cX7_added0 49 = .ok (.iload_n 2, 1) := by decide +kernel
theorem dX7_added0_50 : decode cX7_added0 50 = .ok (.ifCond .eq 9, 3) := by decide +kernel
theorem dX7_added0_53 : decode cX7_added0 53 = .ok (.iload_n 1, 1) := by decide +kernel
theorem dX7_added0_54 : decode cX7_added0 54 = .ok (.iload_n 3, 1) := by decide +kernel
theorem dX7_added0_55 : decode cX7_added0 55 = .ok (.iadd, 1) := by decide +kernel
theorem dX7_added0_56 : decode cX7_added0 56 = .ok (.goto 6, 3) := by decide +kernel
theorem dX7_added0_59 : decode cX7_added0 59 = .ok (.iload_n 1, 1) := by decide +kernel
theorem dX7_added0_60 : decode cX7_added0 60 = .ok (.iload_n 3, 1) := by decide +kernel
theorem dX7_added0_61 : decode cX7_added0 61 = .ok (.isub, 1) := by decide +kernel
theorem dX7_added0_62 : decode cX7_added0 62 = .ok (.istore_n 1, 1) := by decide +kernel
theorem dX7_added0_63 : decode cX7_added0 63 = .ok (.goto (-58), 3) := by decide +kernel
theorem dX7_added0_66 : decode cX7_added0 66 = .ok (.iload_n 1, 1) := by decide +kernel
theorem dX7_added0_67 : decode cX7_added0 67 = .ok (.ireturn, 1) := by decide +kernel
theorem dX7_not0_0 : decode cX7_not0 0 = .ok (.aload_n 0, 1) := by decide +kernel
theorem dX7_not0_1 : decode cX7_not0 1 = .ok (.bipush 110, 2) := by decide +kernel
theorem dX7_not0_3 : decode cX7_not0 3 = .ok (.bipush 111, 2) := by decide +kernel
theorem dX7_not0_5 : decode cX7_not0 5 = .ok (.bipush 116, 2) := by decide +kernel
theorem dX7_not0_7 : decode cX7_not0 7 = .ok (.iconst 0, 1) := by decide +kernel
theorem dX7_not0_8 : decode cX7_not0 8 = .ok (.iconst 0, 1) := by decide +kernel
theorem dX7_not0_9 : decode cX7_not0 9 = .ok (.iconst 0, 1) := by decide +kernel
theorem dX7_not0_10 : decode cX7_not0 10 = .ok (.iconst 0, 1) := by decide +kernel
theorem dX7_not0_11 : decode cX7_not0 11 = .ok (.iconst 0, 1) := by decide +kernel
theorem dX7_not0_12 : decode cX7_not0 12 = .ok (.invokevirtual 190, 3) := by decide +kernel
theorem dX7_not0_15 : decode cX7_not0 15 = .ok (.ifCond .eq 37, 3) := by decide +kernel
theorem dX7_not0_18 : decode cX7_not0 18 = .ok (.aload_n 0, 1) := by decide +kernel
theorem dX7_not0_19 : decode cX7_not0 19 = .ok (.invokevirtual 215, 3) := by decide +kernel
theorem dX7_not0_22 : decode cX7_not0 22 = .ok (.ifCond .ne 5, 3) := by decide +kernel
theorem dX7_not0_25 : decode cX7_not0 25 = .ok (.iconst 0, 1) := by decide +kernel
theorem dX7_not0_26 : decode cX7_not0 26 = .ok (.ireturn, 1) := by decide +kernel
theorem dX7_not0_27 : decode cX7_not0 27 = .ok (.aload_n 0, 1) := by decide +kernel
theorem dX7_not0_28 : decode cX7_not0 28 = .ok (.invokevirtual 308, 3) := by decide +kernel
theorem dX7_not0_31 : decode cX7_not0 31 = .ok (.istore_n 1, 1) := by decide +kernel
theorem dX7_not0_32 : decode cX7_not0 32 = .ok (.aload_n 0, 1) := by decide +kernel
theorem dX7_not0_33 : decode cX7_not0 33 = .ok (.dup, 1) := by decide +kernel
theorem dX7_not0_34 : decode cX7_not0 34 = .ok (.getfield 181, 3) := by decide +kernel
theorem dX7_not0_37 : decode cX7_not0 37 = .ok (.iconst 1, 1) := by decide +kernel
theorem dX7_not0_38 : decode cX7_not0 38 = .ok (.isub, 1) := by decide +kernel
theorem dX7_not0_39 : decode cX7_not0 39 = .ok (.putfield 181, 3) := by decide +kernel
theorem dX7_not0_42 : decode cX7_not0 42 = .ok (.iload_n 1, 1) := by decide +kernel
theorem dX7_not0_43 : decode cX7_not0 43 = .ok (.ifCond .ne 7, 3) := by decide +kernel
theorem dX7_not0_46 : decode cX7_not0 46 = .ok (.iconst 1, 1) := by decide +kernel
theorem dX7_not0_47 : decode cX7_not0 47 = .ok (.goto 4, 3) := by decide +kernel
theorem dX7_not0_50 : decode cX7_not0 50 = .ok (.iconst 0, 1) := by decide +kernel
theorem dX7_not0_51 : decode cX7_not0 51 = .ok (.ireturn, 1) := by decide +kernel
theorem dX7_not0_52 : decode cX7_not0 52 = .ok (.aload_n 0, 1) := by decide +kernel
theorem dX7_not0_53 : decode cX7_not0 53 = .ok (.invokevirtual 323, 3) := by decide +kernel
theorem dX7_not0_56 : decode cX7_not0 56 = .ok (.istore_n 1, 1) := by decide +kernel
theorem dX7_not0_57 : decode cX7_not0 57 = .ok (.aload_n 0, 1) := by decide +kernel
theorem dX7_not0_58 : decode cX7_not0 58 = .ok (.bipush 60, 2) := by decide +kernel
theorem dX7_not0_60 : decode cX7_not0 60 = .ok (.invokevirtual 212, 3) := by decide +kernel
theorem dX7_not0_63 : decode cX7_not0 63 = .ok (.ifCond .ne 14, 3) := by decide +kernel
theorem dX7_not0_66 : decode cX7_not0 66 = .ok (.aload_n 0, 1) := by decide +kernel
theorem dX7_not0_67 : decode cX7_not0 67 = .ok (.bipush 61, 2) := by decide +kernel
theorem dX7_not0_69 : decode cX7_not0 69 = .ok (.invokevirtual 212, 3) := by decide +kernel
theorem dX7_not0_72 : decode cX7_not0 72 = .ok (.ifCond .ne 5, 3) := by decide +kernel
theorem dX7_not0_75 : decode cX7_not0 75 = .ok (.iload_n 1, 1) := by decide +kernel
theorem dX7_not0_76 : decode cX7_not0 76 = .ok (.ireturn, 1) := by decide +kernel
theorem dX7_not0_77 : decode cX7_not0 77 = .ok (.aload_n 0, 1) := by decide +kernel
theorem dX7_not0_78 : decode cX7_not0 78 = .ok (.getfield 167, 3) := by decide +kernel
theorem dX7_not0_81 : decode cX7_not0 81 = .ok (.ldc2_w 234, 3) := by decide +kernel
theorem dX7_not0_84 : decode cX7_not0 84 = .ok (.lcmp, 1) := by decide +kernel
theorem dX7_not0_85 : decode cX7_not0 85 = .ok (.ifCond .ne 7, 3) := by decide +kernel
theorem dX7_not0_88 : decode cX7_not0 88 = .ok (.iconst 1, 1) := by decide +kernel
theorem dX7_not0_89 : decode cX7_not0 89 = .ok (.goto 4, 3) := by decide +kernel
theorem dX7_not0_92 : decode cX7_not0 92 = .ok (.iconst 0, 1) := by decide +kernel
theorem dX7_not0_93 : decode cX7_not0 93 = .ok (.istore_n 2, 1) := by decide +kernel
theorem dX7_not0_94 : decode cX7_not0 94 = .ok (.aload_n 0, 1) := by decide +kernel
theorem dX7_not0_95 : decode cX7_not0 95 = .ok (.invokevirtual 187, 3) := by decide +kernel
theorem dX7_not0_98 : decode cX7_not0 98 = .ok (.aload_n 0, 1) := by decide +kernel
theorem dX7_not0_99 : decode cX7_not0 99 = .ok (.invokevirtual 323, 3) := by decide +kernel
theorem dX7_not0_102 : decode cX7_not0 102 = .ok (.istore_n 3, 1) := by decide +kernel
theorem dX7_not0_103 : decode cX7_not0 103 = .ok (.iload_n 2, 1) := by decide +kernel
theorem dX7_not0_104 : decode cX7_not0 104 = .ok (.ifCond .eq 11, 3) := by decide +kernel
theorem dX7_not0_107 : decode cX7_not0 107 = .ok (.iload_n 1, 1) := by decide +kernel
theorem dX7_not0_108 : decode cX7_not0 108 = .ok (.iload_n 3, 1) := by decide +kernel
theorem dX7_not0_109 : decode cX7_not0 109 = .ok (.if_icmp .ge 15, 3) := by decide +kernel
theorem dX7_not0_112 : decode cX7_not0 112 = .ok (.goto 8, 3) := by decide +kernel
theorem dX7_not0_115 : decode cX7_not0 115 = .ok (.iload_n 1, 1) := by decide +kernel
theorem dX7_not0_116 : decode cX7_not0 116 = .ok (.iload_n 3, 1) := by decide +kernel
theorem dX7_not0_117 : decode cX7_not0 117 = .ok (.if_icmp .ne 7, 3) := by decide +kernel
theorem dX7_not0_120 : decode cX7_not0 120 = .ok (.iconst 1, 1) := by decide +kernel
theorem dX7_not0_121 : decode cX7_not0 121 = .ok (.goto 4, 3) := by decide +kernel
theorem dX7_not0_124 : decode cX7_not0 124 = .ok (.iconst 0, 1) := by decide +kernel
theorem dX7_not0_125 : decode cX7_not0 125 = .ok (.ireturn, 1) := by decide +kernel
theorem dX7_both0_0 : decode cX7_both0 0 = .ok (.aload_n 0, 1) := by decide +kernel
theorem dX7_both0_1 : decode cX7_both0 1 = .ok (.invokevirtual 326, 3) := by decide +kernel
theorem dX7_both0_4 : decode cX7_both0 4 = .ok (.istore_n 1, 1) := by decide +kernel
theorem dX7_both0_5 : decode cX7_both0 5 = .ok (.aload_n 0, 1) := by decide +kernel
theorem dX7_both0_6 : decode cX7_both0 6 = .ok (.bipush 97, 2) := by decide +kernel
theorem dX7_both0_8 : decode cX7_both0 8 = .ok (.bipush 110, 2) := by decide +kernel
theorem dX7_both0_10 : decode cX7_both0 10 = .ok (.bipush 100, 2) := by decide +kernel
theorem dX7_both0_12 : decode cX7_both0 12 = .ok (.iconst 0, 1) := by decide +kernel
theorem dX7_both0_13 : decode cX7_both0 13 = .ok (.iconst 0, 1) := by decide +kernel
theorem dX7_both0_14 : decode cX7_both0 14 = .ok (.iconst 0, 1) := by decide +kernel
theorem dX7_both0_15 : decode cX7_both0 15 = .ok (.iconst 0, 1) := by decide +kernel
theorem dX7_both0_16 : decode cX7_both0 16 = .ok (.iconst 0, 1) := by decide +kernel
theorem dX7_both0_17 : decode cX7_both0 17 = .ok (.invokevirtual 190, 3) := by decide +kernel
theorem dX7_both0_20 : decode cX7_both0 20 = .ok (.ifCond .eq 29, 3) := by decide +kernel
theorem dX7_both0_23 : decode cX7_both0 23 = .ok (.aload_n 0, 1) := by decide +kernel
theorem dX7_both0_24 : decode cX7_both0 24 = .ok (.invokevirtual 187, 3) := by decide +kernel
theorem dX7_both0_27 : decode cX7_both0 27 = .ok (.aload_n 0, 1) := by decide +kernel
theorem dX7_both0_28 : decode cX7_both0 28 = .ok (.invokevirtual 326, 3) := by decide +kernel
theorem dX7_both0_31 : decode cX7_both0 31 = .ok (.istore_n 2, 1) := by decide +kernel
theorem dX7_both0_32 : decode cX7_both0 32 = .ok (.iload_n 1, 1) := by decide +kernel
theorem dX7_both0_33 : decode cX7_both0 33 = .ok (.ifCond .eq 11, 3) := by decide +kernel
theorem dX7_both0_36 : decode cX7_both0 36 = .ok (.iload_n 2, 1) := by decide +kernel
theorem dX7_both0_37 : decode cX7_both0 37 = .ok (.ifCond .eq 7, 3) := by decide +kernel
theorem dX7_both0_40 : decode cX7_both0 40 = .ok (.iconst 1, 1) := by decide +kernel
theorem dX7_both0_41 : decode cX7_both0 41 = .ok (.goto 4, 3) := by decide +kernel
theorem dX7_both0_44 : decode cX7_both0 44 = .ok (.iconst 0, 1) := by decide +kernel
theorem dX7_both0_45 : decode cX7_both0 45 = .ok (.istore_n 1, 1) := by decide +kernel
theorem dX7_both0_46 : decode cX7_both0 46 = .ok (.goto (-41), 3) := by decide +kernel
theorem dX7_both0_49 : decode cX7_both0 49 = .ok (.iload_n 1, 1) := by decide +kernel
theorem dX7_both0_50 : decode cX7_both0 50 = .ok (.ireturn, 1) := by decide +kernel
theorem dX7_either0_0 : decode cX7_either0 0 = .ok (.aload_n 0, 1) := by decide +kernel
theorem dX7_either0_1 : decode cX7_either0 1 = .ok (.invokevirtual 329, 3) := by decide +kernel
theorem dX7_either0_4 : decode cX7_either0 4 = .ok (.istore_n 1, 1) := by decide +kernel
theorem dX7_either0_5 : decode cX7_either0 5 = .ok (.aload_n 0, 1) := by decide +kernel
theorem dX7_either0_6 : decode cX7_either0 6 = .ok (.bipush 111, 2) := by decide +kernel
theorem dX7_either0_8 : decode cX7_either0 8 = .ok (.bipush 114, 2) := by decide +kernel
theorem dX7_either0_10 : decode cX7_either0 10 = .ok (.iconst 0, 1) := by decide +kernel
theorem dX7_either0_11 : decode cX7_either0 11 = .ok (.iconst 0, 1) := by decide +kernel
theorem dX7_either0_12 : decode cX7_either0 12 = .ok (.iconst 0, 1) := by decide +kernel
theorem dX7_either0_13 : decode cX7_either0 13 = .ok (.iconst 0, 1) := by decide +kernel
theorem dX7_either0_14 : decode cX7_either0 14 = .ok (.iconst 0, 1) := by decide +kernel
theorem dX7_either0_15 : decode cX7_either0 15 = .ok (.iconst 0, 1) := by decide +kernel
theorem dX7_either0_16 : decode cX7_either0 16 = .ok (.invokevirtual 190, 3) := by decide +kernel
theorem dX7_either0_19 : decode cX7_either0 19 = .ok (.ifCond .eq 29, 3) := by decide +kernel
theorem dX7_either0_22 : decode cX7_either0 22 = .ok (.aload_n 0, 1) := by decide +kernel
theorem dX7_either0_23 : decode cX7_either0 23 = .ok (.invokevirtual 187, 3) := by decide +kernel
theorem dX7_either0_26 : decode cX7_either0 26 = .ok (.aload_n 0, 1) := by decide +kernel
theorem dX7_either0_27 : decode cX7_either0 27 = .ok (.invokevirtual 329, 3) := by decide +kernel
theorem dX7_either0_30 : decode cX7_either0 30 = .ok (.istore_n 2, 1) := by decide +kernel
theorem dX7_either0_31 : decode cX7_either0 31 = .ok (.iload_n 1, 1) := by decide +kernel
theorem dX7_either0_32 : decode cX7_either0 32 = .ok (.ifCond .ne 7, 3) := by decide +kernel
theorem dX7_either0_35 : decode cX7_either0 35 = .ok (.iload_n 2, 1) := by decide +kernel
theorem dX7_either0_36 : decode cX7_either0 36 = .ok (.ifCond .eq 7, 3) := by decide +kernel
theorem dX7_either0_39 : decode cX7_either0 39 = .ok (.iconst 1, 1) := by decide +kernel
theorem dX7_either0_40 : decode cX7_either0 40 = .ok (.goto 4, 3) := by decide +kernel
theorem dX7_either0_43 : decode cX7_either0 43 = .ok (.iconst 0, 1) := by decide +kernel
theorem dX7_either0_44 : decode cX7_either0 44 = .ok (.istore_n 1, 1) := by decide +kernel
theorem dX7_either0_45 : decode cX7_either0 45 = .ok (.goto (-40), 3) := by decide +kernel
theorem dX7_either0_48 : decode cX7_either0 48 = .ok (.iload_n 1, 1) := by decide +kernel
theorem dX7_either0_49 : decode cX7_either0 49 = .ok (.ireturn, 1) := by decide +kernel
theorem dX7_part_0 : decode cX7_part 0 = .ok (.iload_n 1, 1) := by decide +kernel
theorem dX7_part_1 : decode cX7_part 1 = .ok (.ifCond .ne 7, 3) := by decide +kernel
theorem dX7_part_4 : decode cX7_part 4 = .ok (.aload_n 0, 1) := by decide +kernel
theorem dX7_part_5 : decode cX7_part 5 = .ok (.invokevirtual 184, 3) := by decide +kernel
theorem dX7_part_8 : decode cX7_part 8 = .ok (.aload_n 0, 1) := by decide +kernel
theorem dX7_part_9 : decode cX7_part 9 = .ok (.getfield 171, 3) := by decide +kernel
theorem dX7_part_12 : decode cX7_part 12 = .ok (.ifCond .ne 7, 3) := by decide +kernel
theorem dX7_part_15 : decode cX7_part 15 = .ok (.aload_n 0, 1) := by decide +kernel
theorem dX7_part_16 : decode cX7_part 16 = .ok (.invokevirtual 187, 3) := by decide +kernel
theorem dX7_part_19 : decode cX7_part 19 = .ok (.aload_n 0, 1) := by decide +kernel
theorem dX7_part_20 : decode cX7_part 20 = .ok (.getfield 171, 3) := by decide +kernel
theorem dX7_part_23 : decode cX7_part 23 = .ok (.ifCond .eq 7, 3) := by decide +kernel
theorem dX7_part_26 : decode cX7_part 26 = .ok (.iconst 0, 1) := by decide +kernel
theorem dX7_part_27 : decode cX7_part 27 = .ok (.goto 7, 3) := by decide +kernel
theorem dX7_part_30 : decode cX7_part 30 = .ok (.aload_n 0, 1) := by decide +kernel
theorem dX7_part_31 : decode cX7_part 31 = .ok (.invokevirtual 332, 3) := by decide +kernel
theorem dX7_part_34 : decode cX7_part 34 = .ok (.istore_n 2, 1) := by decide +kernel
theorem dX7_part_35 : decode cX7_part 35 = .ok (.aload_n 0, 1) := by decide +kernel
theorem dX7_part_36 : decode cX7_part 36 = .ok (.bipush 59, 2) := by decide +kernel
theorem dX7_part_38 : decode cX7_part 38 = .ok (.invokevirtual 212, 3) := by decide +kernel
theorem dX7_part_41 : decode cX7_part 41 = .ok (.ifCond .ne 7, 3) := by decide +kernel
theorem dX7_part_44 : decode cX7_part 44 = .ok (.aload_n 0, 1) := by decide +kernel
theorem dX7_part_45 : decode cX7_part 45 = .ok (.invokevirtual 184, 3) := by decide +kernel
theorem dX7_part_48 : decode cX7_part 48 = .ok (.aload_n 0, 1) := by decide +kernel
theorem dX7_part_49 : decode cX7_part 49 = .ok (.getfield 171, 3) := by decide +kernel
theorem dX7_part_52 : decode cX7_part 52 = .ok (.ifCond .ne 7, 3) := by decide +kernel
theorem dX7_part_55 : decode cX7_part 55 = .ok (.aload_n 0, 1) := by decide +kernel
theorem dX7_part_56 : decode cX7_part 56 = .ok (.invokevirtual 187, 3) := by decide +kernel
theorem dX7_part_59 : decode cX7_part 59 = .ok (.iload_n 2, 1) := by decide +kernel
theorem dX7_part_60 : decode cX7_part 60 = .ok (.ireturn, 1) := by decide +kernel
theorem dX7_read_0 : decode cX7_read 0 = .ok (.aload_n 0, 1) := by decide +kernel
theorem dX7_read_1 : decode cX7_read 1 = .ok (.sipush 160, 3) := by decide +kernel
theorem dX7_read_4 : decode cX7_read 4 = .ok (.iload_n 1, 1) := by decide +kernel
theorem dX7_read_5 : decode cX7_read 5 = .ok (.imul, 1) := by decide +kernel
theorem dX7_read_6 : decode cX7_read 6 = .ok (.putfield 144, 3) := by decide +kernel
theorem dX7_read_9 : decode cX7_read 9 = .ok (.aload_n 0, 1) := by decide +kernel
theorem dX7_read_10 : decode cX7_read 10 = .ok (.aload_n 0, 1) := by decide +kernel
theorem dX7_read_11 : decode cX7_read 11 = .ok (.getfield 17, 3) := by decide +kernel
theorem dX7_read_14 : decode cX7_read 14 = .ok (.iload_n 1, 1) := by decide +kernel
theorem dX7_read_15 : decode cX7_read 15 = .ok (.iaload, 1) := by decide +kernel
theorem dX7_read_16 : decode cX7_read 16 = .ok (.putfield 141, 3) := by decide +kernel
theorem dX7_read_19 : decode cX7_read 19 = .ok (.aload_n 0, 1) := by decide +kernel
theorem dX7_read_20 : decode cX7_read 20 = .ok (.iconst 0, 1) := by decide +kernel
theorem dX7_read_21 : decode cX7_read 21 = .ok (.putfield 147, 3) := by decide +kernel
theorem dX7_read_24 : decode cX7_read 24 = .ok (.aload_n 0, 1) := by decide +kernel
theorem dX7_read_25 : decode cX7_read 25 = .ok (.iconst 0, 1) := by decide +kernel
theorem dX7_read_26 : decode cX7_read 26 = .ok (.putfield 181, 3) := by decide +kernel
theorem dX7_read_29 : decode cX7_read 29 = .ok (.aload_n 0, 1) := by decide +kernel
theorem dX7_read_30 : decode cX7_read 30 = .ok (.iconst 0, 1) := by decide +kernel
theorem dX7_read_31 : decode cX7_read 31 = .ok (.putfield 171, 3) := by decide +kernel
theorem dX7_read_34 : decode cX7_read 34 = .ok (.aload_n 0, 1) := by decide +kernel
theorem dX7_read_35 : decode cX7_read 35 = .ok (.invokevirtual 187, 3) := by decide +kernel
theorem dX7_read_38 : decode cX7_read 38 = .ok (.aload_n 0, 1) := by decide +kernel
theorem dX7_read_39 : decode cX7_read 39 = .ok (.aload_n 0, 1) := by decide +kernel
theorem dX7_read_40 : decode cX7_read 40 = .ok (.bipush 118, 2) := by decide +kernel
theorem dX7_read_42 : decode cX7_read 42 = .ok (.bipush 105, 2) := by decide +kernel
theorem dX7_read_44 : decode cX7_read 44 = .ok (.bipush 101, 2) := by decide +kernel
theorem dX7_read_46 : decode cX7_read 46 = .ok (.bipush 119, 2) := by decide +kernel
theorem dX7_read_48 : decode cX7_read 48 = .ok (.bipush 115, 2) := by decide +kernel
theorem dX7_read_50 : decode cX7_read 50 = .ok (.iconst 0, 1) := by decide +kernel
theorem dX7_read_51 : decode cX7_read 51 = .ok (.iconst 0, 1) := by decide +kernel
theorem dX7_read_52 : decode cX7_read 52 = .ok (.iconst 0, 1) := by decide +kernel
theorem dX7_read_53 : decode cX7_read 53 = .ok (.invokevirtual 190, 3) := by decide +kernel
theorem dX7_read_56 : decode cX7_read 56 = .ok (.invokevirtual 335, 3) := by decide +kernel
theorem dX7_read_59 : decode cX7_read 59 = .ok (.istore_n 3, 1) := by decide +kernel
theorem dX7_read_60 : decode cX7_read 60 = .ok (.aload_n 0, 1) := by decide +kernel
theorem dX7_read_61 : decode cX7_read 61 = .ok (.getfield 171, 3) := by decide +kernel
theorem dX7_read_64 : decode cX7_read 64 = .ok (.ifCond .eq 7, 3) := by decide +kernel
theorem dX7_read_67 : decode cX7_read 67 = .ok (.iconst 0, 1) := by decide +kernel
theorem dX7_read_68 : decode cX7_read 68 = .ok (.goto 24, 3) := by decide +kernel
theorem dX7_read_71 : decode cX7_read 71 = .ok (.aload_n 0, 1) := by decide +kernel
theorem dX7_read_72 : decode cX7_read 72 = .ok (.aload_n 0, 1) := by decide +kernel
theorem dX7_read_73 : decode cX7_read 73 = .ok (.bipush 119, 2) := by decide +kernel
theorem dX7_read_75 : decode cX7_read 75 = .ok (.bipush 97, 2) := by decide +kernel
theorem dX7_read_77 : decode cX7_read 77 = .ok (.bipush 114, 2) := by decide +kernel
theorem dX7_read_79 : decode cX7_read 79 = .ok (.bipush 109, 2) := by decide +kernel
theorem dX7_read_81 : decode cX7_read 81 = .ok (.bipush 115, 2) := by decide +kernel
theorem dX7_read_83 : decode cX7_read 83 = .ok (.iconst 0, 1) := by decide +kernel
theorem dX7_read_84 : decode cX7_read 84 = .ok (.iconst 0, 1) := by decide +kernel
theorem dX7_read_85 : decode cX7_read 85 = .ok (.iconst 0, 1) := by decide +kernel
theorem dX7_read_86 : decode cX7_read 86 = .ok (.invokevirtual 190, 3) := by decide +kernel
theorem dX7_read_89 : decode cX7_read 89 = .ok (.invokevirtual 335, 3) := by decide +kernel
theorem dX7_read_92 : decode cX7_read 92 = .ok (.istore 4, 2) := by decide +kernel
theorem dX7_read_94 : decode cX7_read 94 = .ok (.aload_n 0, 1) := by decide +kernel
theorem dX7_read_95 : decode cX7_read 95 = .ok (.getfield 171, 3) := by decide +kernel
theorem dX7_read_98 : decode cX7_read 98 = .ok (.ifCond .eq 7, 3) := by decide +kernel
theorem dX7_read_101 : decode cX7_read 101 = .ok (.iconst 0, 1) := by decide +kernel
theorem dX7_read_102 : decode cX7_read 102 = .ok (.goto 24, 3) := by decide +kernel
theorem dX7_read_105 : decode cX7_read 105 = .ok (.aload_n 0, 1) := by decide +kernel
theorem dX7_read_106 : decode cX7_read 106 = .ok (.aload_n 0, 1) := by decide +kernel
theorem dX7_read_107 : decode cX7_read 107 = .ok (.bipush 109, 2) := by decide +kernel
theorem dX7_read_109 : decode cX7_read 109 = .ok (.bipush 105, 2) := by decide +kernel
theorem dX7_read_111 : decode cX7_read 111 = .ok (.bipush 110, 2) := by decide +kernel
theorem dX7_read_113 : decode cX7_read 113 = .ok (.bipush 100, 2) := by decide +kernel
theorem dX7_read_115 : decode cX7_read 115 = .ok (.bipush 115, 2) := by decide +kernel
theorem dX7_read_117 : decode cX7_read 117 = .ok (.iconst 0, 1) := by decide +kernel
theorem dX7_read_118 : decode cX7_read 118 = .ok (.iconst 0, 1) := by decide +kernel
theorem dX7_read_119 : decode cX7_read 119 = .ok (.iconst 0, 1) := by decide +kernel
theorem dX7_read_120 : decode cX7_read 120 = .ok (.invokevirtual 190, 3) := by decide +kernel
theorem dX7_read_123 : decode cX7_read 123 = .ok (.invokevirtual 335, 3) := by decide +kernel
theorem dX7_read_126 : decode cX7_read 126 = .ok (.istore 5, 2) := by decide +kernel
theorem dX7_read_128 : decode cX7_read 128 = .ok (.aload_n 0, 1) := by decide +kernel
theorem dX7_read_129 : decode cX7_read 129 = .ok (.getfield 171, 3) := by decide +kernel
theorem dX7_read_132 : decode cX7_read 132 = .ok (.ifCond .ne 14, 3) := by decide +kernel
theorem dX7_read_135 : decode cX7_read 135 = .ok (.aload_n 0, 1) := by decide +kernel
theorem dX7_read_136 : decode cX7_read 136 = .ok (.getfield 156, 3) := by decide +kernel
theorem dX7_read_139 : decode cX7_read 139 = .ok (.ifCond .eq 7, 3) := by decide +kernel
theorem dX7_read_142 : decode cX7_read 142 = .ok (.aload_n 0, 1) := by decide +kernel
theorem dX7_read_143 : decode cX7_read 143 = .ok (.invokevirtual 184, 3) := by decide +kernel
theorem dX7_read_146 : decode cX7_read 146 = .ok (.iload_n 2, 1) := by decide +kernel
theorem dX7_read_147 : decode cX7_read 147 = .ok (.ifCond .ne 7, 3) := by decide +kernel
theorem dX7_read_150 : decode cX7_read 150 = .ok (.iload_n 3, 1) := by decide +kernel
theorem dX7_read_151 : decode cX7_read 151 = .ok (.goto 15, 3) := by decide +kernel
theorem dX7_read_154 : decode cX7_read 154 = .ok (.iload_n 2, 1) := by decide +kernel
theorem dX7_read_155 : decode cX7_read 155 = .ok (.iconst 1, 1) := by decide +kernel
theorem dX7_read_156 : decode cX7_read 156 = .ok (.if_icmp .ne 8, 3) := by decide +kernel
theorem dX7_read_159 : decode cX7_read 159 = .ok (.iload 4, 2) := by decide +kernel
theorem dX7_read_161 : decode cX7_read 161 = .ok (.goto 5, 3) := by decide +kernel
theorem dX7_read_164 : decode cX7_read 164 = .ok (.iload 5, 2) := by decide +kernel
theorem dX7_read_166 : decode cX7_read 166 = .ok (.ireturn, 1) := by decide +kernel
theorem dX7_text_0 : decode cX7_text 0 = .ok (.aload_n 0, 1) := by decide +kernel
theorem dX7_text_1 : decode cX7_text 1 = .ok (.getfield 67, 3) := by decide +kernel
theorem dX7_text_4 : decode cX7_text 4 = .ok (.bipush 6, 2) := by decide +kernel
theorem dX7_text_6 : decode cX7_text 6 = .ok (.if_icmp .ne 6, 3) := by decide +kernel
theorem dX7_text_9 : decode cX7_text 9 = .ok (.bipush (-4), 2) := by decide +kernel
theorem dX7_text_11 : decode cX7_text 11 = .ok (.ireturn, 1) := by decide +kernel
theorem dX7_text_12 : decode cX7_text 12 = .ok (.iconst 0, 1) := by decide +kernel
theorem dX7_text_13 : decode cX7_text 13 = .ok (.istore_n 1, 1) := by decide +kernel
theorem dX7_text_14 : decode cX7_text 14 = .ok (.iload_n 1, 1) := by decide +kernel
theorem dX7_text_15 : decode cX7_text 15 = .ok (.aload_n 0, 1) := by decide +kernel
theorem dX7_text_16 : decode cX7_text 16 = .ok (.getfield 138, 3) := by decide +kernel
theorem dX7_text_19 : decode cX7_text 19 = .ok (.if_icmp .ge 30, 3) := by decide +kernel
theorem dX7_text_22 : decode cX7_text 22 = .ok (.aload_n 0, 1) := by decide +kernel
theorem dX7_text_23 : decode cX7_text 23 = .ok (.getfield 13, 3) := by decide +kernel
theorem dX7_text_26 : decode cX7_text 26 = .ok (.sipush 160, 3) := by decide +kernel
theorem dX7_text_29 : decode cX7_text 29 = .ok (.aload_n 0, 1) := by decide +kernel
theorem dX7_text_30 : decode cX7_text 30 = .ok (.getfield 67, 3) := by decide +kernel
theorem dX7_text_33 : decode cX7_text 33 = .ok (.imul, 1) := by decide +kernel
theorem dX7_text_34 : decode cX7_text 34 = .ok (.iload_n 1, 1) := by decide +kernel
theorem dX7_text_35 : decode cX7_text 35 = .ok (.iadd, 1) := by decide +kernel
theorem dX7_text_36 : decode cX7_text 36 = .ok (.aload_n 0, 1) := by decide +kernel
theorem dX7_text_37 : decode cX7_text 37 = .ok (.getfield 20, 3) := by decide +kernel
theorem dX7_text_40 : decode cX7_text 40 = .ok (.iload_n 1, 1) := by decide +kernel
theorem dX7_text_41 : decode cX7_text 41 = .ok (.iaload, 1) := by decide +kernel
theorem dX7_text_42 : decode cX7_text 42 = .ok (.iastore, 1) := by decide +kernel
theorem dX7_text_43 : decode cX7_text 43 = .ok (.iinc 1 1, 3) := by decide +kernel
theorem dX7_text_46 : decode cX7_text 46 = .ok (.goto (-32), 3) := by decide +kernel
theorem dX7_text_49 : decode cX7_text 49 = .ok (.aload_n 0, 1) := by decide +kernel
theorem dX7_text_50 : decode cX7_text 50 = .ok (.getfield 17, 3) := by decide +kernel
theorem dX7_text_53 : decode cX7_text 53 = .ok (.aload_n 0, 1) := by decide +kernel
theorem dX7_text_54 : decode cX7_text 54 = .ok (.getfield 67, 3) := by decide +kernel
theorem dX7_text_57 : decode cX7_text 57 = .ok (.aload_n 0, 1) := by decide +kernel
theorem dX7_text_58 : decode cX7_text 58 = .ok (.getfield 138, 3) := by decide +kernel
theorem dX7_text_61 : decode cX7_text 61 = .ok (.iastore, 1) := by decide +kernel
theorem dX7_text_62 : decode cX7_text 62 = .ok (.aload_n 0, 1) := by decide +kernel
theorem dX7_text_63 : decode cX7_text 63 = .ok (.iconst 0, 1) := by decide +kernel
theorem dX7_text_64 : decode cX7_text 64 = .ok (.putfield 138, 3) := by decide +kernel
theorem dX7_text_67 : decode cX7_text 67 = .ok (.aload_n 0, 1) := by decide +kernel
theorem dX7_text_68 : decode cX7_text 68 = .ok (.aload_n 0, 1) := by decide +kernel
theorem dX7_text_69 : decode cX7_text 69 = .ok (.getfield 67, 3) := by decide +kernel
theorem dX7_text_72 : decode cX7_text 72 = .ok (.iconst 0, 1) := by decide +kernel
theorem dX7_text_73 : decode cX7_text 73 = .ok (.invokevirtual 339, 3) := by decide +kernel
theorem dX7_text_76 : decode cX7_text 76 = .ok (.istore_n 1, 1) := by decide +kernel
theorem dX7_text_77 : decode cX7_text 77 = .ok (.aload_n 0, 1) := by decide +kernel
theorem dX7_text_78 : decode cX7_text 78 = .ok (.getfield 171, 3) := by decide +kernel
theorem dX7_text_81 : decode cX7_text 81 = .ok (.ifCond .eq 11, 3) := by decide +kernel
theorem dX7_text_84 : decode cX7_text 84 = .ok (.bipush (-100), 2) := by decide +kernel
theorem dX7_text_86 : decode cX7_text 86 = .ok (.aload_n 0, 1) := by decide +kernel
theorem dX7_text_87 : decode cX7_text 87 = .ok (.getfield 175, 3) := by decide +kernel
theorem dX7_text_90 : decode cX7_text 90 = .ok (.isub, 1) := by decide +kernel
theorem dX7_text_91 : decode cX7_text 91 = .ok (.ireturn, 1) := by decide +kernel
theorem dX7_text_92 : decode cX7_text 92 = .ok (.aload_n 0, 1) := by decide +kernel
theorem dX7_text_93 : decode cX7_text 93 = .ok (.dup, 1) := by decide +kernel
theorem dX7_text_94 : decode cX7_text 94 = .ok (.getfield 67, 3) := by decide +kernel
theorem dX7_text_97 : decode cX7_text 97 = .ok (.iconst 1, 1) := by decide +kernel
theorem dX7_text_98 : decode cX7_text 98 = .ok (.iadd, 1) := by decide +kernel
theorem dX7_text_99 : decode cX7_text 99 = .ok (.putfield 67, 3) := by decide +kernel
theorem dX7_text_102 : decode cX7_text 102 = .ok (.aload_n 0, 1) := by decide +kernel
theorem dX7_text_103 : decode cX7_text 103 = .ok (.getfield 67, 3) := by decide +kernel
theorem dX7_text_106 : decode cX7_text 106 = .ok (.iconst 1, 1) := by decide +kernel
theorem dX7_text_107 : decode cX7_text 107 = .ok (.isub, 1) := by decide +kernel
theorem dX7_text_108 : decode cX7_text 108 = .ok (.ireturn, 1) := by decide +kernel
theorem dX7_force_0 : decode cX7_force 0 = .ok (.iload_n 1, 1) := by decide +kernel
theorem dX7_force_1 : decode cX7_force 1 = .ok (.i2l, 1) := by decide +kernel
theorem dX7_force_2 : decode cX7_force 2 = .ok (.lconst 0, 1) := by decide +kernel
theorem dX7_force_3 : decode cX7_force 3 = .ok (.aload_n 0, 1) := by decide +kernel
theorem dX7_force_4 : decode cX7_force 4 = .ok (.getfield 67, 3) := by decide +kernel
theorem dX7_force_7 : decode cX7_force 7 = .ok (.iconst 1, 1) := by decide +kernel
theorem dX7_force_8 : decode cX7_force 8 = .ok (.isub, 1) := by decide +kernel
theorem dX7_force_9 : decode cX7_force 9 = .ok (.i2l, 1) := by decide +kernel
theorem dX7_force_10 : decode cX7_force 10 = .ok (.invokestatic 73, 3) := by decide +kernel
theorem dX7_force_13 : decode cX7_force 13 = .ok (.ifCond .ne 6, 3) := by decide +kernel
theorem dX7_force_16 : decode cX7_force 16 = .ok (.bipush (-2), 2) := by decide +kernel
theorem dX7_force_18 : decode cX7_force 18 = .ok (.ireturn, 1) := by decide +kernel
theorem dX7_force_19 : decode cX7_force 19 = .ok (.aload_n 0, 1) := by decide +kernel
theorem dX7_force_20 : decode cX7_force 20 = .ok (.getfield 112, 3) := by decide +kernel
theorem dX7_force_23 : decode cX7_force 23 = .ok (.istore_n 2, 1) := by decide +kernel
theorem dX7_force_24 : decode cX7_force 24 = .ok (.aload_n 0, 1) := by decide +kernel
theorem dX7_force_25 : decode cX7_force 25 = .ok (.iload_n 1, 1) := by decide +kernel
theorem dX7_force_26 : decode cX7_force 26 = .ok (.putfield 112, 3) := by decide +kernel
theorem dX7_force_29 : decode cX7_force 29 = .ok (.iload_n 2, 1) := by decide +kernel
theorem dX7_force_30 : decode cX7_force 30 = .ok (.ireturn, 1) := by decide +kernel
theorem dX7_easelOf_0 : decode cX7_easelOf 0 = .ok (.aload_n 0, 1) := by decide +kernel
theorem dX7_easelOf_1 : decode cX7_easelOf 1 = .ok (.getfield 29, 3) := by decide +kernel
theorem dX7_easelOf_4 : decode cX7_easelOf 4 = .ok (.iconst 4, 1) := by decide +kernel
theorem dX7_easelOf_5 : decode cX7_easelOf 5 = .ok (.iload_n 1, 1) := by decide +kernel
theorem dX7_easelOf_6 : decode cX7_easelOf 6 = .ok (.imul, 1) := by decide +kernel
theorem dX7_easelOf_7 : decode cX7_easelOf 7 = .ok (.iconst 1, 1) := by decide +kernel
theorem dX7_easelOf_8 : decode cX7_easelOf 8 = .ok (.iadd, 1) := by decide +kernel
theorem dX7_easelOf_9 : decode cX7_easelOf 9 = .ok (.iaload, 1) := by decide +kernel
theorem dX7_easelOf_10 : decode cX7_easelOf 10 = .ok (.ireturn, 1) := by decide +kernel
theorem dX7_sideOf_0 : decode cX7_sideOf 0 = .ok (.aload_n 0, 1) := by decide +kernel
theorem dX7_sideOf_1 : decode cX7_sideOf 1 = .ok (.iload_n 1, 1) := by decide +kernel
theorem dX7_sideOf_2 : decode cX7_sideOf 2 = .ok (.invokevirtual 342, 3) := by decide +kernel
theorem dX7_sideOf_5 : decode cX7_sideOf 5 = .ok (.bipush 11, 2) := by decide +kernel
theorem dX7_sideOf_7 : decode cX7_sideOf 7 = .ok (.iadd, 1) := by decide +kernel
theorem dX7_sideOf_8 : decode cX7_sideOf 8 = .ok (.aload_n 0, 1) := by decide +kernel
theorem dX7_sideOf_9 : decode cX7_sideOf 9 = .ok (.getfield 23, 3) := by decide +kernel
theorem dX7_sideOf_12 : decode cX7_sideOf 12 = .ok (.iconst 0, 1) := by decide +kernel
theorem dX7_sideOf_13 : decode cX7_sideOf 13 = .ok (.iaload, 1) := by decide +kernel
theorem dX7_sideOf_14 : decode cX7_sideOf 14 = .ok (.isub, 1) := by decide +kernel
theorem dX7_sideOf_15 : decode cX7_sideOf 15 = .ok (.invokestatic 345, 3) := by decide +kernel
theorem dX7_sideOf_18 : decode cX7_sideOf 18 = .ok (.ireturn, 1) := by decide +kernel
theorem dX7_nearOf_0 : decode cX7_nearOf 0 = .ok (.aload_n 0, 1) := by decide +kernel
theorem dX7_nearOf_1 : decode cX7_nearOf 1 = .ok (.aload_n 0, 1) := by decide +kernel
theorem dX7_nearOf_2 : decode cX7_nearOf 2 = .ok (.iload_n 1, 1) := by decide +kernel
theorem dX7_nearOf_3 : decode cX7_nearOf 3 = .ok (.invokevirtual 342, 3) := by decide +kernel
theorem dX7_nearOf_6 : decode cX7_nearOf 6 = .ok (.iconst 1, 1) := by decide +kernel
theorem dX7_nearOf_7 : decode cX7_nearOf 7 = .ok (.iadd, 1) := by decide +kernel
theorem dX7_nearOf_8 : decode cX7_nearOf 8 = .ok (.invokestatic 345, 3) := by decide +kernel
theorem dX7_nearOf_11 : decode cX7_nearOf 11 = .ok (.invokevirtual 83, 3) := by decide +kernel
theorem dX7_nearOf_14 : decode cX7_nearOf 14 = .ok (.iconst (-1), 1) := by decide +kernel
theorem dX7_nearOf_15 : decode cX7_nearOf 15 = .ok (.if_icmp .ne 7, 3) := by decide +kernel
theorem dX7_nearOf_18 : decode cX7_nearOf 18 = .ok (.iconst 0, 1) := by decide +kernel
theorem dX7_nearOf_19 : decode cX7_nearOf 19 = .ok (.goto 4, 3) := by decide +kernel
theorem dX7_nearOf_22 : decode cX7_nearOf 22 = .ok (.iconst 1, 1) := by decide +kernel
theorem dX7_nearOf_23 : decode cX7_nearOf 23 = .ok (.aload_n 0, 1) := by decide +kernel
theorem dX7_nearOf_24 : decode cX7_nearOf 24 = .ok (.aload_n 0, 1) := by decide +kernel
theorem dX7_nearOf_25 : decode cX7_nearOf 25 = .ok (.iload_n 1, 1) := by decide +kernel
theorem dX7_nearOf_26 : decode cX7_nearOf 26 = .ok (.invokevirtual 342, 3) := by decide +kernel
theorem dX7_nearOf_29 : decode cX7_nearOf 29 = .ok (.bipush 11, 2) := by decide +kernel
theorem dX7_nearOf_31 : decode cX7_nearOf 31 = .ok (.iadd, 1) := by decide +kernel
theorem dX7_nearOf_32 : decode cX7_nearOf 32 = .ok (.iconst 1, 1) := by decide +kernel
theorem dX7_nearOf_33 : decode cX7_nearOf 33 = .ok (.isub, 1) := by decide +kernel
theorem dX7_nearOf_34 : decode cX7_nearOf 34 = .ok (.invokestatic 345, 3) := by decide +kernel
theorem dX7_nearOf_37 : decode cX7_nearOf 37 = .ok (.invokevirtual 83, 3) := by decide +kernel
theorem dX7_nearOf_40 : decode cX7_nearOf 40 = .ok (.iconst (-1), 1) := by decide +kernel
theorem dX7_nearOf_41 : decode cX7_nearOf 41 = .ok (.if_icmp .ne 7, 3) := by decide +kernel
theorem dX7_nearOf_44 : decode cX7_nearOf 44 = .ok (.iconst 0, 1) := by decide +kernel
theorem dX7_nearOf_45 : decode cX7_nearOf 45 = .ok (.goto 4, 3) := by decide +kernel
theorem dX7_nearOf_48 : decode cX7_nearOf 48 = .ok (.iconst 1, 1) := by decide +kernel
theorem dX7_nearOf_49 : decode cX7_nearOf 49 = .ok (.iadd, 1) := by decide +kernel
theorem dX7_nearOf_50 : decode cX7_nearOf 50 = .ok (.ireturn, 1) := by decide +kernel
theorem dX7_says_0 : decode cX7_says 0 = .ok (.aload_n 0, 1) := by decide +kernel
theorem dX7_says_1 : decode cX7_says 1 = .ok (.aload_n 0, 1) := by decide +kernel
theorem dX7_says_2 : decode cX7_says 2 = .ok (.iload_n 2, 1) := by decide +kernel
theorem dX7_says_3 : decode cX7_says 3 = .ok (.invokevirtual 118, 3) := by decide +kernel
theorem dX7_says_6 : decode cX7_says 6 = .ok (.putfield 194, 3) := by decide +kernel
theorem dX7_says_9 : decode cX7_says 9 = .ok (.aload_n 0, 1) := by decide +kernel
theorem dX7_says_10 : decode cX7_says 10 = .ok (.aload_n 0, 1) := by decide +kernel
theorem dX7_says_11 : decode cX7_says 11 = .ok (.iload_n 2, 1) := by decide +kernel
theorem dX7_says_12 : decode cX7_says 12 = .ok (.invokevirtual 342, 3) := by decide +kernel
theorem dX7_says_15 : decode cX7_says 15 = .ok (.aload_n 0, 1) := by decide +kernel
theorem dX7_says_16 : decode cX7_says 16 = .ok (.getfield 23, 3) := by decide +kernel
theorem dX7_says_19 : decode cX7_says 19 = .ok (.iconst 1, 1) := by decide +kernel
theorem dX7_says_20 : decode cX7_says 20 = .ok (.iaload, 1) := by decide +kernel
theorem dX7_says_21 : decode cX7_says 21 = .ok (.invokestatic 348, 3) := by decide +kernel
theorem dX7_says_24 : decode cX7_says 24 = .ok (.putfield 197, 3) := by decide +kernel
theorem dX7_says_27 : decode cX7_says 27 = .ok (.aload_n 0, 1) := by decide +kernel
theorem dX7_says_28 : decode cX7_says 28 = .ok (.aload_n 0, 1) := by decide +kernel
theorem dX7_says_29 : decode cX7_says 29 = .ok (.iload_n 2, 1) := by decide +kernel
theorem dX7_says_30 : decode cX7_says 30 = .ok (.invokevirtual 342, 3) := by decide +kernel
theorem dX7_says_33 : decode cX7_says 33 = .ok (.aload_n 0, 1) := by decide +kernel
theorem dX7_says_34 : decode cX7_says 34 = .ok (.getfield 23, 3) := by decide +kernel
theorem dX7_says_37 : decode cX7_says 37 = .ok (.iconst 2, 1) := by decide +kernel
theorem dX7_says_38 : decode cX7_says 38 = .ok (.iaload, 1) := by decide +kernel
theorem dX7_says_39 : decode cX7_says 39 = .ok (.invokestatic 348, 3) := by decide +kernel
theorem dX7_says_42 : decode cX7_says 42 = .ok (.putfield 200, 3) := by decide +kernel
theorem dX7_says_45 : decode cX7_says 45 = .ok (.aload_n 0, 1) := by decide +kernel
theorem dX7_says_46 : decode cX7_says 46 = .ok (.aload_n 0, 1) := by decide +kernel
theorem dX7_says_47 : decode cX7_says 47 = .ok (.getfield 29, 3) := by decide +kernel
theorem dX7_says_50 : decode cX7_says 50 = .ok (.iconst 4, 1) := by decide +kernel
theorem dX7_says_51 : decode cX7_says 51 = .ok (.iload_n 2, 1) := by decide +kernel
theorem dX7_says_52 : decode cX7_says 52 = .ok (.imul, 1) := by decide +kernel
theorem dX7_says_53 : decode cX7_says 53 = .ok (.iaload, 1) := by decide +kernel
theorem dX7_says_54 : decode cX7_says 54 = .ok (.putfield 203, 3) := by decide +kernel
theorem dX7_says_57 : decode cX7_says 57 = .ok (.aload_n 0, 1) := by decide +kernel
theorem dX7_says_58 : decode cX7_says 58 = .ok (.aload_n 0, 1) := by decide +kernel
theorem dX7_says_59 : decode cX7_says 59 = .ok (.getfield 23, 3) := by decide +kernel
theorem dX7_says_62 : decode cX7_says 62 = .ok (.iconst 3, 1) := by decide +kernel
theorem dX7_says_63 : decode cX7_says 63 = .ok (.iaload, 1) := by decide +kernel
theorem dX7_says_64 : decode cX7_says 64 = .ok (.putfield 206, 3) := by decide +kernel
theorem dX7_says_67 : decode cX7_says 67 = .ok (.aload_n 0, 1) := by decide +kernel
theorem dX7_says_68 : decode cX7_says 68 = .ok (.aload_n 0, 1) := by decide +kernel
theorem dX7_says_69 : decode cX7_says 69 = .ok (.iload_n 2, 1) := by decide +kernel
theorem dX7_says_70 : decode cX7_says 70 = .ok (.invokevirtual 133, 3) := by decide +kernel
theorem dX7_says_73 : decode cX7_says 73 = .ok (.putfield 209, 3) := by decide +kernel
theorem dX7_says_76 : decode cX7_says 76 = .ok (.aload_n 0, 1) := by decide +kernel
theorem dX7_says_77 : decode cX7_says 77 = .ok (.aload_n 0, 1) := by decide +kernel
theorem dX7_says_78 : decode cX7_says 78 = .ok (.getfield 112, 3) := by decide +kernel
theorem dX7_says_81 : decode cX7_says 81 = .ok (.iload_n 1, 1) := by decide +kernel
theorem dX7_says_82 : decode cX7_says 82 = .ok (.invokevirtual 339, 3) := by decide +kernel
theorem dX7_says_85 : decode cX7_says 85 = .ok (.iload_n 1, 1) := by decide +kernel
theorem dX7_says_86 : decode cX7_says 86 = .ok (.ifCond .ne 7, 3) := by decide +kernel
theorem dX7_says_89 : decode cX7_says 89 = .ok (.iconst 0, 1) := by decide +kernel
theorem dX7_says_90 : decode cX7_says 90 = .ok (.goto 5, 3) := by decide +kernel
theorem dX7_says_93 : decode cX7_says 93 = .ok (.bipush (-99), 2) := by decide +kernel
theorem dX7_says_95 : decode cX7_says 95 = .ok (.bipush 99, 2) := by decide +kernel
theorem dX7_says_97 : decode cX7_says 97 = .ok (.invokestatic 351, 3) := by decide +kernel
theorem dX7_says_100 : decode cX7_says 100 = .ok (.ireturn, 1) := by decide +kernel
theorem dX7_viewOf_0 : decode cX7_viewOf 0 = .ok (.aload_n 0, 1) := by decide +kernel
theorem dX7_viewOf_1 : decode cX7_viewOf 1 = .ok (.getfield 26, 3) := by decide +kernel
theorem dX7_viewOf_4 : decode cX7_viewOf 4 = .ok (.iload_n 1, 1) := by decide +kernel
theorem dX7_viewOf_5 : decode cX7_viewOf 5 = .ok (.iaload, 1) := by decide +kernel
theorem dX7_viewOf_6 : decode cX7_viewOf 6 = .ok (.istore_n 2, 1) := by decide +kernel
theorem dX7_viewOf_7 : decode cX7_viewOf 7 = .ok (.iload_n 2, 1) := by decide +kernel
theorem dX7_viewOf_8 : decode cX7_viewOf 8 = .ok (.iconst 5, 1) := by decide +kernel
theorem dX7_viewOf_9 : decode cX7_viewOf 9 = .ok (.if_icmp .eq 26, 3) := by decide +kernel
theorem dX7_viewOf_12 : decode cX7_viewOf 12 = .ok (.iload_n 2, 1) := by decide +kernel
theorem dX7_viewOf_13 : decode cX7_viewOf 13 = .ok (.iconst 4, 1) := by decide +kernel
theorem dX7_viewOf_14 : decode cX7_viewOf 14 = .ok (.if_icmp .ne 23, 3) := by decide +kernel
theorem dX7_viewOf_17 : decode cX7_viewOf 17 = .ok (.aload_n 0, 1) := by decide +kernel
theorem dX7_viewOf_18 : decode cX7_viewOf 18 = .ok (.iload_n 1, 1) := by decide +kernel
theorem dX7_viewOf_19 : decode cX7_viewOf 19 = .ok (.invokevirtual 342, 3) := by decide +kernel
theorem dX7_viewOf_22 : decode cX7_viewOf 22 = .ok (.aload_n 0, 1) := by decide +kernel
theorem dX7_viewOf_23 : decode cX7_viewOf 23 = .ok (.getfield 23, 3) := by decide +kernel
theorem dX7_viewOf_26 : decode cX7_viewOf 26 = .ok (.iconst 1, 1) := by decide +kernel
theorem dX7_viewOf_27 : decode cX7_viewOf 27 = .ok (.iaload, 1) := by decide +kernel
theorem dX7_viewOf_28 : decode cX7_viewOf 28 = .ok (.invokestatic 348, 3) := by decide +kernel
theorem dX7_viewOf_31 : decode cX7_viewOf 31 = .ok (.iconst 3, 1) := by decide +kernel
theorem dX7_viewOf_32 : decode cX7_viewOf 32 = .ok (.if_icmp .le 5, 3) := by decide +kernel
theorem dX7_viewOf_35 : decode cX7_viewOf 35 = .ok (.iconst 0, 1) := by decide +kernel
theorem dX7_viewOf_36 : decode cX7_viewOf 36 = .ok (.ireturn, 1) := by decide +kernel
theorem dX7_viewOf_37 : decode cX7_viewOf 37 = .ok (.aload_n 0, 1) := by decide +kernel
theorem dX7_viewOf_38 : decode cX7_viewOf 38 = .ok (.iconst 0, 1) := by decide +kernel
theorem dX7_viewOf_39 : decode cX7_viewOf 39 = .ok (.iload_n 1, 1) := by decide +kernel
theorem dX7_viewOf_40 : decode cX7_viewOf 40 = .ok (.invokevirtual 355, 3) := by decide +kernel
theorem dX7_viewOf_43 : decode cX7_viewOf 43 = .ok (.istore_n 3, 1) := by decide +kernel
theorem dX7_viewOf_44 : decode cX7_viewOf 44 = .ok (.aload_n 0, 1) := by decide +kernel
theorem dX7_viewOf_45 : decode cX7_viewOf 45 = .ok (.iload_n 1, 1) := by decide +kernel
theorem dX7_viewOf_46 : decode cX7_viewOf 46 = .ok (.invokevirtual 118, 3) := by decide +kernel
theorem dX7_viewOf_49 : decode cX7_viewOf 49 = .ok (.i2l, 1) := by decide +kernel
theorem dX7_viewOf_50 : decode cX7_viewOf 50 = .ok (.lconst 1, 1) := by decide +kernel
theorem dX7_viewOf_51 : decode cX7_viewOf 51 = .ok (.ldc2_w 95, 3) := by decide +kernel
theorem dX7_viewOf_54 : decode cX7_viewOf 54 = .ok (.invokestatic 73, 3) := by decide +kernel
theorem dX7_viewOf_57 : decode cX7_viewOf 57 = .ok (.ifCond .eq 9, 3) := by decide +kernel
theorem dX7_viewOf_60 : decode cX7_viewOf 60 = .ok (.iconst 2, 1) := by decide +kernel
theorem dX7_viewOf_61 : decode cX7_viewOf 61 = .ok (.iload_n 3, 1) := by decide +kernel
theorem dX7_viewOf_62 : decode cX7_viewOf 62 = .ok (.imul, 1) := by decide +kernel
theorem dX7_viewOf_63 : decode cX7_viewOf 63 = .ok (.goto 4, 3) := by decide +kernel
theorem dX7_viewOf_66 : decode cX7_viewOf 66 = .ok (.iload_n 3, 1) := by decide +kernel
theorem dX7_viewOf_67 : decode cX7_viewOf 67 = .ok (.istore 4, 2) := by decide +kernel
theorem dX7_viewOf_69 : decode cX7_viewOf 69 = .ok (.iload_n 2, 1) := by decide +kernel
theorem dX7_viewOf_70 : decode cX7_viewOf 70 = .ok (.iconst 1, 1) := by decide +kernel
theorem dX7_viewOf_71 : decode cX7_viewOf 71 = .ok (.if_icmp .ne 8, 3) := by decide +kernel
theorem dX7_viewOf_74 : decode cX7_viewOf 74 = .ok (.iload 4, 2) := by decide +kernel
theorem dX7_viewOf_76 : decode cX7_viewOf 76 = .ok (.goto 54, 3) := by decide +kernel
theorem dX7_viewOf_79 : decode cX7_viewOf 79 = .ok (.iload_n 2, 1) := by decide +kernel
theorem dX7_viewOf_80 : decode cX7_viewOf 80 = .ok (.iconst 3, 1) := by decide +kernel
theorem dX7_viewOf_81 : decode cX7_viewOf 81 = .ok (.if_icmp .ne 32, 3) := by decide +kernel
theorem dX7_viewOf_84 : decode cX7_viewOf 84 = .ok (.aload_n 0, 1) := by decide +kernel
theorem dX7_viewOf_85 : decode cX7_viewOf 85 = .ok (.getfield 23, 3) := by decide +kernel
theorem dX7_viewOf_88 : decode cX7_viewOf 88 = .ok (.iconst 3, 1) := by decide +kernel
theorem dX7_viewOf_89 : decode cX7_viewOf 89 = .ok (.iaload, 1) := by decide +kernel
theorem dX7_viewOf_90 : decode cX7_viewOf 90 = .ok (.aload_n 0, 1) := by decide +kernel
theorem dX7_viewOf_91 : decode cX7_viewOf 91 = .ok (.getfield 29, 3) := by decide +kernel
theorem dX7_viewOf_94 : decode cX7_viewOf 94 = .ok (.iconst 4, 1) := by decide +kernel
theorem dX7_viewOf_95 : decode cX7_viewOf 95 = .ok (.iload_n 1, 1) := by decide +kernel
theorem dX7_viewOf_96 : decode cX7_viewOf 96 = .ok (.imul, 1) := by decide +kernel
theorem dX7_viewOf_97 : decode cX7_viewOf 97 = .ok (.iaload, 1) := by decide +kernel
theorem dX7_viewOf_98 : decode cX7_viewOf 98 = .ok (.if_icmp .ge 10, 3) := by decide +kernel
theorem dX7_viewOf_101 : decode cX7_viewOf 101 = .ok (.iload 4, 2) := by decide +kernel
theorem dX7_viewOf_103 : decode cX7_viewOf 103 = .ok (.iconst 2, 1) := by decide +kernel
theorem dX7_viewOf_104 : decode cX7_viewOf 104 = .ok (.idiv, 1) := by decide +kernel
theorem dX7_viewOf_105 : decode cX7_viewOf 105 = .ok (.goto 25, 3) := by decide +kernel
theorem dX7_viewOf_108 : decode cX7_viewOf 108 = .ok (.iload 4, 2) := by decide +kernel
theorem dX7_viewOf_110 : decode cX7_viewOf 110 = .ok (.goto 20, 3) := by decide +kernel
theorem dX7_viewOf_113 : decode cX7_viewOf 113 = .ok (.iload_n 2, 1) := by decide +kernel
theorem dX7_viewOf_114 : decode cX7_viewOf 114 = .ok (.iconst 2, 1) := by decide +kernel
theorem dX7_viewOf_115 : decode cX7_viewOf 115 = .ok (.if_icmp .eq 8, 3) := by decide +kernel
theorem dX7_viewOf_118 : decode cX7_viewOf 118 = .ok (.iload_n 2, 1) := by decide +kernel
theorem dX7_viewOf_119 : decode cX7_viewOf 119 = .ok (.iconst 4, 1) := by decide +kernel
theorem dX7_viewOf_120 : decode cX7_viewOf 120 = .ok (.if_icmp .ne 9, 3) := by decide +kernel
theorem dX7_viewOf_123 : decode cX7_viewOf 123 = .ok (.iload_n 3, 1) := by decide +kernel
theorem dX7_viewOf_124 : decode cX7_viewOf 124 = .ok (.iconst 2, 1) := by decide +kernel
theorem dX7_viewOf_125 : decode cX7_viewOf 125 = .ok (.iadd, 1) := by decide +kernel
theorem dX7_viewOf_126 : decode cX7_viewOf 126 = .ok (.goto 4, 3) := by decide +kernel
theorem dX7_viewOf_129 : decode cX7_viewOf 129 = .ok (.iload_n 3, 1) := by decide +kernel
theorem dX7_viewOf_130 : decode cX7_viewOf 130 = .ok (.iconst 0, 1) := by decide +kernel
theorem dX7_viewOf_131 : decode cX7_viewOf 131 = .ok (.bipush 99, 2) := by decide +kernel
theorem dX7_viewOf_133 : decode cX7_viewOf 133 = .ok (.invokestatic 351, 3) := by decide +kernel
theorem dX7_viewOf_136 : decode cX7_viewOf 136 = .ok (.ireturn, 1) := by decide +kernel
theorem dX7_warmthOf_0 : decode cX7_warmthOf 0 = .ok (.aload_n 0, 1) := by decide +kernel
theorem dX7_warmthOf_1 : decode cX7_warmthOf 1 = .ok (.getfield 26, 3) := by decide +kernel
theorem dX7_warmthOf_4 : decode cX7_warmthOf 4 = .ok (.iload_n 1, 1) := by decide +kernel
theorem dX7_warmthOf_5 : decode cX7_warmthOf 5 = .ok (.iaload, 1) := by decide +kernel
theorem dX7_warmthOf_6 : decode cX7_warmthOf 6 = .ok (.istore_n 2, 1) := by decide +kernel
theorem dX7_warmthOf_7 : decode cX7_warmthOf 7 = .ok (.iload_n 2, 1) := by decide +kernel
theorem dX7_warmthOf_8 : decode cX7_warmthOf 8 = .ok (.iconst 5, 1) := by decide +kernel
theorem dX7_warmthOf_9 : decode cX7_warmthOf 9 = .ok (.if_icmp .ne 5, 3) := by decide +kernel
theorem dX7_warmthOf_12 : decode cX7_warmthOf 12 = .ok (.iconst 1, 1) := by decide +kernel
theorem dX7_warmthOf_13 : decode cX7_warmthOf 13 = .ok (.ireturn, 1) := by decide +kernel
theorem dX7_warmthOf_14 : decode cX7_warmthOf 14 = .ok (.aload_n 0, 1) := by decide +kernel
theorem dX7_warmthOf_15 : decode cX7_warmthOf 15 = .ok (.iconst 1, 1) := by decide +kernel
theorem dX7_warmthOf_16 : decode cX7_warmthOf 16 = .ok (.iload_n 1, 1) := by decide +kernel
theorem dX7_warmthOf_17 : decode cX7_warmthOf 17 = .ok (.invokevirtual 355, 3) := by decide +kernel
theorem dX7_warmthOf_20 : decode cX7_warmthOf 20 = .ok (.istore_n 3, 1) := by decide +kernel
theorem dX7_warmthOf_21 : decode cX7_warmthOf 21 = .ok (.aload_n 0, 1) := by decide +kernel
theorem dX7_warmthOf_22 : decode cX7_warmthOf 22 = .ok (.iload_n 1, 1) := by decide +kernel
theorem dX7_warmthOf_23 : decode cX7_warmthOf 23 = .ok (.invokevirtual 342, 3) := by decide +kernel
theorem dX7_warmthOf_26 : decode cX7_warmthOf 26 = .ok (.aload_n 0, 1) := by decide +kernel
theorem dX7_warmthOf_27 : decode cX7_warmthOf 27 = .ok (.getfield 23, 3) := by decide +kernel
theorem dX7_warmthOf_30 : decode cX7_warmthOf 30 = .ok (.iconst 2, 1) := by decide +kernel
theorem dX7_warmthOf_31 : decode cX7_warmthOf 31 = .ok (.iaload, 1) := by decide +kernel
theorem dX7_warmthOf_32 : decode cX7_warmthOf 32 = .ok (.invokestatic 348, 3) := by decide +kernel
theorem dX7_warmthOf_35 : decode cX7_warmthOf 35 = .ok (.iconst 2, 1) := by decide +kernel
theorem dX7_warmthOf_36 : decode cX7_warmthOf 36 = .ok (.if_icmp .ge 8, 3) := by decide +kernel
theorem dX7_warmthOf_39 : decode cX7_warmthOf 39 = .ok (.iload_n 3, 1) := by decide +kernel
theorem dX7_warmthOf_40 : decode cX7_warmthOf 40 = .ok (.ineg, 1) := by decide +kernel
theorem dX7_warmthOf_41 : decode cX7_warmthOf 41 = .ok (.goto 4, 3) := by decide +kernel
theorem dX7_warmthOf_44 : decode cX7_warmthOf 44 = .ok (.iload_n 3, 1) := by decide +kernel
theorem dX7_warmthOf_45 : decode cX7_warmthOf 45 = .ok (.istore 4, 2) := by decide +kernel
theorem dX7_warmthOf_47 : decode cX7_warmthOf 47 = .ok (.iload_n 2, 1) := by decide +kernel
theorem dX7_warmthOf_48 : decode cX7_warmthOf 48 = .ok (.iconst 2, 1) := by decide +kernel
theorem dX7_warmthOf_49 : decode cX7_warmthOf 49 = .ok (.if_icmp .ne 8, 3) := by decide +kernel
theorem dX7_warmthOf_52 : decode cX7_warmthOf 52 = .ok (.iload 4, 2) := by decide +kernel
theorem dX7_warmthOf_54 : decode cX7_warmthOf 54 = .ok (.goto 34, 3) := by decide +kernel
theorem dX7_warmthOf_57 : decode cX7_warmthOf 57 = .ok (.iload_n 2, 1) := by decide +kernel
theorem dX7_warmthOf_58 : decode cX7_warmthOf 58 = .ok (.iconst 4, 1) := by decide +kernel
theorem dX7_warmthOf_59 : decode cX7_warmthOf 59 = .ok (.if_icmp .ne 10, 3) := by decide +kernel
theorem dX7_warmthOf_62 : decode cX7_warmthOf 62 = .ok (.iconst 2, 1) := by decide +kernel
theorem dX7_warmthOf_63 : decode cX7_warmthOf 63 = .ok (.iload 4, 2) := by decide +kernel
theorem dX7_warmthOf_65 : decode cX7_warmthOf 65 = .ok (.imul, 1) := by decide +kernel
theorem dX7_warmthOf_66 : decode cX7_warmthOf 66 = .ok (.goto 22, 3) := by decide +kernel
theorem dX7_warmthOf_69 : decode cX7_warmthOf 69 = .ok (.iload_n 2, 1) := by decide +kernel
theorem dX7_warmthOf_70 : decode cX7_warmthOf 70 = .ok (.iconst 3, 1) := by decide +kernel
theorem dX7_warmthOf_71 : decode cX7_warmthOf 71 = .ok (.if_icmp .ne 16, 3) := by decide +kernel
theorem dX7_warmthOf_74 : decode cX7_warmthOf 74 = .ok (.iload_n 3, 1) := by decide +kernel
theorem dX7_warmthOf_75 : decode cX7_warmthOf 75 = .ok (.aload_n 0, 1) := by decide +kernel
theorem dX7_warmthOf_76 : decode cX7_warmthOf 76 = .ok (.getfield 29, 3) := by decide +kernel
theorem dX7_warmthOf_79 : decode cX7_warmthOf 79 = .ok (.iconst 4, 1) := by decide +kernel
theorem dX7_warmthOf_80 : decode cX7_warmthOf 80 = .ok (.iload_n 1, 1) := by decide +kernel
theorem dX7_warmthOf_81 : decode cX7_warmthOf 81 = .ok (.imul, 1) := by decide +kernel
theorem dX7_warmthOf_82 : decode cX7_warmthOf 82 = .ok (.iaload, 1) := by decide +kernel
theorem dX7_warmthOf_83 : decode cX7_warmthOf 83 = .ok (.isub, 1) := by decide +kernel
theorem dX7_warmthOf_84 : decode cX7_warmthOf 84 = .ok (.goto 4, 3) := by decide +kernel
theorem dX7_warmthOf_87 : decode cX7_warmthOf 87 = .ok (.iload_n 3, 1) := by decide +kernel
theorem dX7_warmthOf_88 : decode cX7_warmthOf 88 = .ok (.bipush (-99), 2) := by decide +kernel
theorem dX7_warmthOf_90 : decode cX7_warmthOf 90 = .ok (.bipush 99, 2) := by decide +kernel
theorem dX7_warmthOf_92 : decode cX7_warmthOf 92 = .ok (.invokestatic 351, 3) := by decide +kernel
theorem dX7_warmthOf_95 : decode cX7_warmthOf 95 = .ok (.ireturn, 1) := by decide +kernel
theorem dX7_mindsOf_0 : decode cX7_mindsOf 0 = .ok (.aload_n 0, 1) := by decide +kernel
theorem dX7_mindsOf_1 : decode cX7_mindsOf 1 = .ok (.getfield 26, 3) := by decide +kernel
theorem dX7_mindsOf_4 : decode cX7_mindsOf 4 = .ok (.iload_n 1, 1) := by decide +kernel
theorem dX7_mindsOf_5 : decode cX7_mindsOf 5 = .ok (.iaload, 1) := by decide +kernel
theorem dX7_mindsOf_6 : decode cX7_mindsOf 6 = .ok (.istore_n 2, 1) := by decide +kernel
theorem dX7_mindsOf_7 : decode cX7_mindsOf 7 = .ok (.iload_n 2, 1) := by decide +kernel
theorem dX7_mindsOf_8 : decode cX7_mindsOf 8 = .ok (.iconst 2, 1) := by decide +kernel
theorem dX7_mindsOf_9 : decode cX7_mindsOf 9 = .ok (.if_icmp .eq 13, 3) := by decide +kernel
theorem dX7_mindsOf_12 : decode cX7_mindsOf 12 = .ok (.iload_n 2, 1) := by decide +kernel
theorem dX7_mindsOf_13 : decode cX7_mindsOf 13 = .ok (.iconst 5, 1) := by decide +kernel
theorem dX7_mindsOf_14 : decode cX7_mindsOf 14 = .ok (.if_icmp .eq 8, 3) := by decide +kernel
theorem dX7_mindsOf_17 : decode cX7_mindsOf 17 = .ok (.iload_n 2, 1) := by decide +kernel
theorem dX7_mindsOf_18 : decode cX7_mindsOf 18 = .ok (.iconst 4, 1) := by decide +kernel
theorem dX7_mindsOf_19 : decode cX7_mindsOf 19 = .ok (.if_icmp .ne 18, 3) := by decide +kernel
theorem dX7_mindsOf_22 : decode cX7_mindsOf 22 = .ok (.iload_n 2, 1) := by decide +kernel
theorem dX7_mindsOf_23 : decode cX7_mindsOf 23 = .ok (.iconst 4, 1) := by decide +kernel
theorem dX7_mindsOf_24 : decode cX7_mindsOf 24 = .ok (.if_icmp .ne 11, 3) := by decide +kernel
theorem dX7_mindsOf_27 : decode cX7_mindsOf 27 = .ok (.aload_n 0, 1) := by decide +kernel
theorem dX7_mindsOf_28 : decode cX7_mindsOf 28 = .ok (.iload_n 1, 1) := by decide +kernel
theorem dX7_mindsOf_29 : decode cX7_mindsOf 29 = .ok (.invokevirtual 133, 3) := by decide +kernel
theorem dX7_mindsOf_32 : decode cX7_mindsOf 32 = .ok (.goto 4, 3) := by decide +kernel
theorem dX7_mindsOf_35 : decode cX7_mindsOf 35 = .ok (.iconst 0, 1) := by decide +kernel
theorem dX7_mindsOf_36 : decode cX7_mindsOf 36 = .ok (.ireturn, 1) := by decide +kernel
theorem dX7_mindsOf_37 : decode cX7_mindsOf 37 = .ok (.aload_n 0, 1) := by decide +kernel
theorem dX7_mindsOf_38 : decode cX7_mindsOf 38 = .ok (.iconst 2, 1) := by decide +kernel
theorem dX7_mindsOf_39 : decode cX7_mindsOf 39 = .ok (.iload_n 1, 1) := by decide +kernel
theorem dX7_mindsOf_40 : decode cX7_mindsOf 40 = .ok (.invokevirtual 355, 3) := by decide +kernel
theorem dX7_mindsOf_43 : decode cX7_mindsOf 43 = .ok (.istore_n 3, 1) := by decide +kernel
theorem dX7_mindsOf_44 : decode cX7_mindsOf 44 = .ok (.iload_n 2, 1) := by decide +kernel
theorem dX7_mindsOf_45 : decode cX7_mindsOf 45 = .ok (.iconst 1, 1) := by decide +kernel
theorem dX7_mindsOf_46 : decode cX7_mindsOf 46 = .ok (.if_icmp .eq 8, 3) := by decide +kernel
theorem dX7_mindsOf_49 : decode cX7_mindsOf 49 = .ok (.iload_n 2, 1) := by decide +kernel
theorem dX7_mindsOf_50 : decode cX7_mindsOf 50 = .ok (.iconst 3, 1) := by decide +kernel
theorem dX7_mindsOf_51 : decode cX7_mindsOf 51 = .ok (.if_icmp .ne 9, 3) := by decide +kernel
theorem dX7_mindsOf_54 : decode cX7_mindsOf 54 = .ok (.iload_n 3, 1) := by decide +kernel
theorem dX7_mindsOf_55 : decode cX7_mindsOf 55 = .ok (.iconst 1, 1) := by decide +kernel
theorem dX7_mindsOf_56 : decode cX7_mindsOf 56 = .ok (.iadd, 1) := by decide +kernel
theorem dX7_mindsOf_57 : decode cX7_mindsOf 57 = .ok (.goto 4, 3) := by decide +kernel
theorem dX7_mindsOf_60 : decode cX7_mindsOf 60 = .ok (.iload_n 3, 1) := by decide +kernel
theorem dX7_mindsOf_61 : decode cX7_mindsOf 61 = .ok (.bipush (-99), 2) := by decide +kernel
theorem dX7_mindsOf_63 : decode cX7_mindsOf 63 = .ok (.bipush 99, 2) := by decide +kernel
theorem dX7_mindsOf_65 : decode cX7_mindsOf 65 = .ok (.invokestatic 351, 3) := by decide +kernel
theorem dX7_mindsOf_68 : decode cX7_mindsOf 68 = .ok (.ireturn, 1) := by decide +kernel
theorem dX7_pleasedBy_0 : decode cX7_pleasedBy 0 = .ok (.aload_n 0, 1) := by decide +kernel
theorem dX7_pleasedBy_1 : decode cX7_pleasedBy 1 = .ok (.iload_n 1, 1) := by decide +kernel
theorem dX7_pleasedBy_2 : decode cX7_pleasedBy 2 = .ok (.invokevirtual 121, 3) := by decide +kernel
theorem dX7_pleasedBy_5 : decode cX7_pleasedBy 5 = .ok (.aload_n 0, 1) := by decide +kernel
theorem dX7_pleasedBy_6 : decode cX7_pleasedBy 6 = .ok (.iload_n 1, 1) := by decide +kernel
theorem dX7_pleasedBy_7 : decode cX7_pleasedBy 7 = .ok (.invokevirtual 124, 3) := by decide +kernel
theorem dX7_pleasedBy_10 : decode cX7_pleasedBy 10 = .ok (.iadd, 1) := by decide +kernel
theorem dX7_pleasedBy_11 : decode cX7_pleasedBy 11 = .ok (.aload_n 0, 1) := by decide +kernel
theorem dX7_pleasedBy_12 : decode cX7_pleasedBy 12 = .ok (.iload_n 1, 1) := by decide +kernel
theorem dX7_pleasedBy_13 : decode cX7_pleasedBy 13 = .ok (.invokevirtual 127, 3) := by decide +kernel
theorem dX7_pleasedBy_16 : decode cX7_pleasedBy 16 = .ok (.isub, 1) := by decide +kernel
theorem dX7_pleasedBy_17 : decode cX7_pleasedBy 17 = .ok (.ireturn, 1) := by decide +kernel
theorem dX7_wholeNow_0 : decode cX7_wholeNow 0 = .ok (.iconst 0, 1) := by decide +kernel
theorem dX7_wholeNow_1 : decode cX7_wholeNow 1 = .ok (.istore_n 1, 1) := by decide +kernel
theorem dX7_wholeNow_2 : decode cX7_wholeNow 2 = .ok (.iconst 0, 1) := by decide +kernel
theorem dX7_wholeNow_3 : decode cX7_wholeNow 3 = .ok (.istore_n 2, 1) := by decide +kernel
theorem dX7_wholeNow_4 : decode cX7_wholeNow 4 = .ok (.iload_n 2, 1) := by decide +kernel
theorem dX7_wholeNow_5 : decode cX7_wholeNow 5 = .ok (.aload_n 0, 1) := by decide +kernel
theorem dX7_wholeNow_6 : decode cX7_wholeNow 6 = .ok (.getfield 70, 3) := by decide +kernel
theorem dX7_wholeNow_9 : decode cX7_wholeNow 9 = .ok (.if_icmp .ge 17, 3) := by decide +kernel
theorem dX7_wholeNow_12 : decode cX7_wholeNow 12 = .ok (.iload_n 1, 1) := by decide +kernel
theorem dX7_wholeNow_13 : decode cX7_wholeNow 13 = .ok (.aload_n 0, 1) := by decide +kernel
theorem dX7_wholeNow_14 : decode cX7_wholeNow 14 = .ok (.iload_n 2, 1) := by decide +kernel
theorem dX7_wholeNow_15 : decode cX7_wholeNow 15 = .ok (.invokevirtual 130, 3) := by decide +kernel
theorem dX7_wholeNow_18 : decode cX7_wholeNow 18 = .ok (.iadd, 1) := by decide +kernel
theorem dX7_wholeNow_19 : decode cX7_wholeNow 19 = .ok (.istore_n 1, 1) := by decide +kernel
theorem dX7_wholeNow_20 : decode cX7_wholeNow 20 = .ok (.iinc 2 1, 3) := by decide +kernel
theorem dX7_wholeNow_23 : decode cX7_wholeNow 23 = .ok (.goto (-19), 3) := by decide +kernel
theorem dX7_wholeNow_26 : decode cX7_wholeNow 26 = .ok (.iload_n 1, 1) := by decide +kernel
theorem dX7_wholeNow_27 : decode cX7_wholeNow 27 = .ok (.ireturn, 1) := by decide +kernel
theorem dX7_isTurnStep_0 : decode cX7_isTurnStep 0 = .ok (.iload_n 0, 1) := by decide +kernel
theorem dX7_isTurnStep_1 : decode cX7_isTurnStep 1 = .ok (.i2l, 1) := by decide +kernel
theorem dX7_isTurnStep_2 : decode cX7_isTurnStep 2 = .ok (.lconst 0, 1) := by decide +kernel
theorem dX7_isTurnStep_3 : decode cX7_isTurnStep 3 = .ok (.ldc2_w 358, 3) := by decide +kernel
theorem dX7_isTurnStep_6 : decode cX7_isTurnStep 6 = .ok (.invokestatic 73, 3) := by decide +kernel
theorem dX7_isTurnStep_9 : decode cX7_isTurnStep 9 = .ok (.ifCond .eq 16, 3) := by decide +kernel
theorem dX7_isTurnStep_12 : decode cX7_isTurnStep 12 = .ok (.iload_n 0, 1) := by decide +kernel
theorem dX7_isTurnStep_13 : decode cX7_isTurnStep 13 = .ok (.bipush 100, 2) := by decide +kernel
theorem dX7_isTurnStep_15 : decode cX7_isTurnStep 15 = .ok (.irem, 1) := by decide +kernel
theorem dX7_isTurnStep_16 : decode cX7_isTurnStep 16 = .ok (.bipush 11, 2) := by decide +kernel
theorem dX7_isTurnStep_18 : decode cX7_isTurnStep 18 = .ok (.if_icmp .ge 7, 3) := by decide +kernel
theorem dX7_isTurnStep_21 : decode cX7_isTurnStep 21 = .ok (.iconst 1, 1) := by decide +kernel
theorem dX7_isTurnStep_22 : decode cX7_isTurnStep 22 = .ok (.goto 4, 3) := by decide +kernel
theorem dX7_isTurnStep_25 : decode cX7_isTurnStep 25 = .ok (.iconst 0, 1) := by decide +kernel
theorem dX7_isTurnStep_26 : decode cX7_isTurnStep 26 = .ok (.ireturn, 1) := by decide +kernel
theorem dX7_passes_0 : decode cX7_passes 0 = .ok (.iconst 0, 1) := by decide +kernel
theorem dX7_passes_1 : decode cX7_passes 1 = .ok (.istore_n 3, 1) := by decide +kernel
theorem dX7_passes_2 : decode cX7_passes 2 = .ok (.iconst 0, 1) := by decide +kernel
theorem dX7_passes_3 : decode cX7_passes 3 = .ok (.istore 4, 2) := by decide +kernel
theorem dX7_passes_5 : decode cX7_passes 5 = .ok (.iload 4, 2) := by decide +kernel
theorem dX7_passes_7 : decode cX7_passes 7 = .ok (.aload_n 0, 1) := by decide +kernel
theorem dX7_passes_8 : decode cX7_passes 8 = .ok (.getfield 70, 3) := by decide +kernel
theorem dX7_passes_11 : decode cX7_passes 11 = .ok (.if_icmp .ge 22, 3) := by decide +kernel
theorem dX7_passes_14 : decode cX7_passes 14 = .ok (.aload_n 0, 1) := by decide +kernel
theorem dX7_passes_15 : decode cX7_passes 15 = .ok (.getfield 32, 3) := by decide +kernel
theorem dX7_passes_18 : decode cX7_passes 18 = .ok (.iload 4, 2) := by decide +kernel
theorem dX7_passes_20 : decode cX7_passes 20 = .ok (.aload_n 0, 1) := by decide +kernel
theorem dX7_passes_21 : decode cX7_passes 21 = .ok (.iload 4, 2) := by decide +kernel
theorem dX7_passes_23 : decode cX7_passes 23 = .ok (.invokevirtual 130, 3) := by decide +kernel
theorem dX7_passes_26 : decode cX7_passes 26 = .ok (.iastore, 1) := by decide +kernel
theorem dX7_passes_27 : decode cX7_passes 27 = .ok (.iinc 4 1, 3) := by decide +kernel
theorem dX7_passes_30 : decode cX7_passes 30 = .ok (.goto (-25), 3) := by decide +kernel
theorem dX7_passes_33 : decode cX7_passes 33 = .ok (.iconst 0, 1) := by decide +kernel
theorem dX7_passes_34 : decode cX7_passes 34 = .ok (.istore 4, 2) := by decide +kernel
theorem dX7_passes_36 : decode cX7_passes 36 = .ok (.iload 4, 2) := by decide +kernel
theorem dX7_passes_38 : decode cX7_passes 38 = .ok (.aload_n 0, 1) := by decide +kernel
theorem dX7_passes_39 : decode cX7_passes 39 = .ok (.getfield 70, 3) := by decide +kernel
theorem dX7_passes_42 : decode cX7_passes 42 = .ok (.if_icmp .ge 97, 3) := by decide +kernel
theorem dX7_passes_45 : decode cX7_passes 45 = .ok (.iload_n 3, 1) := by decide +kernel
theorem dX7_passes_46 : decode cX7_passes 46 = .ok (.aload_n 0, 1) := by decide +kernel
theorem dX7_passes_47 : decode cX7_passes 47 = .ok (.getfield 32, 3) := by decide +kernel
theorem dX7_passes_50 : decode cX7_passes 50 = .ok (.iload 4, 2) := by decide +kernel
theorem dX7_passes_52 : decode cX7_passes 52 = .ok (.iaload, 1) := by decide +kernel
theorem dX7_passes_53 : decode cX7_passes 53 = .ok (.iadd, 1) := by decide +kernel
theorem dX7_passes_54 : decode cX7_passes 54 = .ok (.istore_n 3, 1) := by decide +kernel
theorem dX7_passes_55 : decode cX7_passes 55 = .ok (.aload_n 0, 1) := by decide +kernel
theorem dX7_passes_56 : decode cX7_passes 56 = .ok (.getfield 35, 3) := by decide +kernel
theorem dX7_passes_59 : decode cX7_passes 59 = .ok (.iload 4, 2) := by decide +kernel
theorem dX7_passes_61 : decode cX7_passes 61 = .ok (.dup2, 1) := by decide +kernel
theorem dX7_passes_62 : decode cX7_passes 62 = .ok (.iaload, 1) := by decide +kernel
theorem dX7_passes_63 : decode cX7_passes 63 = .ok (.aload_n 0, 1) := by decide +kernel
theorem dX7_passes_64 : decode cX7_passes 64 = .ok (.getfield 32, 3) := by decide +kernel
theorem dX7_passes_67 : decode cX7_passes 67 = .ok (.iload 4, 2) := by decide +kernel
theorem dX7_passes_69 : decode cX7_passes 69 = .ok (.iaload, 1) := by decide +kernel
theorem dX7_passes_70 : decode cX7_passes 70 = .ok (.iadd, 1) := by decide +kernel
theorem dX7_passes_71 : decode cX7_passes 71 = .ok (.iastore, 1) := by decide +kernel
theorem dX7_passes_72 : decode cX7_passes 72 = .ok (.aload_n 0, 1) := by decide +kernel
theorem dX7_passes_73 : decode cX7_passes 73 = .ok (.getfield 29, 3) := by decide +kernel
theorem dX7_passes_76 : decode cX7_passes 76 = .ok (.iconst 4, 1) := by decide +kernel
theorem dX7_passes_77 : decode cX7_passes 77 = .ok (.iload 4, 2) := by decide +kernel
theorem dX7_passes_79 : decode cX7_passes 79 = .ok (.imul, 1) := by decide +kernel
theorem dX7_passes_80 : decode cX7_passes 80 = .ok (.iconst 2, 1) := by decide +kernel
theorem dX7_passes_81 : decode cX7_passes 81 = .ok (.iadd, 1) := by decide +kernel
theorem dX7_passes_82 : decode cX7_passes 82 = .ok (.dup2, 1) := by decide +kernel
theorem dX7_passes_83 : decode cX7_passes 83 = .ok (.iaload, 1) := by decide +kernel
theorem dX7_passes_84 : decode cX7_passes 84 = .ok (.iconst 1, 1) := by decide +kernel
theorem dX7_passes_85 : decode cX7_passes 85 = .ok (.aload_n 0, 1) := by decide +kernel
theorem dX7_passes_86 : decode cX7_passes 86 = .ok (.iload 4, 2) := by decide +kernel
theorem dX7_passes_88 : decode cX7_passes 88 = .ok (.invokevirtual 118, 3) := by decide +kernel
theorem dX7_passes_91 : decode cX7_passes 91 = .ok (.ishl, 1) := by decide +kernel
theorem dX7_passes_92 : decode cX7_passes 92 = .ok (.ior, 1) := by decide +kernel
theorem dX7_passes_93 : decode cX7_passes 93 = .ok (.iastore, 1) := by decide +kernel
theorem dX7_passes_94 : decode cX7_passes 94 = .ok (.aload_n 0, 1) := by decide +kernel
theorem dX7_passes_95 : decode cX7_passes 95 = .ok (.getfield 29, 3) := by decide +kernel
theorem dX7_passes_98 : decode cX7_passes 98 = .ok (.iconst 4, 1) := by decide +kernel
theorem dX7_passes_99 : decode cX7_passes 99 = .ok (.iload 4, 2) := by decide +kernel
theorem dX7_passes_101 : decode cX7_passes 101 = .ok (.imul, 1) := by decide +kernel
theorem dX7_passes_102 : decode cX7_passes 102 = .ok (.iconst 3, 1) := by decide +kernel
theorem dX7_passes_103 : decode cX7_passes 103 = .ok (.iadd, 1) := by decide +kernel
theorem dX7_passes_104 : decode cX7_passes 104 = .ok (.aload_n 0, 1) := by decide +kernel
theorem dX7_passes_105 : decode cX7_passes 105 = .ok (.getfield 29, 3) := by decide +kernel
theorem dX7_passes_108 : decode cX7_passes 108 = .ok (.iconst 4, 1) := by decide +kernel
theorem dX7_passes_109 : decode cX7_passes 109 = .ok (.iload 4, 2) := by decide +kernel
theorem dX7_passes_111 : decode cX7_passes 111 = .ok (.imul, 1) := by decide +kernel
theorem dX7_passes_112 : decode cX7_passes 112 = .ok (.iconst 3, 1) := by decide +kernel
theorem dX7_passes_113 : decode cX7_passes 113 = .ok (.iadd, 1) := by decide +kernel
theorem dX7_passes_114 : decode cX7_passes 114 = .ok (.iaload, 1) := by decide +kernel
theorem dX7_passes_115 : decode cX7_passes 115 = .ok (.aload_n 0, 1) := by decide +kernel
theorem dX7_passes_116 : decode cX7_passes 116 = .ok (.getfield 32, 3) := by decide +kernel
theorem dX7_passes_119 : decode cX7_passes 119 = .ok (.iload 4, 2) := by decide +kernel
theorem dX7_passes_121 : decode cX7_passes 121 = .ok (.iaload, 1) := by decide +kernel
theorem dX7_passes_122 : decode cX7_passes 122 = .ok (.iadd, 1) := by decide +kernel
theorem dX7_passes_123 : decode cX7_passes 123 = .ok (.ldc_w 360, 3) := by decide +kernel
theorem dX7_passes_126 : decode cX7_passes 126 = .ok (.ldc_w 361, 3) := by decide +kernel
theorem dX7_passes_129 : decode cX7_passes 129 = .ok (.invokestatic 351, 3) := by decide +kernel
theorem dX7_passes_132 : decode cX7_passes 132 = .ok (.iastore, 1) := by decide +kernel
theorem dX7_passes_133 : decode cX7_passes 133 = .ok (.iinc 4 1, 3) := by decide +kernel
theorem dX7_passes_136 : decode cX7_passes 136 = .ok (.goto (-100), 3) := by decide +kernel
theorem dX7_passes_139 : decode cX7_passes 139 = .ok (.iconst 0, 1) := by decide +kernel
theorem dX7_passes_140 : decode cX7_passes 140 = .ok (.istore 4, 2) := by decide +kernel
theorem dX7_passes_142 : decode cX7_passes 142 = .ok (.iload 4, 2) := by decide +kernel
theorem dX7_passes_144 : decode cX7_passes 144 = .ok (.aload_n 0, 1) := by decide +kernel
theorem dX7_passes_145 : decode cX7_passes 145 = .ok (.getfield 70, 3) := by decide +kernel
theorem dX7_passes_148 : decode cX7_passes 148 = .ok (.if_icmp .ge 36, 3) := by decide +kernel
theorem dX7_passes_151 : decode cX7_passes 151 = .ok (.aload_n 0, 1) := by decide +kernel
theorem dX7_passes_152 : decode cX7_passes 152 = .ok (.getfield 29, 3) := by decide +kernel
theorem dX7_passes_155 : decode cX7_passes 155 = .ok (.iconst 4, 1) := by decide +kernel
theorem dX7_passes_156 : decode cX7_passes 156 = .ok (.iload 4, 2) := by decide +kernel
theorem dX7_passes_158 : decode cX7_passes 158 = .ok (.imul, 1) := by decide +kernel
theorem dX7_passes_159 : decode cX7_passes 159 = .ok (.iconst 1, 1) := by decide +kernel
theorem dX7_passes_160 : decode cX7_passes 160 = .ok (.iadd, 1) := by decide +kernel
theorem dX7_passes_161 : decode cX7_passes 161 = .ok (.aload_n 0, 1) := by decide +kernel
theorem dX7_passes_162 : decode cX7_passes 162 = .ok (.getfield 29, 3) := by decide +kernel
theorem dX7_passes_165 : decode cX7_passes 165 = .ok (.iconst 4, 1) := by decide +kernel
theorem dX7_passes_166 : decode cX7_passes 166 = .ok (.iload 4, 2) := by decide +kernel
theorem dX7_passes_168 : decode cX7_passes 168 = .ok (.imul, 1) := by decide +kernel
theorem dX7_passes_169 : decode cX7_passes 169 = .ok (.iconst 1, 1) := by decide +kernel
theorem dX7_passes_170 : decode cX7_passes 170 = .ok (.iadd, 1) := by decide +kernel
theorem dX7_passes_171 : decode cX7_passes 171 = .ok (.iaload, 1) := by decide +kernel
theorem dX7_passes_172 : decode cX7_passes 172 = .ok (.iload_n 2, 1) := by decide +kernel
theorem dX7_passes_173 : decode cX7_passes 173 = .ok (.iadd, 1) := by decide +kernel
theorem dX7_passes_174 : decode cX7_passes 174 = .ok (.invokestatic 345, 3) := by decide +kernel
theorem dX7_passes_177 : decode cX7_passes 177 = .ok (.iastore, 1) := by decide +kernel
theorem dX7_passes_178 : decode cX7_passes 178 = .ok (.iinc 4 1, 3) := by decide +kernel
theorem dX7_passes_181 : decode cX7_passes 181 = .ok (.goto (-39), 3) := by decide +kernel
theorem dX7_passes_184 : decode cX7_passes 184 = .ok (.aload_n 0, 1) := by decide +kernel
theorem dX7_passes_185 : decode cX7_passes 185 = .ok (.getfield 23, 3) := by decide +kernel
theorem dX7_passes_188 : decode cX7_passes 188 = .ok (.iconst 0, 1) := by decide +kernel
theorem dX7_passes_189 : decode cX7_passes 189 = .ok (.aload_n 0, 1) := by decide +kernel
theorem dX7_passes_190 : decode cX7_passes 190 = .ok (.getfield 23, 3) := by decide +kernel
theorem dX7_passes_193 : decode cX7_passes 193 = .ok (.iconst 0, 1) := by decide +kernel
theorem dX7_passes_194 : decode cX7_passes 194 = .ok (.iaload, 1) := by decide +kernel
theorem dX7_passes_195 : decode cX7_passes 195 = .ok (.iload_n 1, 1) := by decide +kernel
theorem dX7_passes_196 : decode cX7_passes 196 = .ok (.iadd, 1) := by decide +kernel
theorem dX7_passes_197 : decode cX7_passes 197 = .ok (.invokestatic 345, 3) := by decide +kernel
theorem dX7_passes_200 : decode cX7_passes 200 = .ok (.iastore, 1) := by decide +kernel
theorem dX7_passes_201 : decode cX7_passes 201 = .ok (.aload_n 0, 1) := by decide +kernel
theorem dX7_passes_202 : decode cX7_passes 202 = .ok (.getfield 23, 3) := by decide +kernel
theorem dX7_passes_205 : decode cX7_passes 205 = .ok (.iconst 3, 1) := by decide +kernel
theorem dX7_passes_206 : decode cX7_passes 206 = .ok (.dup2, 1) := by decide +kernel
theorem dX7_passes_207 : decode cX7_passes 207 = .ok (.iaload, 1) := by decide +kernel
theorem dX7_passes_208 : decode cX7_passes 208 = .ok (.iconst 1, 1) := by decide +kernel
theorem dX7_passes_209 : decode cX7_passes 209 = .ok (.iadd, 1) := by decide +kernel
theorem dX7_passes_210 : decode cX7_passes 210 = .ok (.iastore, 1) := by decide +kernel
theorem dX7_passes_211 : decode cX7_passes 211 = .ok (.iload_n 3, 1) := by decide +kernel
theorem dX7_passes_212 : decode cX7_passes 212 = .ok (.ireturn, 1) := by decide +kernel
theorem dX7_pose_0 : decode cX7_pose 0 = .ok (.iload_n 1, 1) := by decide +kernel
theorem dX7_pose_1 : decode cX7_pose 1 = .ok (.invokestatic 362, 3) := by decide +kernel
theorem dX7_pose_4 : decode cX7_pose 4 = .ok (.ifCond .eq 15, 3) := by decide +kernel
theorem dX7_pose_7 : decode cX7_pose 7 = .ok (.aload_n 0, 1) := by decide +kernel
theorem dX7_pose_8 : decode cX7_pose 8 = .ok (.getfield 23, 3) := by decide +kernel
theorem dX7_pose_11 : decode cX7_pose 11 = .ok (.iconst 3, 1) := by decide +kernel
theorem dX7_pose_12 : decode cX7_pose 12 = .ok (.iaload, 1) := by decide +kernel
theorem dX7_pose_13 : decode cX7_pose 13 = .ok (.sipush 999, 3) := by decide +kernel
theorem dX7_pose_16 : decode cX7_pose 16 = .ok (.if_icmp .ne 8, 3) := by decide +kernel
theorem dX7_pose_19 : decode cX7_pose 19 = .ok (.ldc 117, 2) := by decide +kernel
theorem dX7_pose_21 : decode cX7_pose 21 = .ok (.goto 15, 3) := by decide +kernel
theorem dX7_pose_24 : decode cX7_pose 24 = .ok (.aload_n 0, 1) := by decide +kernel
theorem dX7_pose_25 : decode cX7_pose 25 = .ok (.iload_n 1, 1) := by decide +kernel
theorem dX7_pose_26 : decode cX7_pose 26 = .ok (.bipush 100, 2) := by decide +kernel
theorem dX7_pose_28 : decode cX7_pose 28 = .ok (.idiv, 1) := by decide +kernel
theorem dX7_pose_29 : decode cX7_pose 29 = .ok (.iload_n 1, 1) := by decide +kernel
theorem dX7_pose_30 : decode cX7_pose 30 = .ok (.bipush 100, 2) := by decide +kernel
theorem dX7_pose_32 : decode cX7_pose 32 = .ok (.irem, 1) := by decide +kernel
theorem dX7_pose_33 : decode cX7_pose 33 = .ok (.invokevirtual 365, 3) := by decide +kernel
theorem dX7_pose_36 : decode cX7_pose 36 = .ok (.ireturn, 1) := by decide +kernel
theorem dX7_laysAside_0 : decode cX7_laysAside 0 = .ok (.iconst 0, 1) := by decide +kernel
theorem dX7_laysAside_1 : decode cX7_laysAside 1 = .ok (.istore_n 1, 1) := by decide +kernel
theorem dX7_laysAside_2 : decode cX7_laysAside 2 = .ok (.iload_n 1, 1) := by decide +kernel
theorem dX7_laysAside_3 : decode cX7_laysAside 3 = .ok (.bipush 24, 2) := by decide +kernel
theorem dX7_laysAside_5 : decode cX7_laysAside 5 = .ok (.if_icmp .ge 21, 3) := by decide +kernel
theorem dX7_laysAside_8 : decode cX7_laysAside 8 = .ok (.aload_n 0, 1) := by decide +kernel
theorem dX7_laysAside_9 : decode cX7_laysAside 9 = .ok (.getfield 38, 3) := by decide +kernel
theorem dX7_laysAside_12 : decode cX7_laysAside 12 = .ok (.iload_n 1, 1) := by decide +kernel
theorem dX7_laysAside_13 : decode cX7_laysAside 13 = .ok (.aload_n 0, 1) := by decide +kernel
theorem dX7_laysAside_14 : decode cX7_laysAside 14 = .ok (.getfield 29, 3) := by decide +kernel
theorem dX7_laysAside_17 : decode cX7_laysAside 17 = .ok (.iload_n 1, 1) := by decide +kernel
theorem dX7_laysAside_18 : decode cX7_laysAside 18 = .ok (.iaload, 1) := by decide +kernel
theorem dX7_laysAside_19 : decode cX7_laysAside 19 = .ok (.iastore, 1) := by decide +kernel
theorem dX7_laysAside_20 : decode cX7_laysAside 20 = .ok (.iinc 1 1, 3) := by decide +kernel
theorem dX7_laysAside_23 : decode cX7_laysAside 23 = .ok (.goto (-21), 3) := by decide +kernel
theorem dX7_laysAside_26 : decode cX7_laysAside 26 = .ok (.aload_n 0, 1) := by decide +kernel
theorem dX7_laysAside_27 : decode cX7_laysAside 27 = .ok (.aload_n 0, 1) := by decide +kernel
theorem dX7_laysAside_28 : decode cX7_laysAside 28 = .ok (.getfield 23, 3) := by decide +kernel
theorem dX7_laysAside_31 : decode cX7_laysAside 31 = .ok (.iconst 0, 1) := by decide +kernel
theorem dX7_laysAside_32 : decode cX7_laysAside 32 = .ok (.iaload, 1) := by decide +kernel
theorem dX7_laysAside_33 : decode cX7_laysAside 33 = .ok (.putfield 368, 3) := by decide +kernel
theorem dX7_laysAside_36 : decode cX7_laysAside 36 = .ok (.aload_n 0, 1) := by decide +kernel
theorem dX7_laysAside_37 : decode cX7_laysAside 37 = .ok (.aload_n 0, 1) := by decide +kernel
theorem dX7_laysAside_38 : decode cX7_laysAside 38 = .ok (.getfield 23, 3) := by decide +kernel
theorem dX7_laysAside_41 : decode cX7_laysAside 41 = .ok (.iconst 3, 1) := by decide +kernel
theorem dX7_laysAside_42 : decode cX7_laysAside 42 = .ok (.iaload, 1) := by decide +kernel
theorem dX7_laysAside_43 : decode cX7_laysAside 43 = .ok (.putfield 371, 3) := by decide +kernel
theorem dX7_laysAside_46 : decode cX7_laysAside 46 = .ok (.iconst 0, 1) := by decide +kernel
theorem dX7_laysAside_47 : decode cX7_laysAside 47 = .ok (.istore_n 1, 1) := by decide +kernel
theorem dX7_laysAside_48 : decode cX7_laysAside 48 = .ok (.iload_n 1, 1) := by decide +kernel
theorem dX7_laysAside_49 : decode cX7_laysAside 49 = .ok (.bipush 6, 2) := by decide +kernel
theorem dX7_laysAside_51 : decode cX7_laysAside 51 = .ok (.if_icmp .ge 16, 3) := by decide +kernel
theorem dX7_laysAside_54 : decode cX7_laysAside 54 = .ok (.aload_n 0, 1) := by decide +kernel
theorem dX7_laysAside_55 : decode cX7_laysAside 55 = .ok (.getfield 35, 3) := by decide +kernel
theorem dX7_laysAside_58 : decode cX7_laysAside 58 = .ok (.iload_n 1, 1) := by decide +kernel
theorem dX7_laysAside_59 : decode cX7_laysAside 59 = .ok (.iconst 0, 1) := by decide +kernel
theorem dX7_laysAside_60 : decode cX7_laysAside 60 = .ok (.iastore, 1) := by decide +kernel
theorem dX7_laysAside_61 : decode cX7_laysAside 61 = .ok (.iinc 1 1, 3) := by decide +kernel
theorem dX7_laysAside_64 : decode cX7_laysAside 64 = .ok (.goto (-16), 3) := by decide +kernel
theorem dX7_laysAside_67 : decode cX7_laysAside 67 = .ok (.return_, 1) := by decide +kernel
theorem dX7_laysBack_0 : decode cX7_laysBack 0 = .ok (.iconst 0, 1) := by decide +kernel
theorem dX7_laysBack_1 : decode cX7_laysBack 1 = .ok (.istore_n 1, 1) := by decide +kernel
theorem dX7_laysBack_2 : decode cX7_laysBack 2 = .ok (.iload_n 1, 1) := by decide +kernel
theorem dX7_laysBack_3 : decode cX7_laysBack 3 = .ok (.bipush 24, 2) := by decide +kernel
theorem dX7_laysBack_5 : decode cX7_laysBack 5 = .ok (.if_icmp .ge 21, 3) := by decide +kernel
theorem dX7_laysBack_8 : decode cX7_laysBack 8 = .ok (.aload_n 0, 1) := by decide +kernel
theorem dX7_laysBack_9 : decode cX7_laysBack 9 = .ok (.getfield 29, 3) := by decide +kernel
theorem dX7_laysBack_12 : decode cX7_laysBack 12 = .ok (.iload_n 1, 1) := by decide +kernel
theorem dX7_laysBack_13 : decode cX7_laysBack 13 = .ok (.aload_n 0, 1) := by decide +kernel
theorem dX7_laysBack_14 : decode cX7_laysBack 14 = .ok (.getfield 38, 3) := by decide +kernel
theorem dX7_laysBack_17 : decode cX7_laysBack 17 = .ok (.iload_n 1, 1) := by decide +kernel
theorem dX7_laysBack_18 : decode cX7_laysBack 18 = .ok (.iaload, 1) := by decide +kernel
theorem dX7_laysBack_19 : decode cX7_laysBack 19 = .ok (.iastore, 1) := by decide +kernel
theorem dX7_laysBack_20 : decode cX7_laysBack 20 = .ok (.iinc 1 1, 3) := by decide +kernel
theorem dX7_laysBack_23 : decode cX7_laysBack 23 = .ok (.goto (-21), 3) := by decide +kernel
theorem dX7_laysBack_26 : decode cX7_laysBack 26 = .ok (.aload_n 0, 1) := by decide +kernel
theorem dX7_laysBack_27 : decode cX7_laysBack 27 = .ok (.getfield 23, 3) := by decide +kernel
theorem dX7_laysBack_30 : decode cX7_laysBack 30 = .ok (.iconst 0, 1) := by decide +kernel
theorem dX7_laysBack_31 : decode cX7_laysBack 31 = .ok (.aload_n 0, 1) := by decide +kernel
theorem dX7_laysBack_32 : decode cX7_laysBack 32 = .ok (.getfield 368, 3) := by decide +kernel
theorem dX7_laysBack_35 : decode cX7_laysBack 35 = .ok (.iastore, 1) := by decide +kernel
theorem dX7_laysBack_36 : decode cX7_laysBack 36 = .ok (.aload_n 0, 1) := by decide +kernel
theorem dX7_laysBack_37 : decode cX7_laysBack 37 = .ok (.getfield 23, 3) := by decide +kernel
theorem dX7_laysBack_40 : decode cX7_laysBack 40 = .ok (.iconst 3, 1) := by decide +kernel
theorem dX7_laysBack_41 : decode cX7_laysBack 41 = .ok (.aload_n 0, 1) := by decide +kernel
theorem dX7_laysBack_42 : decode cX7_laysBack 42 = .ok (.getfield 371, 3) := by decide +kernel
theorem dX7_laysBack_45 : decode cX7_laysBack 45 = .ok (.iastore, 1) := by decide +kernel
theorem dX7_laysBack_46 : decode cX7_laysBack 46 = .ok (.return_, 1) := by decide +kernel
theorem dX7_sumBy_0 : decode cX7_sumBy 0 = .ok (.iconst 0, 1) := by decide +kernel
theorem dX7_sumBy_1 : decode cX7_sumBy 1 = .ok (.istore_n 3, 1) := by decide +kernel
theorem dX7_sumBy_2 : decode cX7_sumBy 2 = .ok (.iconst 0, 1) := by decide +kernel
theorem dX7_sumBy_3 : decode cX7_sumBy 3 = .ok (.istore 4, 2) := by decide +kernel
theorem dX7_sumBy_5 : decode cX7_sumBy 5 = .ok (.iload 4, 2) := by decide +kernel
theorem dX7_sumBy_7 : decode cX7_sumBy 7 = .ok (.iload_n 1, 1) := by decide +kernel
theorem dX7_sumBy_8 : decode cX7_sumBy 8 = .ok (.if_icmp .ge 24, 3) := by decide +kernel
theorem dX7_sumBy_11 : decode cX7_sumBy 11 = .ok (.iload_n 3, 1) := by decide +kernel
theorem dX7_sumBy_12 : decode cX7_sumBy 12 = .ok (.aload_n 0, 1) := by decide +kernel
theorem dX7_sumBy_13 : decode cX7_sumBy 13 = .ok (.iload_n 2, 1) := by decide +kernel
theorem dX7_sumBy_14 : decode cX7_sumBy 14 = .ok (.bipush 100, 2) := by decide +kernel
theorem dX7_sumBy_16 : decode cX7_sumBy 16 = .ok (.idiv, 1) := by decide +kernel
theorem dX7_sumBy_17 : decode cX7_sumBy 17 = .ok (.iload_n 2, 1) := by decide +kernel
theorem dX7_sumBy_18 : decode cX7_sumBy 18 = .ok (.bipush 100, 2) := by decide +kernel
theorem dX7_sumBy_20 : decode cX7_sumBy 20 = .ok (.irem, 1) := by decide +kernel
theorem dX7_sumBy_21 : decode cX7_sumBy 21 = .ok (.invokevirtual 365, 3) := by decide +kernel
theorem dX7_sumBy_24 : decode cX7_sumBy 24 = .ok (.iadd, 1) := by decide +kernel
theorem dX7_sumBy_25 : decode cX7_sumBy 25 = .ok (.istore_n 3, 1) := by decide +kernel
theorem dX7_sumBy_26 : decode cX7_sumBy 26 = .ok (.iinc 4 1, 3) := by decide +kernel
theorem dX7_sumBy_29 : decode cX7_sumBy 29 = .ok (.goto (-24), 3) := by decide +kernel
theorem dX7_sumBy_32 : decode cX7_sumBy 32 = .ok (.iload_n 3, 1) := by decide +kernel
theorem dX7_sumBy_33 : decode cX7_sumBy 33 = .ok (.ireturn, 1) := by decide +kernel
theorem dX7_leastWho_0 : decode cX7_leastWho 0 = .ok (.iconst (-1), 1) := by decide +kernel
theorem dX7_leastWho_1 : decode cX7_leastWho 1 = .ok (.istore_n 1, 1) := by decide +kernel
theorem dX7_leastWho_2 : decode cX7_leastWho 2 = .ok (.iconst 0, 1) := by decide +kernel
theorem dX7_leastWho_3 : decode cX7_leastWho 3 = .ok (.istore_n 2, 1) := by decide +kernel
theorem dX7_leastWho_4 : decode cX7_leastWho 4 = .ok (.iload_n 2, 1) := by decide +kernel
theorem dX7_leastWho_5 : decode cX7_leastWho 5 = .ok (.aload_n 0, 1) := by decide +kernel
theorem dX7_leastWho_6 : decode cX7_leastWho 6 = .ok (.getfield 70, 3) := by decide +kernel
theorem dX7_leastWho_9 : decode cX7_leastWho 9 = .ok (.if_icmp .ge 35, 3) := by decide +kernel
theorem dX7_leastWho_12 : decode cX7_leastWho 12 = .ok (.iload_n 1, 1) := by decide +kernel
theorem dX7_leastWho_13 : decode cX7_leastWho 13 = .ok (.iconst (-1), 1) := by decide +kernel
theorem dX7_leastWho_14 : decode cX7_leastWho 14 = .ok (.if_icmp .eq 18, 3) := by decide +kernel
theorem dX7_leastWho_17 : decode cX7_leastWho 17 = .ok (.aload_n 0, 1) := by decide +kernel
theorem dX7_leastWho_18 : decode cX7_leastWho 18 = .ok (.getfield 35, 3) := by decide +kernel
theorem dX7_leastWho_21 : decode cX7_leastWho 21 = .ok (.iload_n 2, 1) := by decide +kernel
theorem dX7_leastWho_22 : decode cX7_leastWho 22 = .ok (.iaload, 1) := by decide +kernel
theorem dX7_leastWho_23 : decode cX7_leastWho 23 = .ok (.aload_n 0, 1) := by decide +kernel
theorem dX7_leastWho_24 : decode cX7_leastWho 24 = .ok (.getfield 35, 3) := by decide +kernel
theorem dX7_leastWho_27 : decode cX7_leastWho 27 = .ok (.iload_n 1, 1) := by decide +kernel
theorem dX7_leastWho_28 : decode cX7_leastWho 28 = .ok (.iaload, 1) := by decide +kernel
theorem dX7_leastWho_29 : decode cX7_leastWho 29 = .ok (.if_icmp .ge 7, 3) := by decide +kernel
theorem dX7_leastWho_32 : decode cX7_leastWho 32 = .ok (.iload_n 2, 1) := by decide +kernel
theorem dX7_leastWho_33 : decode cX7_leastWho 33 = .ok (.goto 4, 3) := by decide +kernel
theorem dX7_leastWho_36 : decode cX7_leastWho 36 = .ok (.iload_n 1, 1) := by decide +kernel
theorem dX7_leastWho_37 : decode cX7_leastWho 37 = .ok (.istore_n 1, 1) := by decide +kernel
theorem dX7_leastWho_38 : decode cX7_leastWho 38 = .ok (.iinc 2 1, 3) := by decide +kernel
theorem dX7_leastWho_41 : decode cX7_leastWho 41 = .ok (.goto (-37), 3) := by decide +kernel
theorem dX7_leastWho_44 : decode cX7_leastWho 44 = .ok (.iload_n 1, 1) := by decide +kernel
theorem dX7_leastWho_45 : decode cX7_leastWho 45 = .ok (.ireturn, 1) := by decide +kernel
theorem dX7_leastOf_0 : decode cX7_leastOf 0 = .ok (.aload_n 0, 1) := by decide +kernel
theorem dX7_leastOf_1 : decode cX7_leastOf 1 = .ok (.getfield 70, 3) := by decide +kernel
theorem dX7_leastOf_4 : decode cX7_leastOf 4 = .ok (.ifCond .ne 7, 3) := by decide +kernel
theorem dX7_leastOf_7 : decode cX7_leastOf 7 = .ok (.iconst 0, 1) := by decide +kernel
theorem dX7_leastOf_8 : decode cX7_leastOf 8 = .ok (.goto 12, 3) := by decide +kernel
theorem dX7_leastOf_11 : decode cX7_leastOf 11 = .ok (.aload_n 0, 1) := by decide +kernel
theorem dX7_leastOf_12 : decode cX7_leastOf 12 = .ok (.getfield 35, 3) := by decide +kernel
theorem dX7_leastOf_15 : decode cX7_leastOf 15 = .ok (.aload_n 0, 1) := by decide +kernel
theorem dX7_leastOf_16 : decode cX7_leastOf 16 = .ok (.invokevirtual 374, 3) := by decide +kernel
theorem dX7_leastOf_19 : decode cX7_leastOf 19 = .ok (.iaload, 1) := by decide +kernel
theorem dX7_leastOf_20 : decode cX7_leastOf 20 = .ok (.ireturn, 1) := by decide +kernel
theorem dX7_run_0 : decode cX7_run 0 = .ok (.iload_n 3, 1) := by decide +kernel
theorem dX7_run_1 : decode cX7_run 1 = .ok (.i2l, 1) := by decide +kernel
theorem dX7_run_2 : decode cX7_run 2 = .ok (.ldc2_w 77, 3) := by decide +kernel
theorem dX7_run_5 : decode cX7_run 5 = .ok (.ldc2_w 377, 3) := by decide +kernel
theorem dX7_run_8 : decode cX7_run 8 = .ok (.invokestatic 73, 3) := by decide +kernel
theorem dX7_run_11 : decode cX7_run 11 = .ok (.ifCond .ne 17, 3) := by decide +kernel
theorem dX7_run_14 : decode cX7_run 14 = .ok (.iload_n 3, 1) := by decide +kernel
theorem dX7_run_15 : decode cX7_run 15 = .ok (.i2l, 1) := by decide +kernel
theorem dX7_run_16 : decode cX7_run 16 = .ok (.ldc2_w 379, 3) := by decide +kernel
theorem dX7_run_19 : decode cX7_run 19 = .ok (.ldc2_w 381, 3) := by decide +kernel
theorem dX7_run_22 : decode cX7_run 22 = .ok (.invokestatic 73, 3) := by decide +kernel
theorem dX7_run_25 : decode cX7_run 25 = .ok (.ifCond .eq 18, 3) := by decide +kernel
theorem dX7_run_28 : decode cX7_run 28 = .ok (.aload_n 0, 1) := by decide +kernel
theorem dX7_run_29 : decode cX7_run 29 = .ok (.iload_n 3, 1) := by decide +kernel
theorem dX7_run_30 : decode cX7_run 30 = .ok (.bipush 10, 2) := by decide +kernel
theorem dX7_run_32 : decode cX7_run 32 = .ok (.irem, 1) := by decide +kernel
theorem dX7_run_33 : decode cX7_run 33 = .ok (.invokevirtual 97, 3) := by decide +kernel
theorem dX7_run_36 : decode cX7_run 36 = .ok (.ifCond .eq 7, 3) := by decide +kernel
theorem dX7_run_39 : decode cX7_run 39 = .ok (.iconst 1, 1) := by decide +kernel
theorem dX7_run_40 : decode cX7_run 40 = .ok (.goto 4, 3) := by decide +kernel
theorem dX7_run_43 : decode cX7_run 43 = .ok (.iconst 0, 1) := by decide +kernel
theorem dX7_run_44 : decode cX7_run 44 = .ok (.istore 4, 2) := by decide +kernel
theorem dX7_run_46 : decode cX7_run 46 = .ok (.iload_n 1, 1) := by decide +kernel
theorem dX7_run_47 : decode cX7_run 47 = .ok (.i2l, 1) := by decide +kernel
theorem dX7_run_48 : decode cX7_run 48 = .ok (.lconst 0, 1) := by decide +kernel
theorem dX7_run_49 : decode cX7_run 49 = .ok (.ldc2_w 383, 3) := by decide +kernel
theorem dX7_run_52 : decode cX7_run 52 = .ok (.invokestatic 73, 3) := by decide +kernel
theorem dX7_run_55 : decode cX7_run 55 = .ok (.ifCond .eq 27, 3) := by decide +kernel
theorem dX7_run_58 : decode cX7_run 58 = .ok (.iload_n 2, 1) := by decide +kernel
theorem dX7_run_59 : decode cX7_run 59 = .ok (.invokestatic 362, 3) := by decide +kernel
theorem dX7_run_62 : decode cX7_run 62 = .ok (.ifCond .eq 20, 3) := by decide +kernel
theorem dX7_run_65 : decode cX7_run 65 = .ok (.iload_n 3, 1) := by decide +kernel
theorem dX7_run_66 : decode cX7_run 66 = .ok (.i2l, 1) := by decide +kernel
theorem dX7_run_67 : decode cX7_run 67 = .ok (.lconst 0, 1) := by decide +kernel
theorem dX7_run_68 : decode cX7_run 68 = .ok (.ldc2_w 385, 3) := by decide +kernel
theorem dX7_run_71 : decode cX7_run 71 = .ok (.invokestatic 73, 3) := by decide +kernel
theorem dX7_run_74 : decode cX7_run 74 = .ok (.ifCond .ne 11, 3) := by decide +kernel
theorem dX7_run_77 : decode cX7_run 77 = .ok (.iload 4, 2) := by decide +kernel
theorem dX7_run_79 : decode cX7_run 79 = .ok (.ifCond .ne 6, 3) := by decide +kernel
theorem dX7_run_82 : decode cX7_run 82 = .ok (.ldc 117, 2) := by decide +kernel
theorem dX7_run_84 : decode cX7_run 84 = .ok (.ireturn, 1) := by decide +kernel
theorem dX7_run_85 : decode cX7_run 85 = .ok (.aload_n 0, 1) := by decide +kernel
theorem dX7_run_86 : decode cX7_run 86 = .ok (.invokevirtual 387, 3) := by decide +kernel
theorem dX7_run_89 : decode cX7_run 89 = .ok (.aload_n 0, 1) := by decide +kernel
theorem dX7_run_90 : decode cX7_run 90 = .ok (.iload_n 1, 1) := by decide +kernel
theorem dX7_run_91 : decode cX7_run 91 = .ok (.iload_n 2, 1) := by decide +kernel
theorem dX7_run_92 : decode cX7_run 92 = .ok (.invokevirtual 390, 3) := by decide +kernel
theorem dX7_run_95 : decode cX7_run 95 = .ok (.istore 5, 2) := by decide +kernel
theorem dX7_run_97 : decode cX7_run 97 = .ok (.iload_n 3, 1) := by decide +kernel
theorem dX7_run_98 : decode cX7_run 98 = .ok (.bipush 10, 2) := by decide +kernel
theorem dX7_run_100 : decode cX7_run 100 = .ok (.irem, 1) := by decide +kernel
theorem dX7_run_101 : decode cX7_run 101 = .ok (.istore 6, 2) := by decide +kernel
theorem dX7_run_103 : decode cX7_run 103 = .ok (.iload_n 3, 1) := by decide +kernel
theorem dX7_run_104 : decode cX7_run 104 = .ok (.ifCond .ne 8, 3) := by decide +kernel
theorem dX7_run_107 : decode cX7_run 107 = .ok (.iload 5, 2) := by decide +kernel
theorem dX7_run_109 : decode cX7_run 109 = .ok (.goto 68, 3) := by decide +kernel
theorem dX7_run_112 : decode cX7_run 112 = .ok (.iload_n 3, 1) := by decide +kernel
theorem dX7_run_113 : decode cX7_run 113 = .ok (.iconst 1, 1) := by decide +kernel
theorem dX7_run_114 : decode cX7_run 114 = .ok (.if_icmp .ne 10, 3) := by decide +kernel
theorem dX7_run_117 : decode cX7_run 117 = .ok (.aload_n 0, 1) := by decide +kernel
theorem dX7_run_118 : decode cX7_run 118 = .ok (.invokevirtual 393, 3) := by decide +kernel
theorem dX7_run_121 : decode cX7_run 121 = .ok (.goto 56, 3) := by decide +kernel
theorem dX7_run_124 : decode cX7_run 124 = .ok (.iload_n 3, 1) := by decide +kernel
theorem dX7_run_125 : decode cX7_run 125 = .ok (.iconst 2, 1) := by decide +kernel
theorem dX7_run_126 : decode cX7_run 126 = .ok (.if_icmp .ne 10, 3) := by decide +kernel
theorem dX7_run_129 : decode cX7_run 129 = .ok (.aload_n 0, 1) := by decide +kernel
theorem dX7_run_130 : decode cX7_run 130 = .ok (.invokevirtual 374, 3) := by decide +kernel
theorem dX7_run_133 : decode cX7_run 133 = .ok (.goto 44, 3) := by decide +kernel
theorem dX7_run_136 : decode cX7_run 136 = .ok (.iload_n 3, 1) := by decide +kernel
theorem dX7_run_137 : decode cX7_run 137 = .ok (.iconst 3, 1) := by decide +kernel
theorem dX7_run_138 : decode cX7_run 138 = .ok (.if_icmp .ne 12, 3) := by decide +kernel
theorem dX7_run_141 : decode cX7_run 141 = .ok (.aload_n 0, 1) := by decide +kernel
theorem dX7_run_142 : decode cX7_run 142 = .ok (.getfield 23, 3) := by decide +kernel
theorem dX7_run_145 : decode cX7_run 145 = .ok (.iconst 0, 1) := by decide +kernel
theorem dX7_run_146 : decode cX7_run 146 = .ok (.iaload, 1) := by decide +kernel
theorem dX7_run_147 : decode cX7_run 147 = .ok (.goto 30, 3) := by decide +kernel
theorem dX7_run_150 : decode cX7_run 150 = .ok (.iload_n 3, 1) := by decide +kernel
theorem dX7_run_151 : decode cX7_run 151 = .ok (.bipush 20, 2) := by decide +kernel
theorem dX7_run_153 : decode cX7_run 153 = .ok (.if_icmp .ge 13, 3) := by decide +kernel
theorem dX7_run_156 : decode cX7_run 156 = .ok (.aload_n 0, 1) := by decide +kernel
theorem dX7_run_157 : decode cX7_run 157 = .ok (.getfield 35, 3) := by decide +kernel
theorem dX7_run_160 : decode cX7_run 160 = .ok (.iload 6, 2) := by decide +kernel
theorem dX7_run_162 : decode cX7_run 162 = .ok (.iaload, 1) := by decide +kernel
theorem dX7_run_163 : decode cX7_run 163 = .ok (.goto 14, 3) := by decide +kernel
theorem dX7_run_166 : decode cX7_run 166 = .ok (.aload_n 0, 1) := by decide +kernel
theorem dX7_run_167 : decode cX7_run 167 = .ok (.getfield 29, 3) := by decide +kernel
theorem dX7_run_170 : decode cX7_run 170 = .ok (.iconst 4, 1) := by decide +kernel
theorem dX7_run_171 : decode cX7_run 171 = .ok (.iload 6, 2) := by decide +kernel
theorem dX7_run_173 : decode cX7_run 173 = .ok (.imul, 1) := by decide +kernel
theorem dX7_run_174 : decode cX7_run 174 = .ok (.iconst 2, 1) := by decide +kernel
theorem dX7_run_175 : decode cX7_run 175 = .ok (.iadd, 1) := by decide +kernel
theorem dX7_run_176 : decode cX7_run 176 = .ok (.iaload, 1) := by decide +kernel
theorem dX7_run_177 : decode cX7_run 177 = .ok (.istore 7, 2) := by decide +kernel
theorem dX7_run_179 : decode cX7_run 179 = .ok (.aload_n 0, 1) := by decide +kernel
theorem dX7_run_180 : decode cX7_run 180 = .ok (.invokevirtual 396, 3) := by decide +kernel
theorem dX7_run_183 : decode cX7_run 183 = .ok (.iload 7, 2) := by decide +kernel
theorem dX7_run_185 : decode cX7_run 185 = .ok (.ireturn, 1) := by decide +kernel
theorem dX7_mostWho_0 : decode cX7_mostWho 0 = .ok (.iconst (-1), 1) := by decide +kernel
theorem dX7_mostWho_1 : decode cX7_mostWho 1 = .ok (.istore_n 1, 1) := by decide +kernel
theorem dX7_mostWho_2 : decode cX7_mostWho 2 = .ok (.iconst 0, 1) := by decide +kernel
theorem dX7_mostWho_3 : decode cX7_mostWho 3 = .ok (.istore_n 2, 1) := by decide +kernel
theorem dX7_mostWho_4 : decode cX7_mostWho 4 = .ok (.iload_n 2, 1) := by decide +kernel
theorem dX7_mostWho_5 : decode cX7_mostWho 5 = .ok (.aload_n 0, 1) := by decide +kernel
theorem dX7_mostWho_6 : decode cX7_mostWho 6 = .ok (.getfield 70, 3) := by decide +kernel
theorem dX7_mostWho_9 : decode cX7_mostWho 9 = .ok (.if_icmp .ge 33, 3) := by decide +kernel
theorem dX7_mostWho_12 : decode cX7_mostWho 12 = .ok (.iload_n 1, 1) := by decide +kernel
theorem dX7_mostWho_13 : decode cX7_mostWho 13 = .ok (.iconst (-1), 1) := by decide +kernel
theorem dX7_mostWho_14 : decode cX7_mostWho 14 = .ok (.if_icmp .eq 16, 3) := by decide +kernel
theorem dX7_mostWho_17 : decode cX7_mostWho 17 = .ok (.aload_n 0, 1) := by decide +kernel
theorem dX7_mostWho_18 : decode cX7_mostWho 18 = .ok (.iload_n 2, 1) := by decide +kernel
theorem dX7_mostWho_19 : decode cX7_mostWho 19 = .ok (.invokevirtual 130, 3) := by decide +kernel
theorem dX7_mostWho_22 : decode cX7_mostWho 22 = .ok (.aload_n 0, 1) := by decide +kernel
theorem dX7_mostWho_23 : decode cX7_mostWho 23 = .ok (.iload_n 1, 1) := by decide +kernel
theorem dX7_mostWho_24 : decode cX7_mostWho 24 = .ok (.invokevirtual 130, 3) := by decide +kernel
theorem dX7_mostWho_27 : decode cX7_mostWho 27 = .ok (.if_icmp .le 7, 3) := by decide +kernel
theorem dX7_mostWho_30 : decode cX7_mostWho 30 = .ok (.iload_n 2, 1) := by decide +kernel
theorem dX7_mostWho_31 : decode cX7_mostWho 31 = .ok (.goto 4, 3) := by decide +kernel
theorem dX7_mostWho_34 : decode cX7_mostWho 34 = .ok (.iload_n 1, 1) := by decide +kernel
theorem dX7_mostWho_35 : decode cX7_mostWho 35 = .ok (.istore_n 1, 1) := by decide +kernel
theorem dX7_mostWho_36 : decode cX7_mostWho 36 = .ok (.iinc 2 1, 3) := by decide +kernel
theorem dX7_mostWho_39 : decode cX7_mostWho 39 = .ok (.goto (-35), 3) := by decide +kernel
theorem dX7_mostWho_42 : decode cX7_mostWho 42 = .ok (.iload_n 1, 1) := by decide +kernel
theorem dX7_mostWho_43 : decode cX7_mostWho 43 = .ok (.ireturn, 1) := by decide +kernel
theorem dX7_freeSet_0 : decode cX7_freeSet 0 = .ok (.sipush 2047, 3) := by decide +kernel
theorem dX7_freeSet_3 : decode cX7_freeSet 3 = .ok (.istore_n 1, 1) := by decide +kernel
theorem dX7_freeSet_4 : decode cX7_freeSet 4 = .ok (.iconst 0, 1) := by decide +kernel
theorem dX7_freeSet_5 : decode cX7_freeSet 5 = .ok (.istore_n 2, 1) := by decide +kernel
theorem dX7_freeSet_6 : decode cX7_freeSet 6 = .ok (.iload_n 2, 1) := by decide +kernel
theorem dX7_freeSet_7 : decode cX7_freeSet 7 = .ok (.aload_n 0, 1) := by decide +kernel
theorem dX7_freeSet_8 : decode cX7_freeSet 8 = .ok (.getfield 70, 3) := by decide +kernel
theorem dX7_freeSet_11 : decode cX7_freeSet 11 = .ok (.if_icmp .ge 21, 3) := by decide +kernel
theorem dX7_freeSet_14 : decode cX7_freeSet 14 = .ok (.iload_n 1, 1) := by decide +kernel
theorem dX7_freeSet_15 : decode cX7_freeSet 15 = .ok (.iconst 1, 1) := by decide +kernel
theorem dX7_freeSet_16 : decode cX7_freeSet 16 = .ok (.aload_n 0, 1) := by decide +kernel
theorem dX7_freeSet_17 : decode cX7_freeSet 17 = .ok (.iload_n 2, 1) := by decide +kernel
theorem dX7_freeSet_18 : decode cX7_freeSet 18 = .ok (.invokevirtual 342, 3) := by decide +kernel
theorem dX7_freeSet_21 : decode cX7_freeSet 21 = .ok (.ishl, 1) := by decide +kernel
theorem dX7_freeSet_22 : decode cX7_freeSet 22 = .ok (.iconst (-1), 1) := by decide +kernel
theorem dX7_freeSet_23 : decode cX7_freeSet 23 = .ok (.ixor, 1) := by decide +kernel
theorem dX7_freeSet_24 : decode cX7_freeSet 24 = .ok (.iand, 1) := by decide +kernel
theorem dX7_freeSet_25 : decode cX7_freeSet 25 = .ok (.istore_n 1, 1) := by decide +kernel
theorem dX7_freeSet_26 : decode cX7_freeSet 26 = .ok (.iinc 2 1, 3) := by decide +kernel
theorem dX7_freeSet_29 : decode cX7_freeSet 29 = .ok (.goto (-23), 3) := by decide +kernel
theorem dX7_freeSet_32 : decode cX7_freeSet 32 = .ok (.iload_n 1, 1) := by decide +kernel
theorem dX7_freeSet_33 : decode cX7_freeSet 33 = .ok (.ireturn, 1) := by decide +kernel
theorem dX7_worstEasel_0 : decode cX7_worstEasel 0 = .ok (.aload_n 0, 1) := by decide +kernel
theorem dX7_worstEasel_1 : decode cX7_worstEasel 1 = .ok (.getfield 70, 3) := by decide +kernel
theorem dX7_worstEasel_4 : decode cX7_worstEasel 4 = .ok (.ifCond .ne 5, 3) := by decide +kernel
theorem dX7_worstEasel_7 : decode cX7_worstEasel 7 = .ok (.iconst (-1), 1) := by decide +kernel
theorem dX7_worstEasel_8 : decode cX7_worstEasel 8 = .ok (.ireturn, 1) := by decide +kernel
theorem dX7_worstEasel_9 : decode cX7_worstEasel 9 = .ok (.aload_n 0, 1) := by decide +kernel
theorem dX7_worstEasel_10 : decode cX7_worstEasel 10 = .ok (.invokevirtual 399, 3) := by decide +kernel
theorem dX7_worstEasel_13 : decode cX7_worstEasel 13 = .ok (.istore_n 1, 1) := by decide +kernel
theorem dX7_worstEasel_14 : decode cX7_worstEasel 14 = .ok (.aload_n 0, 1) := by decide +kernel
theorem dX7_worstEasel_15 : decode cX7_worstEasel 15 = .ok (.iconst 0, 1) := by decide +kernel
theorem dX7_worstEasel_16 : decode cX7_worstEasel 16 = .ok (.invokevirtual 342, 3) := by decide +kernel
theorem dX7_worstEasel_19 : decode cX7_worstEasel 19 = .ok (.istore_n 2, 1) := by decide +kernel
theorem dX7_worstEasel_20 : decode cX7_worstEasel 20 = .ok (.iconst (-1), 1) := by decide +kernel
theorem dX7_worstEasel_21 : decode cX7_worstEasel 21 = .ok (.istore_n 3, 1) := by decide +kernel
theorem dX7_worstEasel_22 : decode cX7_worstEasel 22 = .ok (.iconst 0, 1) := by decide +kernel
theorem dX7_worstEasel_23 : decode cX7_worstEasel 23 = .ok (.istore 4, 2) := by decide +kernel
theorem dX7_worstEasel_25 : decode cX7_worstEasel 25 = .ok (.iconst 0, 1) := by decide +kernel
theorem dX7_worstEasel_26 : decode cX7_worstEasel 26 = .ok (.istore 5, 2) := by decide +kernel
theorem dX7_worstEasel_28 : decode cX7_worstEasel 28 = .ok (.iload 5, 2) := by decide +kernel
theorem dX7_worstEasel_30 : decode cX7_worstEasel 30 = .ok (.bipush 11, 2) := by decide +kernel
theorem dX7_worstEasel_32 : decode cX7_worstEasel 32 = .ok (.if_icmp .ge 53, 3) := by decide +kernel
theorem dX7_worstEasel_35 : decode cX7_worstEasel 35 = .ok (.iload_n 1, 1) := by decide +kernel
theorem dX7_worstEasel_36 : decode cX7_worstEasel 36 = .ok (.iload 5, 2) := by decide +kernel
theorem dX7_worstEasel_38 : decode cX7_worstEasel 38 = .ok (.ishr, 1) := by decide +kernel
theorem dX7_worstEasel_39 : decode cX7_worstEasel 39 = .ok (.iconst 1, 1) := by decide +kernel
theorem dX7_worstEasel_40 : decode cX7_worstEasel 40 = .ok (.iand, 1) := by decide +kernel
theorem dX7_worstEasel_41 : decode cX7_worstEasel 41 = .ok (.iconst 1, 1) := by decide +kernel
theorem dX7_worstEasel_42 : decode cX7_worstEasel 42 = .ok (.if_icmp .ne 37, 3) := by decide +kernel
theorem dX7_worstEasel_45 : decode cX7_worstEasel 45 = .ok (.aload_n 0, 1) := by decide +kernel
theorem dX7_worstEasel_46 : decode cX7_worstEasel 46 = .ok (.getfield 29, 3) := by decide +kernel
theorem dX7_worstEasel_49 : decode cX7_worstEasel 49 = .ok (.iconst 1, 1) := by decide +kernel
theorem dX7_worstEasel_50 : decode cX7_worstEasel 50 = .ok (.iload 5, 2) := by decide +kernel
theorem dX7_worstEasel_52 : decode cX7_worstEasel 52 = .ok (.iastore, 1) := by decide +kernel
theorem dX7_worstEasel_53 : decode cX7_worstEasel 53 = .ok (.aload_n 0, 1) := by decide +kernel
theorem dX7_worstEasel_54 : decode cX7_worstEasel 54 = .ok (.iconst 0, 1) := by decide +kernel
theorem dX7_worstEasel_55 : decode cX7_worstEasel 55 = .ok (.invokevirtual 130, 3) := by decide +kernel
theorem dX7_worstEasel_58 : decode cX7_worstEasel 58 = .ok (.istore 6, 2) := by decide +kernel
theorem dX7_worstEasel_60 : decode cX7_worstEasel 60 = .ok (.iload_n 3, 1) := by decide +kernel
theorem dX7_worstEasel_61 : decode cX7_worstEasel 61 = .ok (.iconst (-1), 1) := by decide +kernel
theorem dX7_worstEasel_62 : decode cX7_worstEasel 62 = .ok (.if_icmp .eq 10, 3) := by decide +kernel
theorem dX7_worstEasel_65 : decode cX7_worstEasel 65 = .ok (.iload 6, 2) := by decide +kernel
theorem dX7_worstEasel_67 : decode cX7_worstEasel 67 = .ok (.iload 4, 2) := by decide +kernel
theorem dX7_worstEasel_69 : decode cX7_worstEasel 69 = .ok (.if_icmp .ge 10, 3) := by decide +kernel
theorem dX7_worstEasel_72 : decode cX7_worstEasel 72 = .ok (.iload 5, 2) := by decide +kernel
theorem dX7_worstEasel_74 : decode cX7_worstEasel 74 = .ok (.istore_n 3, 1) := by decide +kernel
theorem dX7_worstEasel_75 : decode cX7_worstEasel 75 = .ok (.iload 6, 2) := by decide +kernel
theorem dX7_worstEasel_77 : decode cX7_worstEasel 77 = .ok (.istore 4, 2) := by decide +kernel
theorem dX7_worstEasel_79 : decode cX7_worstEasel 79 = .ok (.iinc 5 1, 3) := by decide +kernel
theorem dX7_worstEasel_82 : decode cX7_worstEasel 82 = .ok (.goto (-54), 3) := by decide +kernel
theorem dX7_worstEasel_85 : decode cX7_worstEasel 85 = .ok (.aload_n 0, 1) := by decide +kernel
theorem dX7_worstEasel_86 : decode cX7_worstEasel 86 = .ok (.getfield 29, 3) := by decide +kernel
theorem dX7_worstEasel_89 : decode cX7_worstEasel 89 = .ok (.iconst 1, 1) := by decide +kernel
theorem dX7_worstEasel_90 : decode cX7_worstEasel 90 = .ok (.iload_n 2, 1) := by decide +kernel
theorem dX7_worstEasel_91 : decode cX7_worstEasel 91 = .ok (.iastore, 1) := by decide +kernel
theorem dX7_worstEasel_92 : decode cX7_worstEasel 92 = .ok (.iload_n 3, 1) := by decide +kernel
theorem dX7_worstEasel_93 : decode cX7_worstEasel 93 = .ok (.ireturn, 1) := by decide +kernel
theorem dX7_ring_0 : decode cX7_ring 0 = .ok (.iload_n 1, 1) := by decide +kernel
theorem dX7_ring_1 : decode cX7_ring 1 = .ok (.i2l, 1) := by decide +kernel
theorem dX7_ring_2 : decode cX7_ring 2 = .ok (.lconst 0, 1) := by decide +kernel
theorem dX7_ring_3 : decode cX7_ring 3 = .ok (.ldc2_w 385, 3) := by decide +kernel
theorem dX7_ring_6 : decode cX7_ring 6 = .ok (.invokestatic 73, 3) := by decide +kernel
theorem dX7_ring_9 : decode cX7_ring 9 = .ok (.ifCond .ne 6, 3) := by decide +kernel
theorem dX7_ring_12 : decode cX7_ring 12 = .ok (.ldc 117, 2) := by decide +kernel
theorem dX7_ring_14 : decode cX7_ring 14 = .ok (.ireturn, 1) := by decide +kernel
theorem dX7_ring_15 : decode cX7_ring 15 = .ok (.iload_n 1, 1) := by decide +kernel
theorem dX7_ring_16 : decode cX7_ring 16 = .ok (.ifCond .ne 10, 3) := by decide +kernel
theorem dX7_ring_19 : decode cX7_ring 19 = .ok (.aload_n 0, 1) := by decide +kernel
theorem dX7_ring_20 : decode cX7_ring 20 = .ok (.invokevirtual 402, 3) := by decide +kernel
theorem dX7_ring_23 : decode cX7_ring 23 = .ok (.goto 31, 3) := by decide +kernel
theorem dX7_ring_26 : decode cX7_ring 26 = .ok (.iload_n 1, 1) := by decide +kernel
theorem dX7_ring_27 : decode cX7_ring 27 = .ok (.iconst 1, 1) := by decide +kernel
theorem dX7_ring_28 : decode cX7_ring 28 = .ok (.if_icmp .ne 10, 3) := by decide +kernel
theorem dX7_ring_31 : decode cX7_ring 31 = .ok (.aload_n 0, 1) := by decide +kernel
theorem dX7_ring_32 : decode cX7_ring 32 = .ok (.invokevirtual 405, 3) := by decide +kernel
theorem dX7_ring_35 : decode cX7_ring 35 = .ok (.goto 19, 3) := by decide +kernel
theorem dX7_ring_38 : decode cX7_ring 38 = .ok (.iload_n 1, 1) := by decide +kernel
theorem dX7_ring_39 : decode cX7_ring 39 = .ok (.iconst 2, 1) := by decide +kernel
theorem dX7_ring_40 : decode cX7_ring 40 = .ok (.if_icmp .ne 10, 3) := by decide +kernel
theorem dX7_ring_43 : decode cX7_ring 43 = .ok (.aload_n 0, 1) := by decide +kernel
theorem dX7_ring_44 : decode cX7_ring 44 = .ok (.invokevirtual 399, 3) := by decide +kernel
theorem dX7_ring_47 : decode cX7_ring 47 = .ok (.goto 7, 3) := by decide +kernel
theorem dX7_ring_50 : decode cX7_ring 50 = .ok (.aload_n 0, 1) := by decide +kernel
theorem dX7_ring_51 : decode cX7_ring 51 = .ok (.invokevirtual 408, 3) := by decide +kernel
theorem dX7_ring_54 : decode cX7_ring 54 = .ok (.ireturn, 1) := by decide +kernel
theorem dX7_lowest_0 : decode cX7_lowest 0 = .ok (.lload_n 0, 1) := by decide +kernel
theorem dX7_lowest_1 : decode cX7_lowest 1 = .ok (.lconst 0, 1) := by decide +kernel
theorem dX7_lowest_2 : decode cX7_lowest 2 = .ok (.lcmp, 1) := by decide +kernel
theorem dX7_lowest_3 : decode cX7_lowest 3 = .ok (.ifCond .ge 8, 3) := by decide +kernel
theorem dX7_lowest_6 : decode cX7_lowest 6 = .ok (.lload_n 0, 1) := by decide +kernel
theorem dX7_lowest_7 : decode cX7_lowest 7 = .ok (.lneg, 1) := by decide +kernel
theorem dX7_lowest_8 : decode cX7_lowest 8 = .ok (.goto 4, 3) := by decide +kernel
theorem dX7_lowest_11 : decode cX7_lowest 11 = .ok (.lload_n 0, 1) := by decide +kernel
theorem dX7_lowest_12 : decode cX7_lowest 12 = .ok (.lstore 5, 2) := by decide +kernel
theorem dX7_lowest_14 : decode cX7_lowest 14 = .ok (.lload_n 2, 1) := by decide +kernel
theorem dX7_lowest_15 : decode cX7_lowest 15 = .ok (.lstore 7, 2) := by decide +kernel
theorem dX7_lowest_17 : decode cX7_lowest 17 = .ok (.lload 7, 2) := by decide +kernel
theorem dX7_lowest_19 : decode cX7_lowest 19 = .ok (.lconst 0, 1) := by decide +kernel
theorem dX7_lowest_20 : decode cX7_lowest 20 = .ok (.lcmp, 1) := by decide +kernel
theorem dX7_lowest_21 : decode cX7_lowest 21 = .ok (.ifCond .eq 21, 3) := by decide +kernel
theorem dX7_lowest_24 : decode cX7_lowest 24 = .ok (.lload 5, 2) := by decide +kernel
theorem dX7_lowest_26 : decode cX7_lowest 26 = .ok (.lload 7, 2) := by decide +kernel
theorem dX7_lowest_28 : decode cX7_lowest 28 = .ok (.lrem, 1) := by decide +kernel
theorem dX7_lowest_29 : decode cX7_lowest 29 = .ok (.lstore 9, 2) := by decide +kernel
theorem dX7_lowest_31 : decode cX7_lowest 31 = .ok (.lload 7, 2) := by decide +kernel
theorem dX7_lowest_33 : decode cX7_lowest 33 = .ok (.lstore 5, 2) := by decide +kernel
theorem dX7_lowest_35 : decode cX7_lowest 35 = .ok (.lload 9, 2) := by decide +kernel
theorem dX7_lowest_37 : decode cX7_lowest 37 = .ok (.lstore 7, 2) := by decide +kernel
theorem dX7_lowest_39 : decode cX7_lowest 39 = .ok (.goto (-22), 3) := by decide +kernel
theorem dX7_lowest_42 : decode cX7_lowest 42 = .ok (.iload 4, 2) := by decide +kernel
theorem dX7_lowest_44 : decode cX7_lowest 44 = .ok (.ifCond .ne 10, 3) := by decide +kernel
theorem dX7_lowest_47 : decode cX7_lowest 47 = .ok (.lload_n 0, 1) := by decide +kernel
theorem dX7_lowest_48 : decode cX7_lowest 48 = .ok (.lload 5, 2) := by decide +kernel
theorem dX7_lowest_50 : decode cX7_lowest 50 = .ok (.ldiv, 1) := by decide +kernel
theorem dX7_lowest_51 : decode cX7_lowest 51 = .ok (.goto 7, 3) := by decide +kernel
theorem dX7_lowest_54 : decode cX7_lowest 54 = .ok (.lload_n 2, 1) := by decide +kernel
theorem dX7_lowest_55 : decode cX7_lowest 55 = .ok (.lload 5, 2) := by decide +kernel
theorem dX7_lowest_57 : decode cX7_lowest 57 = .ok (.ldiv, 1) := by decide +kernel
theorem dX7_lowest_58 : decode cX7_lowest 58 = .ok (.lreturn, 1) := by decide +kernel
theorem dX7_mean_0 : decode cX7_mean 0 = .ok (.iload_n 1, 1) := by decide +kernel
theorem dX7_mean_1 : decode cX7_mean 1 = .ok (.i2l, 1) := by decide +kernel
theorem dX7_mean_2 : decode cX7_mean 2 = .ok (.lconst 0, 1) := by decide +kernel
theorem dX7_mean_3 : decode cX7_mean 3 = .ok (.ldc2_w 383, 3) := by decide +kernel
theorem dX7_mean_6 : decode cX7_mean 6 = .ok (.invokestatic 73, 3) := by decide +kernel
theorem dX7_mean_9 : decode cX7_mean 9 = .ok (.ifCond .eq 27, 3) := by decide +kernel
theorem dX7_mean_12 : decode cX7_mean 12 = .ok (.iload_n 2, 1) := by decide +kernel
theorem dX7_mean_13 : decode cX7_mean 13 = .ok (.invokestatic 362, 3) := by decide +kernel
theorem dX7_mean_16 : decode cX7_mean 16 = .ok (.ifCond .eq 20, 3) := by decide +kernel
theorem dX7_mean_19 : decode cX7_mean 19 = .ok (.iload_n 3, 1) := by decide +kernel
theorem dX7_mean_20 : decode cX7_mean 20 = .ok (.i2l, 1) := by decide +kernel
theorem dX7_mean_21 : decode cX7_mean 21 = .ok (.lconst 0, 1) := by decide +kernel
theorem dX7_mean_22 : decode cX7_mean 22 = .ok (.lconst 1, 1) := by decide +kernel
theorem dX7_mean_23 : decode cX7_mean 23 = .ok (.invokestatic 73, 3) := by decide +kernel
theorem dX7_mean_26 : decode cX7_mean 26 = .ok (.ifCond .eq 10, 3) := by decide +kernel
theorem dX7_mean_29 : decode cX7_mean 29 = .ok (.aload_n 0, 1) := by decide +kernel
theorem dX7_mean_30 : decode cX7_mean 30 = .ok (.getfield 70, 3) := by decide +kernel
theorem dX7_mean_33 : decode cX7_mean 33 = .ok (.ifCond .ne 7, 3) := by decide +kernel
theorem dX7_mean_36 : decode cX7_mean 36 = .ok (.ldc2_w 411, 3) := by decide +kernel
theorem dX7_mean_39 : decode cX7_mean 39 = .ok (.lreturn, 1) := by decide +kernel
theorem dX7_mean_40 : decode cX7_mean 40 = .ok (.aload_n 0, 1) := by decide +kernel
theorem dX7_mean_41 : decode cX7_mean 41 = .ok (.iload_n 1, 1) := by decide +kernel
theorem dX7_mean_42 : decode cX7_mean 42 = .ok (.iload_n 2, 1) := by decide +kernel
theorem dX7_mean_43 : decode cX7_mean 43 = .ok (.iconst 0, 1) := by decide +kernel
theorem dX7_mean_44 : decode cX7_mean 44 = .ok (.invokevirtual 413, 3) := by decide +kernel
theorem dX7_mean_47 : decode cX7_mean 47 = .ok (.i2l, 1) := by decide +kernel
theorem dX7_mean_48 : decode cX7_mean 48 = .ok (.aload_n 0, 1) := by decide +kernel
theorem dX7_mean_49 : decode cX7_mean 49 = .ok (.getfield 70, 3) := by decide +kernel
theorem dX7_mean_52 : decode cX7_mean 52 = .ok (.i2l, 1) := by decide +kernel
theorem dX7_mean_53 : decode cX7_mean 53 = .ok (.iload_n 3, 1) := by decide +kernel
theorem dX7_mean_54 : decode cX7_mean 54 = .ok (.invokestatic 416, 3) := by decide +kernel
theorem dX7_mean_57 : decode cX7_mean 57 = .ok (.lreturn, 1) := by decide +kernel
theorem dX7_best_0 : decode cX7_best 0 = .ok (.iload_n 1, 1) := by decide +kernel
theorem dX7_best_1 : decode cX7_best 1 = .ok (.i2l, 1) := by decide +kernel
theorem dX7_best_2 : decode cX7_best 2 = .ok (.lconst 0, 1) := by decide +kernel
theorem dX7_best_3 : decode cX7_best 3 = .ok (.ldc2_w 77, 3) := by decide +kernel
theorem dX7_best_6 : decode cX7_best 6 = .ok (.invokestatic 73, 3) := by decide +kernel
theorem dX7_best_9 : decode cX7_best 9 = .ok (.ifCond .eq 15, 3) := by decide +kernel
theorem dX7_best_12 : decode cX7_best 12 = .ok (.iload_n 2, 1) := by decide +kernel
theorem dX7_best_13 : decode cX7_best 13 = .ok (.i2l, 1) := by decide +kernel
theorem dX7_best_14 : decode cX7_best 14 = .ok (.lconst 0, 1) := by decide +kernel
theorem dX7_best_15 : decode cX7_best 15 = .ok (.ldc2_w 385, 3) := by decide +kernel
theorem dX7_best_18 : decode cX7_best 18 = .ok (.invokestatic 73, 3) := by decide +kernel
theorem dX7_best_21 : decode cX7_best 21 = .ok (.ifCond .ne 6, 3) := by decide +kernel
theorem dX7_best_24 : decode cX7_best 24 = .ok (.ldc 117, 2) := by decide +kernel
theorem dX7_best_26 : decode cX7_best 26 = .ok (.ireturn, 1) := by decide +kernel
theorem dX7_best_27 : decode cX7_best 27 = .ok (.iconst (-1), 1) := by decide +kernel
theorem dX7_best_28 : decode cX7_best 28 = .ok (.istore_n 3, 1) := by decide +kernel
theorem dX7_best_29 : decode cX7_best 29 = .ok (.iconst 0, 1) := by decide +kernel
theorem dX7_best_30 : decode cX7_best 30 = .ok (.istore 4, 2) := by decide +kernel
theorem dX7_best_32 : decode cX7_best 32 = .ok (.iconst 0, 1) := by decide +kernel
theorem dX7_best_33 : decode cX7_best 33 = .ok (.istore 5, 2) := by decide +kernel
theorem dX7_best_35 : decode cX7_best 35 = .ok (.iload 5, 2) := by decide +kernel
theorem dX7_best_37 : decode cX7_best 37 = .ok (.bipush 121, 2) := by decide +kernel
theorem dX7_best_39 : decode cX7_best 39 = .ok (.if_icmp .ge 63, 3) := by decide +kernel
theorem dX7_best_42 : decode cX7_best 42 = .ok (.bipush 100, 2) := by decide +kernel
theorem dX7_best_44 : decode cX7_best 44 = .ok (.iload 5, 2) := by decide +kernel
theorem dX7_best_46 : decode cX7_best 46 = .ok (.bipush 11, 2) := by decide +kernel
theorem dX7_best_48 : decode cX7_best 48 = .ok (.idiv, 1) := by decide +kernel
theorem dX7_best_49 : decode cX7_best 49 = .ok (.imul, 1) := by decide +kernel
theorem dX7_best_50 : decode cX7_best 50 = .ok (.iload 5, 2) := by decide +kernel
theorem dX7_best_52 : decode cX7_best 52 = .ok (.bipush 11, 2) := by decide +kernel
theorem dX7_best_54 : decode cX7_best 54 = .ok (.irem, 1) := by decide +kernel
theorem dX7_best_55 : decode cX7_best 55 = .ok (.iadd, 1) := by decide +kernel
theorem dX7_best_56 : decode cX7_best 56 = .ok (.istore 6, 2) := by decide +kernel
theorem dX7_best_58 : decode cX7_best 58 = .ok (.aload_n 0, 1) := by decide +kernel
theorem dX7_best_59 : decode cX7_best 59 = .ok (.iload_n 1, 1) := by decide +kernel
theorem dX7_best_60 : decode cX7_best 60 = .ok (.iload 6, 2) := by decide +kernel
theorem dX7_best_62 : decode cX7_best 62 = .ok (.iload_n 2, 1) := by decide +kernel
theorem dX7_best_63 : decode cX7_best 63 = .ok (.iconst 2, 1) := by decide +kernel
theorem dX7_best_64 : decode cX7_best 64 = .ok (.if_icmp .ge 7, 3) := by decide +kernel
theorem dX7_best_67 : decode cX7_best 67 = .ok (.iconst 0, 1) := by decide +kernel
theorem dX7_best_68 : decode cX7_best 68 = .ok (.goto 4, 3) := by decide +kernel
theorem dX7_best_71 : decode cX7_best 71 = .ok (.iconst 1, 1) := by decide +kernel
theorem dX7_best_72 : decode cX7_best 72 = .ok (.invokevirtual 413, 3) := by decide +kernel
theorem dX7_best_75 : decode cX7_best 75 = .ok (.istore 7, 2) := by decide +kernel
theorem dX7_best_77 : decode cX7_best 77 = .ok (.iload_n 3, 1) := by decide +kernel
theorem dX7_best_78 : decode cX7_best 78 = .ok (.iconst (-1), 1) := by decide +kernel
theorem dX7_best_79 : decode cX7_best 79 = .ok (.if_icmp .eq 10, 3) := by decide +kernel
theorem dX7_best_82 : decode cX7_best 82 = .ok (.iload 7, 2) := by decide +kernel
theorem dX7_best_84 : decode cX7_best 84 = .ok (.iload 4, 2) := by decide +kernel
theorem dX7_best_86 : decode cX7_best 86 = .ok (.if_icmp .le 10, 3) := by decide +kernel
theorem dX7_best_89 : decode cX7_best 89 = .ok (.iload 6, 2) := by decide +kernel
theorem dX7_best_91 : decode cX7_best 91 = .ok (.istore_n 3, 1) := by decide +kernel
theorem dX7_best_92 : decode cX7_best 92 = .ok (.iload 7, 2) := by decide +kernel
theorem dX7_best_94 : decode cX7_best 94 = .ok (.istore 4, 2) := by decide +kernel
theorem dX7_best_96 : decode cX7_best 96 = .ok (.iinc 5 1, 3) := by decide +kernel
theorem dX7_best_99 : decode cX7_best 99 = .ok (.goto (-64), 3) := by decide +kernel
theorem dX7_best_102 : decode cX7_best 102 = .ok (.iload_n 2, 1) := by decide +kernel
theorem dX7_best_103 : decode cX7_best 103 = .ok (.iconst 2, 1) := by decide +kernel
theorem dX7_best_104 : decode cX7_best 104 = .ok (.irem, 1) := by decide +kernel
theorem dX7_best_105 : decode cX7_best 105 = .ok (.ifCond .ne 7, 3) := by decide +kernel
theorem dX7_best_108 : decode cX7_best 108 = .ok (.iload_n 3, 1) := by decide +kernel
theorem dX7_best_109 : decode cX7_best 109 = .ok (.goto 5, 3) := by decide +kernel
theorem dX7_best_112 : decode cX7_best 112 = .ok (.iload 4, 2) := by decide +kernel
theorem dX7_best_114 : decode cX7_best 114 = .ok (.ireturn, 1) := by decide +kernel
theorem dX7_seat_0 : decode cX7_seat 0 = .ok (.aload_n 0, 1) := by decide +kernel
theorem dX7_seat_1 : decode cX7_seat 1 = .ok (.iload_n 1, 1) := by decide +kernel
theorem dX7_seat_2 : decode cX7_seat 2 = .ok (.invokevirtual 97, 3) := by decide +kernel
theorem dX7_seat_5 : decode cX7_seat 5 = .ok (.ifCond .eq 13, 3) := by decide +kernel
theorem dX7_seat_8 : decode cX7_seat 8 = .ok (.iload_n 2, 1) := by decide +kernel
theorem dX7_seat_9 : decode cX7_seat 9 = .ok (.i2l, 1) := by decide +kernel
theorem dX7_seat_10 : decode cX7_seat 10 = .ok (.lconst 0, 1) := by decide +kernel
theorem dX7_seat_11 : decode cX7_seat 11 = .ok (.lconst 1, 1) := by decide +kernel
theorem dX7_seat_12 : decode cX7_seat 12 = .ok (.invokestatic 73, 3) := by decide +kernel
theorem dX7_seat_15 : decode cX7_seat 15 = .ok (.ifCond .ne 6, 3) := by decide +kernel
theorem dX7_seat_18 : decode cX7_seat 18 = .ok (.ldc 117, 2) := by decide +kernel
theorem dX7_seat_20 : decode cX7_seat 20 = .ok (.ireturn, 1) := by decide +kernel
theorem dX7_seat_21 : decode cX7_seat 21 = .ok (.aload_n 0, 1) := by decide +kernel
theorem dX7_seat_22 : decode cX7_seat 22 = .ok (.iload_n 1, 1) := by decide +kernel
theorem dX7_seat_23 : decode cX7_seat 23 = .ok (.invokevirtual 342, 3) := by decide +kernel
theorem dX7_seat_26 : decode cX7_seat 26 = .ok (.istore_n 3, 1) := by decide +kernel
theorem dX7_seat_27 : decode cX7_seat 27 = .ok (.aload_n 0, 1) := by decide +kernel
theorem dX7_seat_28 : decode cX7_seat 28 = .ok (.invokevirtual 399, 3) := by decide +kernel
theorem dX7_seat_31 : decode cX7_seat 31 = .ok (.iconst 1, 1) := by decide +kernel
theorem dX7_seat_32 : decode cX7_seat 32 = .ok (.iload_n 3, 1) := by decide +kernel
theorem dX7_seat_33 : decode cX7_seat 33 = .ok (.ishl, 1) := by decide +kernel
theorem dX7_seat_34 : decode cX7_seat 34 = .ok (.ior, 1) := by decide +kernel
theorem dX7_seat_35 : decode cX7_seat 35 = .ok (.istore 4, 2) := by decide +kernel
theorem dX7_seat_37 : decode cX7_seat 37 = .ok (.iconst (-1), 1) := by decide +kernel
theorem dX7_seat_38 : decode cX7_seat 38 = .ok (.istore 5, 2) := by decide +kernel
theorem dX7_seat_40 : decode cX7_seat 40 = .ok (.iconst 0, 1) := by decide +kernel
theorem dX7_seat_41 : decode cX7_seat 41 = .ok (.istore 6, 2) := by decide +kernel
theorem dX7_seat_43 : decode cX7_seat 43 = .ok (.iconst 0, 1) := by decide +kernel
theorem dX7_seat_44 : decode cX7_seat 44 = .ok (.istore 7, 2) := by decide +kernel
theorem dX7_seat_46 : decode cX7_seat 46 = .ok (.iload 7, 2) := by decide +kernel
theorem dX7_seat_48 : decode cX7_seat 48 = .ok (.bipush 11, 2) := by decide +kernel
theorem dX7_seat_50 : decode cX7_seat 50 = .ok (.if_icmp .ge 59, 3) := by decide +kernel
theorem dX7_seat_53 : decode cX7_seat 53 = .ok (.iload 4, 2) := by decide +kernel
theorem dX7_seat_55 : decode cX7_seat 55 = .ok (.iload 7, 2) := by decide +kernel
theorem dX7_seat_57 : decode cX7_seat 57 = .ok (.ishr, 1) := by decide +kernel
theorem dX7_seat_58 : decode cX7_seat 58 = .ok (.iconst 1, 1) := by decide +kernel
theorem dX7_seat_59 : decode cX7_seat 59 = .ok (.iand, 1) := by decide +kernel
theorem dX7_seat_60 : decode cX7_seat 60 = .ok (.iconst 1, 1) := by decide +kernel
theorem dX7_seat_61 : decode cX7_seat 61 = .ok (.if_icmp .ne 42, 3) := by decide +kernel
theorem dX7_seat_64 : decode cX7_seat 64 = .ok (.aload_n 0, 1) := by decide +kernel
theorem dX7_seat_65 : decode cX7_seat 65 = .ok (.getfield 29, 3) := by decide +kernel
theorem dX7_seat_68 : decode cX7_seat 68 = .ok (.iconst 4, 1) := by decide +kernel
theorem dX7_seat_69 : decode cX7_seat 69 = .ok (.iload_n 1, 1) := by decide +kernel
theorem dX7_seat_70 : decode cX7_seat 70 = .ok (.imul, 1) := by decide +kernel
theorem dX7_seat_71 : decode cX7_seat 71 = .ok (.iconst 1, 1) := by decide +kernel
theorem dX7_seat_72 : decode cX7_seat 72 = .ok (.iadd, 1) := by decide +kernel
theorem dX7_seat_73 : decode cX7_seat 73 = .ok (.iload 7, 2) := by decide +kernel
theorem dX7_seat_75 : decode cX7_seat 75 = .ok (.iastore, 1) := by decide +kernel
theorem dX7_seat_76 : decode cX7_seat 76 = .ok (.aload_n 0, 1) := by decide +kernel
theorem dX7_seat_77 : decode cX7_seat 77 = .ok (.invokevirtual 402, 3) := by decide +kernel
theorem dX7_seat_80 : decode cX7_seat 80 = .ok (.istore 8, 2) := by decide +kernel
theorem dX7_seat_82 : decode cX7_seat 82 = .ok (.iload 5, 2) := by decide +kernel
theorem dX7_seat_84 : decode cX7_seat 84 = .ok (.iconst (-1), 1) := by decide +kernel
theorem dX7_seat_85 : decode cX7_seat 85 = .ok (.if_icmp .eq 10, 3) := by decide +kernel
theorem dX7_seat_88 : decode cX7_seat 88 = .ok (.iload 8, 2) := by decide +kernel
theorem dX7_seat_90 : decode cX7_seat 90 = .ok (.iload 6, 2) := by decide +kernel
theorem dX7_seat_92 : decode cX7_seat 92 = .ok (.if_icmp .le 11, 3) := by decide +kernel
theorem dX7_seat_95 : decode cX7_seat 95 = .ok (.iload 7, 2) := by decide +kernel
theorem dX7_seat_97 : decode cX7_seat 97 = .ok (.istore 5, 2) := by decide +kernel
theorem dX7_seat_99 : decode cX7_seat 99 = .ok (.iload 8, 2) := by decide +kernel
theorem dX7_seat_101 : decode cX7_seat 101 = .ok (.istore 6, 2) := by decide +kernel
theorem dX7_seat_103 : decode cX7_seat 103 = .ok (.iinc 7 1, 3) := by decide +kernel
theorem dX7_seat_106 : decode cX7_seat 106 = .ok (.goto (-60), 3) := by decide +kernel
theorem dX7_seat_109 : decode cX7_seat 109 = .ok (.aload_n 0, 1) := by decide +kernel
theorem dX7_seat_110 : decode cX7_seat 110 = .ok (.getfield 29, 3) := by decide +kernel
theorem dX7_seat_113 : decode cX7_seat 113 = .ok (.iconst 4, 1) := by decide +kernel
theorem dX7_seat_114 : decode cX7_seat 114 = .ok (.iload_n 1, 1) := by decide +kernel
theorem dX7_seat_115 : decode cX7_seat 115 = .ok (.imul, 1) := by decide +kernel
theorem dX7_seat_116 : decode cX7_seat 116 = .ok (.iconst 1, 1) := by decide +kernel
theorem dX7_seat_117 : decode cX7_seat 117 = .ok (.iadd, 1) := by decide +kernel
theorem dX7_seat_118 : decode cX7_seat 118 = .ok (.iload_n 3, 1) := by decide +kernel
theorem dX7_seat_119 : decode cX7_seat 119 = .ok (.iastore, 1) := by decide +kernel
theorem dX7_seat_120 : decode cX7_seat 120 = .ok (.iload_n 2, 1) := by decide +kernel
theorem dX7_seat_121 : decode cX7_seat 121 = .ok (.ifCond .ne 8, 3) := by decide +kernel
theorem dX7_seat_124 : decode cX7_seat 124 = .ok (.iload 5, 2) := by decide +kernel
theorem dX7_seat_126 : decode cX7_seat 126 = .ok (.goto 5, 3) := by decide +kernel
theorem dX7_seat_129 : decode cX7_seat 129 = .ok (.iload 6, 2) := by decide +kernel
theorem dX7_seat_131 : decode cX7_seat 131 = .ok (.ireturn, 1) := by decide +kernel
theorem dX7_swaps_0 : decode cX7_swaps 0 = .ok (.aload_n 0, 1) := by decide +kernel
theorem dX7_swaps_1 : decode cX7_swaps 1 = .ok (.getfield 29, 3) := by decide +kernel
theorem dX7_swaps_4 : decode cX7_swaps 4 = .ok (.iconst 4, 1) := by decide +kernel
theorem dX7_swaps_5 : decode cX7_swaps 5 = .ok (.iload_n 1, 1) := by decide +kernel
theorem dX7_swaps_6 : decode cX7_swaps 6 = .ok (.imul, 1) := by decide +kernel
theorem dX7_swaps_7 : decode cX7_swaps 7 = .ok (.iconst 1, 1) := by decide +kernel
theorem dX7_swaps_8 : decode cX7_swaps 8 = .ok (.iadd, 1) := by decide +kernel
theorem dX7_swaps_9 : decode cX7_swaps 9 = .ok (.iaload, 1) := by decide +kernel
theorem dX7_swaps_10 : decode cX7_swaps 10 = .ok (.istore_n 3, 1) := by decide +kernel
theorem dX7_swaps_11 : decode cX7_swaps 11 = .ok (.aload_n 0, 1) := by decide +kernel
theorem dX7_swaps_12 : decode cX7_swaps 12 = .ok (.getfield 29, 3) := by decide +kernel
theorem dX7_swaps_15 : decode cX7_swaps 15 = .ok (.iconst 4, 1) := by decide +kernel
theorem dX7_swaps_16 : decode cX7_swaps 16 = .ok (.iload_n 1, 1) := by decide +kernel
theorem dX7_swaps_17 : decode cX7_swaps 17 = .ok (.imul, 1) := by decide +kernel
theorem dX7_swaps_18 : decode cX7_swaps 18 = .ok (.iconst 1, 1) := by decide +kernel
theorem dX7_swaps_19 : decode cX7_swaps 19 = .ok (.iadd, 1) := by decide +kernel
theorem dX7_swaps_20 : decode cX7_swaps 20 = .ok (.aload_n 0, 1) := by decide +kernel
theorem dX7_swaps_21 : decode cX7_swaps 21 = .ok (.getfield 29, 3) := by decide +kernel
theorem dX7_swaps_24 : decode cX7_swaps 24 = .ok (.iconst 4, 1) := by decide +kernel
theorem dX7_swaps_25 : decode cX7_swaps 25 = .ok (.iload_n 2, 1) := by decide +kernel
theorem dX7_swaps_26 : decode cX7_swaps 26 = .ok (.imul, 1) := by decide +kernel
theorem dX7_swaps_27 : decode cX7_swaps 27 = .ok (.iconst 1, 1) := by decide +kernel
theorem dX7_swaps_28 : decode cX7_swaps 28 = .ok (.iadd, 1) := by decide +kernel
theorem dX7_swaps_29 : decode cX7_swaps 29 = .ok (.iaload, 1) := by decide +kernel
theorem dX7_swaps_30 : decode cX7_swaps 30 = .ok (.iastore, 1) := by decide +kernel
theorem dX7_swaps_31 : decode cX7_swaps 31 = .ok (.aload_n 0, 1) := by decide +kernel
theorem dX7_swaps_32 : decode cX7_swaps 32 = .ok (.getfield 29, 3) := by decide +kernel
theorem dX7_swaps_35 : decode cX7_swaps 35 = .ok (.iconst 4, 1) := by decide +kernel
theorem dX7_swaps_36 : decode cX7_swaps 36 = .ok (.iload_n 2, 1) := by decide +kernel
theorem dX7_swaps_37 : decode cX7_swaps 37 = .ok (.imul, 1) := by decide +kernel
theorem dX7_swaps_38 : decode cX7_swaps 38 = .ok (.iconst 1, 1) := by decide +kernel
theorem dX7_swaps_39 : decode cX7_swaps 39 = .ok (.iadd, 1) := by decide +kernel
theorem dX7_swaps_40 : decode cX7_swaps 40 = .ok (.iload_n 3, 1) := by decide +kernel
theorem dX7_swaps_41 : decode cX7_swaps 41 = .ok (.iastore, 1) := by decide +kernel
theorem dX7_swaps_42 : decode cX7_swaps 42 = .ok (.return_, 1) := by decide +kernel
theorem dX7_changed_0 : decode cX7_changed 0 = .ok (.iconst (-1), 1) := by decide +kernel
theorem dX7_changed_1 : decode cX7_changed 1 = .ok (.istore_n 2, 1) := by decide +kernel
theorem dX7_changed_2 : decode cX7_changed 2 = .ok (.aload_n 0, 1) := by decide +kernel
theorem dX7_changed_3 : decode cX7_changed 3 = .ok (.invokevirtual 402, 3) := by decide +kernel
theorem dX7_changed_6 : decode cX7_changed 6 = .ok (.istore_n 3, 1) := by decide +kernel
theorem dX7_changed_7 : decode cX7_changed 7 = .ok (.iconst 0, 1) := by decide +kernel
theorem dX7_changed_8 : decode cX7_changed 8 = .ok (.istore 4, 2) := by decide +kernel
theorem dX7_changed_10 : decode cX7_changed 10 = .ok (.iload 4, 2) := by decide +kernel
theorem dX7_changed_12 : decode cX7_changed 12 = .ok (.aload_n 0, 1) := by decide +kernel
theorem dX7_changed_13 : decode cX7_changed 13 = .ok (.getfield 70, 3) := by decide +kernel
theorem dX7_changed_16 : decode cX7_changed 16 = .ok (.if_icmp .ge 70, 3) := by decide +kernel
theorem dX7_changed_19 : decode cX7_changed 19 = .ok (.iload 4, 2) := by decide +kernel
theorem dX7_changed_21 : decode cX7_changed 21 = .ok (.iconst 1, 1) := by decide +kernel
theorem dX7_changed_22 : decode cX7_changed 22 = .ok (.iadd, 1) := by decide +kernel
theorem dX7_changed_23 : decode cX7_changed 23 = .ok (.istore 5, 2) := by decide +kernel
theorem dX7_changed_25 : decode cX7_changed 25 = .ok (.iload 5, 2) := by decide +kernel
theorem dX7_changed_27 : decode cX7_changed 27 = .ok (.aload_n 0, 1) := by decide +kernel
theorem dX7_changed_28 : decode cX7_changed 28 = .ok (.getfield 70, 3) := by decide +kernel
theorem dX7_changed_31 : decode cX7_changed 31 = .ok (.if_icmp .ge 49, 3) := by decide +kernel
theorem dX7_changed_34 : decode cX7_changed 34 = .ok (.aload_n 0, 1) := by decide +kernel
theorem dX7_changed_35 : decode cX7_changed 35 = .ok (.iload 4, 2) := by decide +kernel
theorem dX7_changed_37 : decode cX7_changed 37 = .ok (.iload 5, 2) := by decide +kernel
theorem dX7_changed_39 : decode cX7_changed 39 = .ok (.invokevirtual 420, 3) := by decide +kernel
theorem dX7_changed_42 : decode cX7_changed 42 = .ok (.aload_n 0, 1) := by decide +kernel
theorem dX7_changed_43 : decode cX7_changed 43 = .ok (.invokevirtual 402, 3) := by decide +kernel
theorem dX7_changed_46 : decode cX7_changed 46 = .ok (.istore 6, 2) := by decide +kernel
theorem dX7_changed_48 : decode cX7_changed 48 = .ok (.aload_n 0, 1) := by decide +kernel
theorem dX7_changed_49 : decode cX7_changed 49 = .ok (.iload 4, 2) := by decide +kernel
theorem dX7_changed_51 : decode cX7_changed 51 = .ok (.iload 5, 2) := by decide +kernel
theorem dX7_changed_53 : decode cX7_changed 53 = .ok (.invokevirtual 420, 3) := by decide +kernel
theorem dX7_changed_56 : decode cX7_changed 56 = .ok (.iload 6, 2) := by decide +kernel
theorem dX7_changed_58 : decode cX7_changed 58 = .ok (.iload_n 3, 1) := by decide +kernel
theorem dX7_changed_59 : decode cX7_changed 59 = .ok (.if_icmp .le 15, 3) := by decide +kernel
theorem dX7_changed_62 : decode cX7_changed 62 = .ok (.bipush 10, 2) := by decide +kernel
theorem dX7_changed_64 : decode cX7_changed 64 = .ok (.iload 4, 2) := by decide +kernel
theorem dX7_changed_66 : decode cX7_changed 66 = .ok (.imul, 1) := by decide +kernel
theorem dX7_changed_67 : decode cX7_changed 67 = .ok (.iload 5, 2) := by decide +kernel
theorem dX7_changed_69 : decode cX7_changed 69 = .ok (.iadd, 1) := by decide +kernel
theorem dX7_changed_70 : decode cX7_changed 70 = .ok (.istore_n 2, 1) := by decide +kernel
theorem dX7_changed_71 : decode cX7_changed 71 = .ok (.iload 6, 2) := by decide +kernel
theorem dX7_changed_73 : decode cX7_changed 73 = .ok (.istore_n 3, 1) := by decide +kernel
theorem dX7_changed_74 : decode cX7_changed 74 = .ok (.iinc 5 1, 3) := by decide +kernel
theorem dX7_changed_77 : decode cX7_changed 77 = .ok (.goto (-52), 3) := by decide +kernel
theorem dX7_changed_80 : decode cX7_changed 80 = .ok (.iinc 4 1, 3) := by decide +kernel
theorem dX7_changed_83 : decode cX7_changed 83 = .ok (.goto (-73), 3) := by decide +kernel
theorem dX7_changed_86 : decode cX7_changed 86 = .ok (.iload_n 1, 1) := by decide +kernel
theorem dX7_changed_87 : decode cX7_changed 87 = .ok (.ifCond .ne 7, 3) := by decide +kernel
theorem dX7_changed_90 : decode cX7_changed 90 = .ok (.iload_n 2, 1) := by decide +kernel
theorem dX7_changed_91 : decode cX7_changed 91 = .ok (.goto 4, 3) := by decide +kernel
theorem dX7_changed_94 : decode cX7_changed 94 = .ok (.iload_n 3, 1) := by decide +kernel
theorem dX7_changed_95 : decode cX7_changed 95 = .ok (.ireturn, 1) := by decide +kernel
theorem dX7_placed_0 : decode cX7_placed 0 = .ok (.aload_n 0, 1) := by decide +kernel
theorem dX7_placed_1 : decode cX7_placed 1 = .ok (.getfield 23, 3) := by decide +kernel
theorem dX7_placed_4 : decode cX7_placed 4 = .ok (.iload_n 1, 1) := by decide +kernel
theorem dX7_placed_5 : decode cX7_placed 5 = .ok (.iaload, 1) := by decide +kernel
theorem dX7_placed_6 : decode cX7_placed 6 = .ok (.istore_n 3, 1) := by decide +kernel
theorem dX7_placed_7 : decode cX7_placed 7 = .ok (.iconst (-1), 1) := by decide +kernel
theorem dX7_placed_8 : decode cX7_placed 8 = .ok (.istore 4, 2) := by decide +kernel
theorem dX7_placed_10 : decode cX7_placed 10 = .ok (.iconst 0, 1) := by decide +kernel
theorem dX7_placed_11 : decode cX7_placed 11 = .ok (.istore 5, 2) := by decide +kernel
theorem dX7_placed_13 : decode cX7_placed 13 = .ok (.iconst 0, 1) := by decide +kernel
theorem dX7_placed_14 : decode cX7_placed 14 = .ok (.istore 6, 2) := by decide +kernel
theorem dX7_placed_16 : decode cX7_placed 16 = .ok (.iload 6, 2) := by decide +kernel
theorem dX7_placed_18 : decode cX7_placed 18 = .ok (.bipush 11, 2) := by decide +kernel
theorem dX7_placed_20 : decode cX7_placed 20 = .ok (.if_icmp .ge 44, 3) := by decide +kernel
theorem dX7_placed_23 : decode cX7_placed 23 = .ok (.aload_n 0, 1) := by decide +kernel
theorem dX7_placed_24 : decode cX7_placed 24 = .ok (.getfield 23, 3) := by decide +kernel
theorem dX7_placed_27 : decode cX7_placed 27 = .ok (.iload_n 1, 1) := by decide +kernel
theorem dX7_placed_28 : decode cX7_placed 28 = .ok (.iload 6, 2) := by decide +kernel
theorem dX7_placed_30 : decode cX7_placed 30 = .ok (.iastore, 1) := by decide +kernel
theorem dX7_placed_31 : decode cX7_placed 31 = .ok (.aload_n 0, 1) := by decide +kernel
theorem dX7_placed_32 : decode cX7_placed 32 = .ok (.invokevirtual 402, 3) := by decide +kernel
theorem dX7_placed_35 : decode cX7_placed 35 = .ok (.istore 7, 2) := by decide +kernel
theorem dX7_placed_37 : decode cX7_placed 37 = .ok (.iload 4, 2) := by decide +kernel
theorem dX7_placed_39 : decode cX7_placed 39 = .ok (.iconst (-1), 1) := by decide +kernel
theorem dX7_placed_40 : decode cX7_placed 40 = .ok (.if_icmp .eq 10, 3) := by decide +kernel
theorem dX7_placed_43 : decode cX7_placed 43 = .ok (.iload 7, 2) := by decide +kernel
theorem dX7_placed_45 : decode cX7_placed 45 = .ok (.iload 5, 2) := by decide +kernel
theorem dX7_placed_47 : decode cX7_placed 47 = .ok (.if_icmp .le 11, 3) := by decide +kernel
theorem dX7_placed_50 : decode cX7_placed 50 = .ok (.iload 6, 2) := by decide +kernel
theorem dX7_placed_52 : decode cX7_placed 52 = .ok (.istore 4, 2) := by decide +kernel
theorem dX7_placed_54 : decode cX7_placed 54 = .ok (.iload 7, 2) := by decide +kernel
theorem dX7_placed_56 : decode cX7_placed 56 = .ok (.istore 5, 2) := by decide +kernel
theorem dX7_placed_58 : decode cX7_placed 58 = .ok (.iinc 6 1, 3) := by decide +kernel
theorem dX7_placed_61 : decode cX7_placed 61 = .ok (.goto (-45), 3) := by decide +kernel
theorem dX7_placed_64 : decode cX7_placed 64 = .ok (.aload_n 0, 1) := by decide +kernel
theorem dX7_placed_65 : decode cX7_placed 65 = .ok (.getfield 23, 3) := by decide +kernel
theorem dX7_placed_68 : decode cX7_placed 68 = .ok (.iload_n 1, 1) := by decide +kernel
theorem dX7_placed_69 : decode cX7_placed 69 = .ok (.iload_n 3, 1) := by decide +kernel
theorem dX7_placed_70 : decode cX7_placed 70 = .ok (.iastore, 1) := by decide +kernel
theorem dX7_placed_71 : decode cX7_placed 71 = .ok (.iload_n 2, 1) := by decide +kernel
theorem dX7_placed_72 : decode cX7_placed 72 = .ok (.ifCond .eq 8, 3) := by decide +kernel
theorem dX7_placed_75 : decode cX7_placed 75 = .ok (.iload 4, 2) := by decide +kernel
theorem dX7_placed_77 : decode cX7_placed 77 = .ok (.goto 5, 3) := by decide +kernel
theorem dX7_placed_80 : decode cX7_placed 80 = .ok (.iload 5, 2) := by decide +kernel
theorem dX7_placed_82 : decode cX7_placed 82 = .ok (.ireturn, 1) := by decide +kernel
theorem dX7_change_0 : decode cX7_change 0 = .ok (.iload_n 1, 1) := by decide +kernel
theorem dX7_change_1 : decode cX7_change 1 = .ok (.i2l, 1) := by decide +kernel
theorem dX7_change_2 : decode cX7_change 2 = .ok (.lconst 0, 1) := by decide +kernel
theorem dX7_change_3 : decode cX7_change 3 = .ok (.ldc2_w 424, 3) := by decide +kernel
theorem dX7_change_6 : decode cX7_change 6 = .ok (.invokestatic 73, 3) := by decide +kernel
theorem dX7_change_9 : decode cX7_change 9 = .ok (.ifCond .ne 6, 3) := by decide +kernel
theorem dX7_change_12 : decode cX7_change 12 = .ok (.ldc 117, 2) := by decide +kernel
theorem dX7_change_14 : decode cX7_change 14 = .ok (.ireturn, 1) := by decide +kernel
theorem dX7_change_15 : decode cX7_change 15 = .ok (.iload_n 1, 1) := by decide +kernel
theorem dX7_change_16 : decode cX7_change 16 = .ok (.iconst 2, 1) := by decide +kernel
theorem dX7_change_17 : decode cX7_change 17 = .ok (.if_icmp .ge 11, 3) := by decide +kernel
theorem dX7_change_20 : decode cX7_change 20 = .ok (.aload_n 0, 1) := by decide +kernel
theorem dX7_change_21 : decode cX7_change 21 = .ok (.iload_n 1, 1) := by decide +kernel
theorem dX7_change_22 : decode cX7_change 22 = .ok (.invokevirtual 426, 3) := by decide +kernel
theorem dX7_change_25 : decode cX7_change 25 = .ok (.goto 38, 3) := by decide +kernel
theorem dX7_change_28 : decode cX7_change 28 = .ok (.aload_n 0, 1) := by decide +kernel
theorem dX7_change_29 : decode cX7_change 29 = .ok (.iload_n 1, 1) := by decide +kernel
theorem dX7_change_30 : decode cX7_change 30 = .ok (.iconst 4, 1) := by decide +kernel
theorem dX7_change_31 : decode cX7_change 31 = .ok (.if_icmp .ge 7, 3) := by decide +kernel
theorem dX7_change_34 : decode cX7_change 34 = .ok (.iconst 1, 1) := by decide +kernel
theorem dX7_change_35 : decode cX7_change 35 = .ok (.goto 14, 3) := by decide +kernel
theorem dX7_change_38 : decode cX7_change 38 = .ok (.iload_n 1, 1) := by decide +kernel
theorem dX7_change_39 : decode cX7_change 39 = .ok (.bipush 6, 2) := by decide +kernel
theorem dX7_change_41 : decode cX7_change 41 = .ok (.if_icmp .ge 7, 3) := by decide +kernel
theorem dX7_change_44 : decode cX7_change 44 = .ok (.iconst 2, 1) := by decide +kernel
theorem dX7_change_45 : decode cX7_change 45 = .ok (.goto 4, 3) := by decide +kernel
theorem dX7_change_48 : decode cX7_change 48 = .ok (.iconst 0, 1) := by decide +kernel
theorem dX7_change_49 : decode cX7_change 49 = .ok (.iload_n 1, 1) := by decide +kernel
theorem dX7_change_50 : decode cX7_change 50 = .ok (.iconst 2, 1) := by decide +kernel
theorem dX7_change_51 : decode cX7_change 51 = .ok (.irem, 1) := by decide +kernel
theorem dX7_change_52 : decode cX7_change 52 = .ok (.ifCond .ne 7, 3) := by decide +kernel
theorem dX7_change_55 : decode cX7_change 55 = .ok (.iconst 1, 1) := by decide +kernel
theorem dX7_change_56 : decode cX7_change 56 = .ok (.goto 4, 3) := by decide +kernel
theorem dX7_change_59 : decode cX7_change 59 = .ok (.iconst 0, 1) := by decide +kernel
theorem dX7_change_60 : decode cX7_change 60 = .ok (.invokevirtual 429, 3) := by decide +kernel
theorem dX7_change_63 : decode cX7_change 63 = .ok (.ireturn, 1) := by decide +kernel
theorem dX7_round_0 : decode cX7_round 0 = .ok (.aload_n 0, 1) := by decide +kernel
theorem dX7_round_1 : decode cX7_round 1 = .ok (.iload_n 1, 1) := by decide +kernel
theorem dX7_round_2 : decode cX7_round 2 = .ok (.invokevirtual 97, 3) := by decide +kernel
theorem dX7_round_5 : decode cX7_round 5 = .ok (.ifCond .eq 10, 3) := by decide +kernel
theorem dX7_round_8 : decode cX7_round 8 = .ok (.iload_n 2, 1) := by decide +kernel
theorem dX7_round_9 : decode cX7_round 9 = .ok (.invokestatic 362, 3) := by decide +kernel
theorem dX7_round_12 : decode cX7_round 12 = .ok (.ifCond .ne 6, 3) := by decide +kernel
theorem dX7_round_15 : decode cX7_round 15 = .ok (.bipush (-2), 2) := by decide +kernel
theorem dX7_round_17 : decode cX7_round 17 = .ok (.ireturn, 1) := by decide +kernel
theorem dX7_round_18 : decode cX7_round 18 = .ok (.aload_n 0, 1) := by decide +kernel
theorem dX7_round_19 : decode cX7_round 19 = .ok (.invokevirtual 387, 3) := by decide +kernel
theorem dX7_round_22 : decode cX7_round 22 = .ok (.iconst 0, 1) := by decide +kernel
theorem dX7_round_23 : decode cX7_round 23 = .ok (.istore_n 3, 1) := by decide +kernel
theorem dX7_round_24 : decode cX7_round 24 = .ok (.iload_n 3, 1) := by decide +kernel
theorem dX7_round_25 : decode cX7_round 25 = .ok (.bipush 40, 2) := by decide +kernel
theorem dX7_round_27 : decode cX7_round 27 = .ok (.if_icmp .gt 38, 3) := by decide +kernel
theorem dX7_round_30 : decode cX7_round 30 = .ok (.aload_n 0, 1) := by decide +kernel
theorem dX7_round_31 : decode cX7_round 31 = .ok (.getfield 29, 3) := by decide +kernel
theorem dX7_round_34 : decode cX7_round 34 = .ok (.iconst 4, 1) := by decide +kernel
theorem dX7_round_35 : decode cX7_round 35 = .ok (.iload_n 1, 1) := by decide +kernel
theorem dX7_round_36 : decode cX7_round 36 = .ok (.imul, 1) := by decide +kernel
theorem dX7_round_37 : decode cX7_round 37 = .ok (.iconst 2, 1) := by decide +kernel
theorem dX7_round_38 : decode cX7_round 38 = .ok (.iadd, 1) := by decide +kernel
theorem dX7_round_39 : decode cX7_round 39 = .ok (.iaload, 1) := by decide +kernel
theorem dX7_round_40 : decode cX7_round 40 = .ok (.sipush 2047, 3) := by decide +kernel
theorem dX7_round_43 : decode cX7_round 43 = .ok (.if_icmp .eq 22, 3) := by decide +kernel
theorem dX7_round_46 : decode cX7_round 46 = .ok (.aload_n 0, 1) := by decide +kernel
theorem dX7_round_47 : decode cX7_round 47 = .ok (.iload_n 2, 1) := by decide +kernel
theorem dX7_round_48 : decode cX7_round 48 = .ok (.bipush 100, 2) := by decide +kernel
theorem dX7_round_50 : decode cX7_round 50 = .ok (.idiv, 1) := by decide +kernel
theorem dX7_round_51 : decode cX7_round 51 = .ok (.iload_n 2, 1) := by decide +kernel
theorem dX7_round_52 : decode cX7_round 52 = .ok (.bipush 100, 2) := by decide +kernel
theorem dX7_round_54 : decode cX7_round 54 = .ok (.irem, 1) := by decide +kernel
theorem dX7_round_55 : decode cX7_round 55 = .ok (.invokevirtual 365, 3) := by decide +kernel
theorem dX7_round_58 : decode cX7_round 58 = .ok (.pop, 1) := by decide +kernel
theorem dX7_round_59 : decode cX7_round 59 = .ok (.iinc 3 1, 3) := by decide +kernel
theorem dX7_round_62 : decode cX7_round 62 = .ok (.goto (-38), 3) := by decide +kernel
theorem dX7_round_65 : decode cX7_round 65 = .ok (.aload_n 0, 1) := by decide +kernel
theorem dX7_round_66 : decode cX7_round 66 = .ok (.invokevirtual 396, 3) := by decide +kernel
theorem dX7_round_69 : decode cX7_round 69 = .ok (.iload_n 3, 1) := by decide +kernel
theorem dX7_round_70 : decode cX7_round 70 = .ok (.bipush 40, 2) := by decide +kernel
theorem dX7_round_72 : decode cX7_round 72 = .ok (.if_icmp .le 7, 3) := by decide +kernel
theorem dX7_round_75 : decode cX7_round 75 = .ok (.iconst (-1), 1) := by decide +kernel
theorem dX7_round_76 : decode cX7_round 76 = .ok (.goto 4, 3) := by decide +kernel
theorem dX7_round_79 : decode cX7_round 79 = .ok (.iload_n 3, 1) := by decide +kernel
theorem dX7_round_80 : decode cX7_round 80 = .ok (.ireturn, 1) := by decide +kernel
theorem dX7_firstOther_0 : decode cX7_firstOther 0 = .ok (.aload_n 0, 1) := by decide +kernel
theorem dX7_firstOther_1 : decode cX7_firstOther 1 = .ok (.invokevirtual 387, 3) := by decide +kernel
theorem dX7_firstOther_4 : decode cX7_firstOther 4 = .ok (.iconst (-1), 1) := by decide +kernel
theorem dX7_firstOther_5 : decode cX7_firstOther 5 = .ok (.istore 4, 2) := by decide +kernel
theorem dX7_firstOther_7 : decode cX7_firstOther 7 = .ok (.iconst 0, 1) := by decide +kernel
theorem dX7_firstOther_8 : decode cX7_firstOther 8 = .ok (.istore 5, 2) := by decide +kernel
theorem dX7_firstOther_10 : decode cX7_firstOther 10 = .ok (.iload 5, 2) := by decide +kernel
theorem dX7_firstOther_12 : decode cX7_firstOther 12 = .ok (.aload_n 0, 1) := by decide +kernel
theorem dX7_firstOther_13 : decode cX7_firstOther 13 = .ok (.getfield 57, 3) := by decide +kernel
theorem dX7_firstOther_16 : decode cX7_firstOther 16 = .ok (.iload_n 1, 1) := by decide +kernel
theorem dX7_firstOther_17 : decode cX7_firstOther 17 = .ok (.iaload, 1) := by decide +kernel
theorem dX7_firstOther_18 : decode cX7_firstOther 18 = .ok (.if_icmp .ge 56, 3) := by decide +kernel
theorem dX7_firstOther_21 : decode cX7_firstOther 21 = .ok (.iload 4, 2) := by decide +kernel
theorem dX7_firstOther_23 : decode cX7_firstOther 23 = .ok (.iconst (-1), 1) := by decide +kernel
theorem dX7_firstOther_24 : decode cX7_firstOther 24 = .ok (.if_icmp .ne 50, 3) := by decide +kernel
theorem dX7_firstOther_27 : decode cX7_firstOther 27 = .ok (.aload_n 0, 1) := by decide +kernel
theorem dX7_firstOther_28 : decode cX7_firstOther 28 = .ok (.iload_n 2, 1) := by decide +kernel
theorem dX7_firstOther_29 : decode cX7_firstOther 29 = .ok (.invokevirtual 130, 3) := by decide +kernel
theorem dX7_firstOther_32 : decode cX7_firstOther 32 = .ok (.aload_n 0, 1) := by decide +kernel
theorem dX7_firstOther_33 : decode cX7_firstOther 33 = .ok (.getfield 60, 3) := by decide +kernel
theorem dX7_firstOther_36 : decode cX7_firstOther 36 = .ok (.bipush 40, 2) := by decide +kernel
theorem dX7_firstOther_38 : decode cX7_firstOther 38 = .ok (.iload_n 1, 1) := by decide +kernel
theorem dX7_firstOther_39 : decode cX7_firstOther 39 = .ok (.imul, 1) := by decide +kernel
theorem dX7_firstOther_40 : decode cX7_firstOther 40 = .ok (.iload 5, 2) := by decide +kernel
theorem dX7_firstOther_42 : decode cX7_firstOther 42 = .ok (.iadd, 1) := by decide +kernel
theorem dX7_firstOther_43 : decode cX7_firstOther 43 = .ok (.iaload, 1) := by decide +kernel
theorem dX7_firstOther_44 : decode cX7_firstOther 44 = .ok (.if_icmp .ne 7, 3) := by decide +kernel
theorem dX7_firstOther_47 : decode cX7_firstOther 47 = .ok (.iconst (-1), 1) := by decide +kernel
theorem dX7_firstOther_48 : decode cX7_firstOther 48 = .ok (.goto 5, 3) := by decide +kernel
theorem dX7_firstOther_51 : decode cX7_firstOther 51 = .ok (.iload 5, 2) := by decide +kernel
theorem dX7_firstOther_53 : decode cX7_firstOther 53 = .ok (.istore 4, 2) := by decide +kernel
theorem dX7_firstOther_55 : decode cX7_firstOther 55 = .ok (.aload_n 0, 1) := by decide +kernel
theorem dX7_firstOther_56 : decode cX7_firstOther 56 = .ok (.iload_n 3, 1) := by decide +kernel
theorem dX7_firstOther_57 : decode cX7_firstOther 57 = .ok (.bipush 100, 2) := by decide +kernel
theorem dX7_firstOther_59 : decode cX7_firstOther 59 = .ok (.idiv, 1) := by decide +kernel
theorem dX7_firstOther_60 : decode cX7_firstOther 60 = .ok (.iload_n 3, 1) := by decide +kernel
theorem dX7_firstOther_61 : decode cX7_firstOther 61 = .ok (.bipush 100, 2) := by decide +kernel
theorem dX7_firstOther_63 : decode cX7_firstOther 63 = .ok (.irem, 1) := by decide +kernel
theorem dX7_firstOther_64 : decode cX7_firstOther 64 = .ok (.invokevirtual 365, 3) := by decide +kernel
theorem dX7_firstOther_67 : decode cX7_firstOther 67 = .ok (.pop, 1) := by decide +kernel
theorem dX7_firstOther_68 : decode cX7_firstOther 68 = .ok (.iinc 5 1, 3) := by decide +kernel
theorem dX7_firstOther_71 : decode cX7_firstOther 71 = .ok (.goto (-61), 3) := by decide +kernel
theorem dX7_firstOther_74 : decode cX7_firstOther 74 = .ok (.aload_n 0, 1) := by decide +kernel
theorem dX7_firstOther_75 : decode cX7_firstOther 75 = .ok (.invokevirtual 396, 3) := by decide +kernel
theorem dX7_firstOther_78 : decode cX7_firstOther 78 = .ok (.iload 4, 2) := by decide +kernel
theorem dX7_firstOther_80 : decode cX7_firstOther 80 = .ok (.ireturn, 1) := by decide +kernel
theorem dX7_tells_0 : decode cX7_tells 0 = .ok (.iload_n 1, 1) := by decide +kernel
theorem dX7_tells_1 : decode cX7_tells 1 = .ok (.invokestatic 433, 3) := by decide +kernel
theorem dX7_tells_4 : decode cX7_tells 4 = .ok (.ifCond .eq 31, 3) := by decide +kernel
theorem dX7_tells_7 : decode cX7_tells 7 = .ok (.aload_n 0, 1) := by decide +kernel
theorem dX7_tells_8 : decode cX7_tells 8 = .ok (.iload_n 2, 1) := by decide +kernel
theorem dX7_tells_9 : decode cX7_tells 9 = .ok (.invokevirtual 97, 3) := by decide +kernel
theorem dX7_tells_12 : decode cX7_tells 12 = .ok (.ifCond .eq 23, 3) := by decide +kernel
theorem dX7_tells_15 : decode cX7_tells 15 = .ok (.iload_n 3, 1) := by decide +kernel
theorem dX7_tells_16 : decode cX7_tells 16 = .ok (.invokestatic 362, 3) := by decide +kernel
theorem dX7_tells_19 : decode cX7_tells 19 = .ok (.ifCond .eq 16, 3) := by decide +kernel
theorem dX7_tells_22 : decode cX7_tells 22 = .ok (.iload 4, 2) := by decide +kernel
theorem dX7_tells_24 : decode cX7_tells 24 = .ok (.i2l, 1) := by decide +kernel
theorem dX7_tells_25 : decode cX7_tells 25 = .ok (.lconst 0, 1) := by decide +kernel
theorem dX7_tells_26 : decode cX7_tells 26 = .ok (.ldc2_w 424, 3) := by decide +kernel
theorem dX7_tells_29 : decode cX7_tells 29 = .ok (.invokestatic 73, 3) := by decide +kernel
theorem dX7_tells_32 : decode cX7_tells 32 = .ok (.ifCond .ne 6, 3) := by decide +kernel
theorem dX7_tells_35 : decode cX7_tells 35 = .ok (.bipush (-2), 2) := by decide +kernel
theorem dX7_tells_37 : decode cX7_tells 37 = .ok (.ireturn, 1) := by decide +kernel
theorem dX7_tells_38 : decode cX7_tells 38 = .ok (.aload_n 0, 1) := by decide +kernel
theorem dX7_tells_39 : decode cX7_tells 39 = .ok (.getfield 50, 3) := by decide +kernel
theorem dX7_tells_42 : decode cX7_tells 42 = .ok (.iload_n 1, 1) := by decide +kernel
theorem dX7_tells_43 : decode cX7_tells 43 = .ok (.baload, 1) := by decide +kernel
theorem dX7_tells_44 : decode cX7_tells 44 = .ok (.ifCond .ne 6, 3) := by decide +kernel
theorem dX7_tells_47 : decode cX7_tells 47 = .ok (.bipush (-11), 2) := by decide +kernel
theorem dX7_tells_49 : decode cX7_tells 49 = .ok (.ireturn, 1) := by decide +kernel
theorem dX7_tells_50 : decode cX7_tells 50 = .ok (.aload_n 0, 1) := by decide +kernel
theorem dX7_tells_51 : decode cX7_tells 51 = .ok (.getfield 57, 3) := by decide +kernel
theorem dX7_tells_54 : decode cX7_tells 54 = .ok (.iload_n 1, 1) := by decide +kernel
theorem dX7_tells_55 : decode cX7_tells 55 = .ok (.iaload, 1) := by decide +kernel
theorem dX7_tells_56 : decode cX7_tells 56 = .ok (.bipush 20, 2) := by decide +kernel
theorem dX7_tells_58 : decode cX7_tells 58 = .ok (.if_icmp .le 6, 3) := by decide +kernel
theorem dX7_tells_61 : decode cX7_tells 61 = .ok (.bipush (-2), 2) := by decide +kernel
theorem dX7_tells_63 : decode cX7_tells 63 = .ok (.ireturn, 1) := by decide +kernel
theorem dX7_tells_64 : decode cX7_tells 64 = .ok (.iload 4, 2) := by decide +kernel
theorem dX7_tells_66 : decode cX7_tells 66 = .ok (.ifCond .ne 11, 3) := by decide +kernel
theorem dX7_tells_69 : decode cX7_tells 69 = .ok (.aload_n 0, 1) := by decide +kernel
theorem dX7_tells_70 : decode cX7_tells 70 = .ok (.iload_n 1, 1) := by decide +kernel
theorem dX7_tells_71 : decode cX7_tells 71 = .ok (.iload_n 2, 1) := by decide +kernel
theorem dX7_tells_72 : decode cX7_tells 72 = .ok (.iload_n 3, 1) := by decide +kernel
theorem dX7_tells_73 : decode cX7_tells 73 = .ok (.invokevirtual 436, 3) := by decide +kernel
theorem dX7_tells_76 : decode cX7_tells 76 = .ok (.ireturn, 1) := by decide +kernel
theorem dX7_tells_77 : decode cX7_tells 77 = .ok (.iload 4, 2) := by decide +kernel
theorem dX7_tells_79 : decode cX7_tells 79 = .ok (.iconst 1, 1) := by decide +kernel
theorem dX7_tells_80 : decode cX7_tells 80 = .ok (.if_icmp .ne 8, 3) := by decide +kernel
theorem dX7_tells_83 : decode cX7_tells 83 = .ok (.bipush 6, 2) := by decide +kernel
theorem dX7_tells_85 : decode cX7_tells 85 = .ok (.goto 39, 3) := by decide +kernel
theorem dX7_tells_88 : decode cX7_tells 88 = .ok (.iload 4, 2) := by decide +kernel
theorem dX7_tells_90 : decode cX7_tells 90 = .ok (.iconst 2, 1) := by decide +kernel
theorem dX7_tells_91 : decode cX7_tells 91 = .ok (.if_icmp .ne 7, 3) := by decide +kernel
theorem dX7_tells_94 : decode cX7_tells 94 = .ok (.iconst 4, 1) := by decide +kernel
theorem dX7_tells_95 : decode cX7_tells 95 = .ok (.goto 29, 3) := by decide +kernel
theorem dX7_tells_98 : decode cX7_tells 98 = .ok (.iload 4, 2) := by decide +kernel
theorem dX7_tells_100 : decode cX7_tells 100 = .ok (.iconst 3, 1) := by decide +kernel
theorem dX7_tells_101 : decode cX7_tells 101 = .ok (.if_icmp .ne 7, 3) := by decide +kernel
theorem dX7_tells_104 : decode cX7_tells 104 = .ok (.iconst 5, 1) := by decide +kernel
theorem dX7_tells_105 : decode cX7_tells 105 = .ok (.goto 19, 3) := by decide +kernel
theorem dX7_tells_108 : decode cX7_tells 108 = .ok (.iload 4, 2) := by decide +kernel
theorem dX7_tells_110 : decode cX7_tells 110 = .ok (.bipush 7, 2) := by decide +kernel
theorem dX7_tells_112 : decode cX7_tells 112 = .ok (.if_icmp .ne 8, 3) := by decide +kernel
theorem dX7_tells_115 : decode cX7_tells 115 = .ok (.bipush 7, 2) := by decide +kernel
theorem dX7_tells_117 : decode cX7_tells 117 = .ok (.goto 7, 3) := by decide +kernel
theorem dX7_tells_120 : decode cX7_tells 120 = .ok (.iload 4, 2) := by decide +kernel
theorem dX7_tells_122 : decode cX7_tells 122 = .ok (.iconst 4, 1) := by decide +kernel
theorem dX7_tells_123 : decode cX7_tells 123 = .ok (.isub, 1) := by decide +kernel
theorem dX7_tells_124 : decode cX7_tells 124 = .ok (.istore 5, 2) := by decide +kernel
theorem dX7_tells_126 : decode cX7_tells 126 = .ok (.iload 5, 2) := by decide +kernel
theorem dX7_tells_128 : decode cX7_tells 128 = .ok (.bipush 7, 2) := by decide +kernel
theorem dX7_tells_130 : decode cX7_tells 130 = .ok (.if_icmp .ne 10, 3) := by decide +kernel
theorem dX7_tells_133 : decode cX7_tells 133 = .ok (.aload_n 0, 1) := by decide +kernel
theorem dX7_tells_134 : decode cX7_tells 134 = .ok (.getfield 112, 3) := by decide +kernel
theorem dX7_tells_137 : decode cX7_tells 137 = .ok (.goto 10, 3) := by decide +kernel
theorem dX7_tells_140 : decode cX7_tells 140 = .ok (.aload_n 0, 1) := by decide +kernel
theorem dX7_tells_141 : decode cX7_tells 141 = .ok (.iload_n 2, 1) := by decide +kernel
theorem dX7_tells_142 : decode cX7_tells 142 = .ok (.iload 5, 2) := by decide +kernel
theorem dX7_tells_144 : decode cX7_tells 144 = .ok (.invokevirtual 104, 3) := by decide +kernel
theorem dX7_tells_147 : decode cX7_tells 147 = .ok (.istore 6, 2) := by decide +kernel
theorem dX7_tells_149 : decode cX7_tells 149 = .ok (.iload 5, 2) := by decide +kernel
theorem dX7_tells_151 : decode cX7_tells 151 = .ok (.bipush 7, 2) := by decide +kernel
theorem dX7_tells_153 : decode cX7_tells 153 = .ok (.if_icmp .ne 12, 3) := by decide +kernel
theorem dX7_tells_156 : decode cX7_tells 156 = .ok (.aload_n 0, 1) := by decide +kernel
theorem dX7_tells_157 : decode cX7_tells 157 = .ok (.getfield 67, 3) := by decide +kernel
theorem dX7_tells_160 : decode cX7_tells 160 = .ok (.iconst 1, 1) := by decide +kernel
theorem dX7_tells_161 : decode cX7_tells 161 = .ok (.isub, 1) := by decide +kernel
theorem dX7_tells_162 : decode cX7_tells 162 = .ok (.goto 27, 3) := by decide +kernel
theorem dX7_tells_165 : decode cX7_tells 165 = .ok (.iload 5, 2) := by decide +kernel
theorem dX7_tells_167 : decode cX7_tells 167 = .ok (.bipush 6, 2) := by decide +kernel
theorem dX7_tells_169 : decode cX7_tells 169 = .ok (.if_icmp .ne 7, 3) := by decide +kernel
theorem dX7_tells_172 : decode cX7_tells 172 = .ok (.iconst 5, 1) := by decide +kernel
theorem dX7_tells_173 : decode cX7_tells 173 = .ok (.goto 16, 3) := by decide +kernel
theorem dX7_tells_176 : decode cX7_tells 176 = .ok (.iload 5, 2) := by decide +kernel
theorem dX7_tells_178 : decode cX7_tells 178 = .ok (.iconst 4, 1) := by decide +kernel
theorem dX7_tells_179 : decode cX7_tells 179 = .ok (.if_icmp .ne 8, 3) := by decide +kernel
theorem dX7_tells_182 : decode cX7_tells 182 = .ok (.bipush 9, 2) := by decide +kernel
theorem dX7_tells_184 : decode cX7_tells 184 = .ok (.goto 5, 3) := by decide +kernel
theorem dX7_tells_187 : decode cX7_tells 187 = .ok (.bipush 10, 2) := by decide +kernel
theorem dX7_tells_189 : decode cX7_tells 189 = .ok (.istore 7, 2) := by decide +kernel
theorem dX7_tells_191 : decode cX7_tells 191 = .ok (.iload 5, 2) := by decide +kernel
theorem dX7_tells_193 : decode cX7_tells 193 = .ok (.iconst 5, 1) := by decide +kernel
theorem dX7_tells_194 : decode cX7_tells 194 = .ok (.if_icmp .ne 15, 3) := by decide +kernel
theorem dX7_tells_197 : decode cX7_tells 197 = .ok (.aload_n 0, 1) := by decide +kernel
theorem dX7_tells_198 : decode cX7_tells 198 = .ok (.invokevirtual 399, 3) := by decide +kernel
theorem dX7_tells_201 : decode cX7_tells 201 = .ok (.iconst 1, 1) := by decide +kernel
theorem dX7_tells_202 : decode cX7_tells 202 = .ok (.iload 6, 2) := by decide +kernel
theorem dX7_tells_204 : decode cX7_tells 204 = .ok (.ishl, 1) := by decide +kernel
theorem dX7_tells_205 : decode cX7_tells 205 = .ok (.ior, 1) := by decide +kernel
theorem dX7_tells_206 : decode cX7_tells 206 = .ok (.goto 6, 3) := by decide +kernel
theorem dX7_tells_209 : decode cX7_tells 209 = .ok (.sipush 2047, 3) := by decide +kernel
theorem dX7_tells_212 : decode cX7_tells 212 = .ok (.istore 8, 2) := by decide +kernel
theorem dX7_tells_214 : decode cX7_tells 214 = .ok (.iconst 0, 1) := by decide +kernel
theorem dX7_tells_215 : decode cX7_tells 215 = .ok (.istore 9, 2) := by decide +kernel
theorem dX7_tells_217 : decode cX7_tells 217 = .ok (.iconst 0, 1) := by decide +kernel
theorem dX7_tells_218 : decode cX7_tells 218 = .ok (.istore 10, 2) := by decide +kernel
theorem dX7_tells_220 : decode cX7_tells 220 = .ok (.iload 10, 2) := by decide +kernel
theorem dX7_tells_222 : decode cX7_tells 222 = .ok (.iload 7, 2) := by decide +kernel
theorem dX7_tells_224 : decode cX7_tells 224 = .ok (.if_icmp .gt 53, 3) := by decide +kernel
theorem dX7_tells_227 : decode cX7_tells 227 = .ok (.iload 8, 2) := by decide +kernel
theorem dX7_tells_229 : decode cX7_tells 229 = .ok (.iload 10, 2) := by decide +kernel
theorem dX7_tells_231 : decode cX7_tells 231 = .ok (.ishr, 1) := by decide +kernel
theorem dX7_tells_232 : decode cX7_tells 232 = .ok (.iconst 1, 1) := by decide +kernel
theorem dX7_tells_233 : decode cX7_tells 233 = .ok (.iand, 1) := by decide +kernel
theorem dX7_tells_234 : decode cX7_tells 234 = .ok (.iconst 1, 1) := by decide +kernel
theorem dX7_tells_235 : decode cX7_tells 235 = .ok (.if_icmp .ne 36, 3) := by decide +kernel
theorem dX7_tells_238 : decode cX7_tells 238 = .ok (.aload_n 0, 1) := by decide +kernel
theorem dX7_tells_239 : decode cX7_tells 239 = .ok (.iload 5, 2) := by decide +kernel
theorem dX7_tells_241 : decode cX7_tells 241 = .ok (.iload_n 2, 1) := by decide +kernel
theorem dX7_tells_242 : decode cX7_tells 242 = .ok (.iload 10, 2) := by decide +kernel
theorem dX7_tells_244 : decode cX7_tells 244 = .ok (.invokevirtual 108, 3) := by decide +kernel
theorem dX7_tells_247 : decode cX7_tells 247 = .ok (.iload 9, 2) := by decide +kernel
theorem dX7_tells_249 : decode cX7_tells 249 = .ok (.aload_n 0, 1) := by decide +kernel
theorem dX7_tells_250 : decode cX7_tells 250 = .ok (.iload_n 1, 1) := by decide +kernel
theorem dX7_tells_251 : decode cX7_tells 251 = .ok (.iload_n 2, 1) := by decide +kernel
theorem dX7_tells_252 : decode cX7_tells 252 = .ok (.iload_n 3, 1) := by decide +kernel
theorem dX7_tells_253 : decode cX7_tells 253 = .ok (.invokevirtual 436, 3) := by decide +kernel
theorem dX7_tells_256 : decode cX7_tells 256 = .ok (.iconst (-1), 1) := by decide +kernel
theorem dX7_tells_257 : decode cX7_tells 257 = .ok (.if_icmp .ne 7, 3) := by decide +kernel
theorem dX7_tells_260 : decode cX7_tells 260 = .ok (.iconst 1, 1) := by decide +kernel
theorem dX7_tells_261 : decode cX7_tells 261 = .ok (.goto 4, 3) := by decide +kernel
theorem dX7_tells_264 : decode cX7_tells 264 = .ok (.iconst 0, 1) := by decide +kernel
theorem dX7_tells_265 : decode cX7_tells 265 = .ok (.iload 10, 2) := by decide +kernel
theorem dX7_tells_267 : decode cX7_tells 267 = .ok (.ishl, 1) := by decide +kernel
theorem dX7_tells_268 : decode cX7_tells 268 = .ok (.ior, 1) := by decide +kernel
theorem dX7_tells_269 : decode cX7_tells 269 = .ok (.istore 9, 2) := by decide +kernel
theorem dX7_tells_271 : decode cX7_tells 271 = .ok (.iinc 10 1, 3) := by decide +kernel
theorem dX7_tells_274 : decode cX7_tells 274 = .ok (.goto (-54), 3) := by decide +kernel
theorem dX7_tells_277 : decode cX7_tells 277 = .ok (.aload_n 0, 1) := by decide +kernel
theorem dX7_tells_278 : decode cX7_tells 278 = .ok (.iload 5, 2) := by decide +kernel
theorem dX7_tells_280 : decode cX7_tells 280 = .ok (.iload_n 2, 1) := by decide +kernel
theorem dX7_tells_281 : decode cX7_tells 281 = .ok (.iload 6, 2) := by decide +kernel
theorem dX7_tells_283 : decode cX7_tells 283 = .ok (.invokevirtual 108, 3) := by decide +kernel
theorem dX7_tells_286 : decode cX7_tells 286 = .ok (.iload 9, 2) := by decide +kernel
theorem dX7_tells_288 : decode cX7_tells 288 = .ok (.ireturn, 1) := by decide +kernel
theorem dX7_film_0 : decode cX7_film 0 = .ok (.iload_n 1, 1) := by decide +kernel
theorem dX7_film_1 : decode cX7_film 1 = .ok (.invokestatic 433, 3) := by decide +kernel
theorem dX7_film_4 : decode cX7_film 4 = .ok (.ifCond .eq 31, 3) := by decide +kernel
theorem dX7_film_7 : decode cX7_film 7 = .ok (.aload_n 0, 1) := by decide +kernel
theorem dX7_film_8 : decode cX7_film 8 = .ok (.iload_n 2, 1) := by decide +kernel
theorem dX7_film_9 : decode cX7_film 9 = .ok (.invokevirtual 97, 3) := by decide +kernel
theorem dX7_film_12 : decode cX7_film 12 = .ok (.ifCond .eq 23, 3) := by decide +kernel
theorem dX7_film_15 : decode cX7_film 15 = .ok (.iload_n 3, 1) := by decide +kernel
theorem dX7_film_16 : decode cX7_film 16 = .ok (.invokestatic 362, 3) := by decide +kernel
theorem dX7_film_19 : decode cX7_film 19 = .ok (.ifCond .eq 16, 3) := by decide +kernel
theorem dX7_film_22 : decode cX7_film 22 = .ok (.iload 4, 2) := by decide +kernel
theorem dX7_film_24 : decode cX7_film 24 = .ok (.i2l, 1) := by decide +kernel
theorem dX7_film_25 : decode cX7_film 25 = .ok (.lconst 0, 1) := by decide +kernel
theorem dX7_film_26 : decode cX7_film 26 = .ok (.ldc2_w 379, 3) := by decide +kernel
theorem dX7_film_29 : decode cX7_film 29 = .ok (.invokestatic 73, 3) := by decide +kernel
theorem dX7_film_32 : decode cX7_film 32 = .ok (.ifCond .ne 6, 3) := by decide +kernel
theorem dX7_film_35 : decode cX7_film 35 = .ok (.bipush (-2), 2) := by decide +kernel
theorem dX7_film_37 : decode cX7_film 37 = .ok (.ireturn, 1) := by decide +kernel
theorem dX7_film_38 : decode cX7_film 38 = .ok (.aload_n 0, 1) := by decide +kernel
theorem dX7_film_39 : decode cX7_film 39 = .ok (.iload_n 1, 1) := by decide +kernel
theorem dX7_film_40 : decode cX7_film 40 = .ok (.iconst 1, 1) := by decide +kernel
theorem dX7_film_41 : decode cX7_film 41 = .ok (.iload 4, 2) := by decide +kernel
theorem dX7_film_43 : decode cX7_film 43 = .ok (.invokevirtual 439, 3) := by decide +kernel
theorem dX7_film_46 : decode cX7_film 46 = .ok (.pop, 1) := by decide +kernel
theorem dX7_film_47 : decode cX7_film 47 = .ok (.aload_n 0, 1) := by decide +kernel
theorem dX7_film_48 : decode cX7_film 48 = .ok (.invokevirtual 387, 3) := by decide +kernel
theorem dX7_film_51 : decode cX7_film 51 = .ok (.iconst 0, 1) := by decide +kernel
theorem dX7_film_52 : decode cX7_film 52 = .ok (.istore 5, 2) := by decide +kernel
theorem dX7_film_54 : decode cX7_film 54 = .ok (.iload 5, 2) := by decide +kernel
theorem dX7_film_56 : decode cX7_film 56 = .ok (.iload 4, 2) := by decide +kernel
theorem dX7_film_58 : decode cX7_film 58 = .ok (.if_icmp .ge 39, 3) := by decide +kernel
theorem dX7_film_61 : decode cX7_film 61 = .ok (.aload_n 0, 1) := by decide +kernel
theorem dX7_film_62 : decode cX7_film 62 = .ok (.getfield 60, 3) := by decide +kernel
theorem dX7_film_65 : decode cX7_film 65 = .ok (.bipush 40, 2) := by decide +kernel
theorem dX7_film_67 : decode cX7_film 67 = .ok (.iload_n 1, 1) := by decide +kernel
theorem dX7_film_68 : decode cX7_film 68 = .ok (.imul, 1) := by decide +kernel
theorem dX7_film_69 : decode cX7_film 69 = .ok (.iload 5, 2) := by decide +kernel
theorem dX7_film_71 : decode cX7_film 71 = .ok (.iadd, 1) := by decide +kernel
theorem dX7_film_72 : decode cX7_film 72 = .ok (.aload_n 0, 1) := by decide +kernel
theorem dX7_film_73 : decode cX7_film 73 = .ok (.iload_n 2, 1) := by decide +kernel
theorem dX7_film_74 : decode cX7_film 74 = .ok (.invokevirtual 130, 3) := by decide +kernel
theorem dX7_film_77 : decode cX7_film 77 = .ok (.iastore, 1) := by decide +kernel
theorem dX7_film_78 : decode cX7_film 78 = .ok (.aload_n 0, 1) := by decide +kernel
theorem dX7_film_79 : decode cX7_film 79 = .ok (.iload_n 3, 1) := by decide +kernel
theorem dX7_film_80 : decode cX7_film 80 = .ok (.bipush 100, 2) := by decide +kernel
theorem dX7_film_82 : decode cX7_film 82 = .ok (.idiv, 1) := by decide +kernel
theorem dX7_film_83 : decode cX7_film 83 = .ok (.iload_n 3, 1) := by decide +kernel
theorem dX7_film_84 : decode cX7_film 84 = .ok (.bipush 100, 2) := by decide +kernel
theorem dX7_film_86 : decode cX7_film 86 = .ok (.irem, 1) := by decide +kernel
theorem dX7_film_87 : decode cX7_film 87 = .ok (.invokevirtual 365, 3) := by decide +kernel
theorem dX7_film_90 : decode cX7_film 90 = .ok (.pop, 1) := by decide +kernel
theorem dX7_film_91 : decode cX7_film 91 = .ok (.iinc 5 1, 3) := by decide +kernel
theorem dX7_film_94 : decode cX7_film 94 = .ok (.goto (-40), 3) := by decide +kernel
theorem dX7_film_97 : decode cX7_film 97 = .ok (.aload_n 0, 1) := by decide +kernel
theorem dX7_film_98 : decode cX7_film 98 = .ok (.invokevirtual 396, 3) := by decide +kernel
theorem dX7_film_101 : decode cX7_film 101 = .ok (.iload 4, 2) := by decide +kernel
theorem dX7_film_103 : decode cX7_film 103 = .ok (.ireturn, 1) := by decide +kernel
