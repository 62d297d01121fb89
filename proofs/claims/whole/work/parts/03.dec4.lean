theorem dX7_sumDrawn_0 : decode cX7_sumDrawn 0 = .ok (.aload_n 0, 1) := by decide +kernel
theorem dX7_sumDrawn_1 : decode cX7_sumDrawn 1 = .ok (.invokevirtual 387, 3) := by decide +kernel
theorem dX7_sumDrawn_4 : decode cX7_sumDrawn 4 = .ok (.iload_n 1, 1) := by decide +kernel
theorem dX7_sumDrawn_5 : decode cX7_sumDrawn 5 = .ok (.istore_n 3, 1) := by decide +kernel
theorem dX7_sumDrawn_6 : decode cX7_sumDrawn 6 = .ok (.iconst 0, 1) := by decide +kernel
theorem dX7_sumDrawn_7 : decode cX7_sumDrawn 7 = .ok (.istore 4, 2) := by decide +kernel
theorem dX7_sumDrawn_9 : decode cX7_sumDrawn 9 = .ok (.iconst 0, 1) := by decide +kernel
theorem dX7_sumDrawn_10 : decode cX7_sumDrawn 10 = .ok (.istore 5, 2) := by decide +kernel
theorem dX7_sumDrawn_12 : decode cX7_sumDrawn 12 = .ok (.iload 5, 2) := by decide +kernel
theorem dX7_sumDrawn_14 : decode cX7_sumDrawn 14 = .ok (.iload_n 2, 1) := by decide +kernel
theorem dX7_sumDrawn_15 : decode cX7_sumDrawn 15 = .ok (.if_icmp .ge 36, 3) := by decide +kernel
theorem dX7_sumDrawn_18 : decode cX7_sumDrawn 18 = .ok (.iload_n 3, 1) := by decide +kernel
theorem dX7_sumDrawn_19 : decode cX7_sumDrawn 19 = .ok (.ldc_w 442, 3) := by decide +kernel
theorem dX7_sumDrawn_22 : decode cX7_sumDrawn 22 = .ok (.imul, 1) := by decide +kernel
theorem dX7_sumDrawn_23 : decode cX7_sumDrawn 23 = .ok (.sipush 12345, 3) := by decide +kernel
theorem dX7_sumDrawn_26 : decode cX7_sumDrawn 26 = .ok (.iadd, 1) := by decide +kernel
theorem dX7_sumDrawn_27 : decode cX7_sumDrawn 27 = .ok (.istore_n 3, 1) := by decide +kernel
theorem dX7_sumDrawn_28 : decode cX7_sumDrawn 28 = .ok (.iload 4, 2) := by decide +kernel
theorem dX7_sumDrawn_30 : decode cX7_sumDrawn 30 = .ok (.aload_n 0, 1) := by decide +kernel
theorem dX7_sumDrawn_31 : decode cX7_sumDrawn 31 = .ok (.iload_n 3, 1) := by decide +kernel
theorem dX7_sumDrawn_32 : decode cX7_sumDrawn 32 = .ok (.bipush 9, 2) := by decide +kernel
theorem dX7_sumDrawn_34 : decode cX7_sumDrawn 34 = .ok (.iushr, 1) := by decide +kernel
theorem dX7_sumDrawn_35 : decode cX7_sumDrawn 35 = .ok (.bipush 11, 2) := by decide +kernel
theorem dX7_sumDrawn_37 : decode cX7_sumDrawn 37 = .ok (.irem, 1) := by decide +kernel
theorem dX7_sumDrawn_38 : decode cX7_sumDrawn 38 = .ok (.iconst 0, 1) := by decide +kernel
theorem dX7_sumDrawn_39 : decode cX7_sumDrawn 39 = .ok (.invokevirtual 365, 3) := by decide +kernel
theorem dX7_sumDrawn_42 : decode cX7_sumDrawn 42 = .ok (.iadd, 1) := by decide +kernel
theorem dX7_sumDrawn_43 : decode cX7_sumDrawn 43 = .ok (.istore 4, 2) := by decide +kernel
theorem dX7_sumDrawn_45 : decode cX7_sumDrawn 45 = .ok (.iinc 5 1, 3) := by decide +kernel
theorem dX7_sumDrawn_48 : decode cX7_sumDrawn 48 = .ok (.goto (-36), 3) := by decide +kernel
theorem dX7_sumDrawn_51 : decode cX7_sumDrawn 51 = .ok (.aload_n 0, 1) := by decide +kernel
theorem dX7_sumDrawn_52 : decode cX7_sumDrawn 52 = .ok (.invokevirtual 396, 3) := by decide +kernel
theorem dX7_sumDrawn_55 : decode cX7_sumDrawn 55 = .ok (.iload 4, 2) := by decide +kernel
theorem dX7_sumDrawn_57 : decode cX7_sumDrawn 57 = .ok (.ireturn, 1) := by decide +kernel
theorem dX7_drawn_0 : decode cX7_drawn 0 = .ok (.iload_n 2, 1) := by decide +kernel
theorem dX7_drawn_1 : decode cX7_drawn 1 = .ok (.i2l, 1) := by decide +kernel
theorem dX7_drawn_2 : decode cX7_drawn 2 = .ok (.lconst 0, 1) := by decide +kernel
theorem dX7_drawn_3 : decode cX7_drawn 3 = .ok (.ldc2_w 383, 3) := by decide +kernel
theorem dX7_drawn_6 : decode cX7_drawn 6 = .ok (.invokestatic 73, 3) := by decide +kernel
theorem dX7_drawn_9 : decode cX7_drawn 9 = .ok (.ifCond .eq 12, 3) := by decide +kernel
theorem dX7_drawn_12 : decode cX7_drawn 12 = .ok (.aload_n 0, 1) := by decide +kernel
theorem dX7_drawn_13 : decode cX7_drawn 13 = .ok (.iload_n 1, 1) := by decide +kernel
theorem dX7_drawn_14 : decode cX7_drawn 14 = .ok (.iload_n 2, 1) := by decide +kernel
theorem dX7_drawn_15 : decode cX7_drawn 15 = .ok (.invokevirtual 443, 3) := by decide +kernel
theorem dX7_drawn_18 : decode cX7_drawn 18 = .ok (.goto 5, 3) := by decide +kernel
theorem dX7_drawn_21 : decode cX7_drawn 21 = .ok (.ldc 117, 2) := by decide +kernel
theorem dX7_drawn_23 : decode cX7_drawn 23 = .ok (.ireturn, 1) := by decide +kernel
theorem dX7_chance_0 : decode cX7_chance 0 = .ok (.iload_n 2, 1) := by decide +kernel
theorem dX7_chance_1 : decode cX7_chance 1 = .ok (.i2l, 1) := by decide +kernel
theorem dX7_chance_2 : decode cX7_chance 2 = .ok (.lconst 1, 1) := by decide +kernel
theorem dX7_chance_3 : decode cX7_chance 3 = .ok (.ldc2_w 379, 3) := by decide +kernel
theorem dX7_chance_6 : decode cX7_chance 6 = .ok (.invokestatic 73, 3) := by decide +kernel
theorem dX7_chance_9 : decode cX7_chance 9 = .ok (.ifCond .eq 28, 3) := by decide +kernel
theorem dX7_chance_12 : decode cX7_chance 12 = .ok (.iload_n 3, 1) := by decide +kernel
theorem dX7_chance_13 : decode cX7_chance 13 = .ok (.i2l, 1) := by decide +kernel
theorem dX7_chance_14 : decode cX7_chance 14 = .ok (.ldc2_w 446, 3) := by decide +kernel
theorem dX7_chance_17 : decode cX7_chance 17 = .ok (.ldc2_w 448, 3) := by decide +kernel
theorem dX7_chance_20 : decode cX7_chance 20 = .ok (.invokestatic 73, 3) := by decide +kernel
theorem dX7_chance_23 : decode cX7_chance 23 = .ok (.ifCond .eq 14, 3) := by decide +kernel
theorem dX7_chance_26 : decode cX7_chance 26 = .ok (.iload 4, 2) := by decide +kernel
theorem dX7_chance_28 : decode cX7_chance 28 = .ok (.i2l, 1) := by decide +kernel
theorem dX7_chance_29 : decode cX7_chance 29 = .ok (.lconst 0, 1) := by decide +kernel
theorem dX7_chance_30 : decode cX7_chance 30 = .ok (.lconst 1, 1) := by decide +kernel
theorem dX7_chance_31 : decode cX7_chance 31 = .ok (.invokestatic 73, 3) := by decide +kernel
theorem dX7_chance_34 : decode cX7_chance 34 = .ok (.ifCond .ne 7, 3) := by decide +kernel
theorem dX7_chance_37 : decode cX7_chance 37 = .ok (.ldc2_w 411, 3) := by decide +kernel
theorem dX7_chance_40 : decode cX7_chance 40 = .ok (.lreturn, 1) := by decide +kernel
theorem dX7_chance_41 : decode cX7_chance 41 = .ok (.lconst 0, 1) := by decide +kernel
theorem dX7_chance_42 : decode cX7_chance 42 = .ok (.lstore 5, 2) := by decide +kernel
theorem dX7_chance_44 : decode cX7_chance 44 = .ok (.iconst 0, 1) := by decide +kernel
theorem dX7_chance_45 : decode cX7_chance 45 = .ok (.istore 7, 2) := by decide +kernel
theorem dX7_chance_47 : decode cX7_chance 47 = .ok (.iload 7, 2) := by decide +kernel
theorem dX7_chance_49 : decode cX7_chance 49 = .ok (.iload_n 2, 1) := by decide +kernel
theorem dX7_chance_50 : decode cX7_chance 50 = .ok (.if_icmp .ge 33, 3) := by decide +kernel
theorem dX7_chance_53 : decode cX7_chance 53 = .ok (.lload 5, 2) := by decide +kernel
theorem dX7_chance_55 : decode cX7_chance 55 = .ok (.aload_n 0, 1) := by decide +kernel
theorem dX7_chance_56 : decode cX7_chance 56 = .ok (.iload_n 1, 1) := by decide +kernel
theorem dX7_chance_57 : decode cX7_chance 57 = .ok (.iload 7, 2) := by decide +kernel
theorem dX7_chance_59 : decode cX7_chance 59 = .ok (.iadd, 1) := by decide +kernel
theorem dX7_chance_60 : decode cX7_chance 60 = .ok (.bipush 6, 2) := by decide +kernel
theorem dX7_chance_62 : decode cX7_chance 62 = .ok (.invokevirtual 443, 3) := by decide +kernel
theorem dX7_chance_65 : decode cX7_chance 65 = .ok (.iload_n 3, 1) := by decide +kernel
theorem dX7_chance_66 : decode cX7_chance 66 = .ok (.if_icmp .lt 7, 3) := by decide +kernel
theorem dX7_chance_69 : decode cX7_chance 69 = .ok (.lconst 1, 1) := by decide +kernel
theorem dX7_chance_70 : decode cX7_chance 70 = .ok (.goto 4, 3) := by decide +kernel
theorem dX7_chance_73 : decode cX7_chance 73 = .ok (.lconst 0, 1) := by decide +kernel
theorem dX7_chance_74 : decode cX7_chance 74 = .ok (.ladd, 1) := by decide +kernel
theorem dX7_chance_75 : decode cX7_chance 75 = .ok (.lstore 5, 2) := by decide +kernel
theorem dX7_chance_77 : decode cX7_chance 77 = .ok (.iinc 7 1, 3) := by decide +kernel
theorem dX7_chance_80 : decode cX7_chance 80 = .ok (.goto (-33), 3) := by decide +kernel
theorem dX7_chance_83 : decode cX7_chance 83 = .ok (.lload 5, 2) := by decide +kernel
theorem dX7_chance_85 : decode cX7_chance 85 = .ok (.iload_n 2, 1) := by decide +kernel
theorem dX7_chance_86 : decode cX7_chance 86 = .ok (.i2l, 1) := by decide +kernel
theorem dX7_chance_87 : decode cX7_chance 87 = .ok (.iload 4, 2) := by decide +kernel
theorem dX7_chance_89 : decode cX7_chance 89 = .ok (.invokestatic 416, 3) := by decide +kernel
theorem dX7_chance_92 : decode cX7_chance 92 = .ok (.lreturn, 1) := by decide +kernel
theorem dX7_image_0 : decode cX7_image 0 = .ok (.iconst 0, 1) := by decide +kernel
theorem dX7_image_1 : decode cX7_image 1 = .ok (.istore_n 1, 1) := by decide +kernel
theorem dX7_image_2 : decode cX7_image 2 = .ok (.iload_n 1, 1) := by decide +kernel
theorem dX7_image_3 : decode cX7_image 3 = .ok (.iconst 4, 1) := by decide +kernel
theorem dX7_image_4 : decode cX7_image 4 = .ok (.if_icmp .ge 21, 3) := by decide +kernel
theorem dX7_image_7 : decode cX7_image 7 = .ok (.aload_n 0, 1) := by decide +kernel
theorem dX7_image_8 : decode cX7_image 8 = .ok (.getfield 41, 3) := by decide +kernel
theorem dX7_image_11 : decode cX7_image 11 = .ok (.iload_n 1, 1) := by decide +kernel
theorem dX7_image_12 : decode cX7_image 12 = .ok (.aload_n 0, 1) := by decide +kernel
theorem dX7_image_13 : decode cX7_image 13 = .ok (.getfield 23, 3) := by decide +kernel
theorem dX7_image_16 : decode cX7_image 16 = .ok (.iload_n 1, 1) := by decide +kernel
theorem dX7_image_17 : decode cX7_image 17 = .ok (.iaload, 1) := by decide +kernel
theorem dX7_image_18 : decode cX7_image 18 = .ok (.iastore, 1) := by decide +kernel
theorem dX7_image_19 : decode cX7_image 19 = .ok (.iinc 1 1, 3) := by decide +kernel
theorem dX7_image_22 : decode cX7_image 22 = .ok (.goto (-20), 3) := by decide +kernel
theorem dX7_image_25 : decode cX7_image 25 = .ok (.iconst 0, 1) := by decide +kernel
theorem dX7_image_26 : decode cX7_image 26 = .ok (.istore_n 1, 1) := by decide +kernel
theorem dX7_image_27 : decode cX7_image 27 = .ok (.iload_n 1, 1) := by decide +kernel
theorem dX7_image_28 : decode cX7_image 28 = .ok (.bipush 24, 2) := by decide +kernel
theorem dX7_image_30 : decode cX7_image 30 = .ok (.if_icmp .ge 21, 3) := by decide +kernel
theorem dX7_image_33 : decode cX7_image 33 = .ok (.aload_n 0, 1) := by decide +kernel
theorem dX7_image_34 : decode cX7_image 34 = .ok (.getfield 44, 3) := by decide +kernel
theorem dX7_image_37 : decode cX7_image 37 = .ok (.iload_n 1, 1) := by decide +kernel
theorem dX7_image_38 : decode cX7_image 38 = .ok (.aload_n 0, 1) := by decide +kernel
theorem dX7_image_39 : decode cX7_image 39 = .ok (.getfield 29, 3) := by decide +kernel
theorem dX7_image_42 : decode cX7_image 42 = .ok (.iload_n 1, 1) := by decide +kernel
theorem dX7_image_43 : decode cX7_image 43 = .ok (.iaload, 1) := by decide +kernel
theorem dX7_image_44 : decode cX7_image 44 = .ok (.iastore, 1) := by decide +kernel
theorem dX7_image_45 : decode cX7_image 45 = .ok (.iinc 1 1, 3) := by decide +kernel
theorem dX7_image_48 : decode cX7_image 48 = .ok (.goto (-21), 3) := by decide +kernel
theorem dX7_image_51 : decode cX7_image 51 = .ok (.aload_n 0, 1) := by decide +kernel
theorem dX7_image_52 : decode cX7_image 52 = .ok (.aload_n 0, 1) := by decide +kernel
theorem dX7_image_53 : decode cX7_image 53 = .ok (.getfield 70, 3) := by decide +kernel
theorem dX7_image_56 : decode cX7_image 56 = .ok (.putfield 47, 3) := by decide +kernel
theorem dX7_image_59 : decode cX7_image 59 = .ok (.aload_n 0, 1) := by decide +kernel
theorem dX7_image_60 : decode cX7_image 60 = .ok (.aload_n 0, 1) := by decide +kernel
theorem dX7_image_61 : decode cX7_image 61 = .ok (.getfield 112, 3) := by decide +kernel
theorem dX7_image_64 : decode cX7_image 64 = .ok (.putfield 450, 3) := by decide +kernel
theorem dX7_image_67 : decode cX7_image 67 = .ok (.aload_n 0, 1) := by decide +kernel
theorem dX7_image_68 : decode cX7_image 68 = .ok (.getfield 70, 3) := by decide +kernel
theorem dX7_image_71 : decode cX7_image 71 = .ok (.ireturn, 1) := by decide +kernel
theorem dX7_back_0 : decode cX7_back 0 = .ok (.aload_n 0, 1) := by decide +kernel
theorem dX7_back_1 : decode cX7_back 1 = .ok (.getfield 47, 3) := by decide +kernel
theorem dX7_back_4 : decode cX7_back 4 = .ok (.iconst (-1), 1) := by decide +kernel
theorem dX7_back_5 : decode cX7_back 5 = .ok (.if_icmp .ne 6, 3) := by decide +kernel
theorem dX7_back_8 : decode cX7_back 8 = .ok (.bipush (-3), 2) := by decide +kernel
theorem dX7_back_10 : decode cX7_back 10 = .ok (.ireturn, 1) := by decide +kernel
theorem dX7_back_11 : decode cX7_back 11 = .ok (.iconst 0, 1) := by decide +kernel
theorem dX7_back_12 : decode cX7_back 12 = .ok (.istore_n 1, 1) := by decide +kernel
theorem dX7_back_13 : decode cX7_back 13 = .ok (.iload_n 1, 1) := by decide +kernel
theorem dX7_back_14 : decode cX7_back 14 = .ok (.iconst 4, 1) := by decide +kernel
theorem dX7_back_15 : decode cX7_back 15 = .ok (.if_icmp .ge 21, 3) := by decide +kernel
theorem dX7_back_18 : decode cX7_back 18 = .ok (.aload_n 0, 1) := by decide +kernel
theorem dX7_back_19 : decode cX7_back 19 = .ok (.getfield 23, 3) := by decide +kernel
theorem dX7_back_22 : decode cX7_back 22 = .ok (.iload_n 1, 1) := by decide +kernel
theorem dX7_back_23 : decode cX7_back 23 = .ok (.aload_n 0, 1) := by decide +kernel
theorem dX7_back_24 : decode cX7_back 24 = .ok (.getfield 41, 3) := by decide +kernel
theorem dX7_back_27 : decode cX7_back 27 = .ok (.iload_n 1, 1) := by decide +kernel
theorem dX7_back_28 : decode cX7_back 28 = .ok (.iaload, 1) := by decide +kernel
theorem dX7_back_29 : decode cX7_back 29 = .ok (.iastore, 1) := by decide +kernel
theorem dX7_back_30 : decode cX7_back 30 = .ok (.iinc 1 1, 3) := by decide +kernel
theorem dX7_back_33 : decode cX7_back 33 = .ok (.goto (-20), 3) := by decide +kernel
theorem dX7_back_36 : decode cX7_back 36 = .ok (.iconst 0, 1) := by decide +kernel
theorem dX7_back_37 : decode cX7_back 37 = .ok (.istore_n 1, 1) := by decide +kernel
theorem dX7_back_38 : decode cX7_back 38 = .ok (.iload_n 1, 1) := by decide +kernel
theorem dX7_back_39 : decode cX7_back 39 = .ok (.bipush 24, 2) := by decide +kernel
theorem dX7_back_41 : decode cX7_back 41 = .ok (.if_icmp .ge 21, 3) := by decide +kernel
theorem dX7_back_44 : decode cX7_back 44 = .ok (.aload_n 0, 1) := by decide +kernel
theorem dX7_back_45 : decode cX7_back 45 = .ok (.getfield 29, 3) := by decide +kernel
theorem dX7_back_48 : decode cX7_back 48 = .ok (.iload_n 1, 1) := by decide +kernel
theorem dX7_back_49 : decode cX7_back 49 = .ok (.aload_n 0, 1) := by decide +kernel
theorem dX7_back_50 : decode cX7_back 50 = .ok (.getfield 44, 3) := by decide +kernel
theorem dX7_back_53 : decode cX7_back 53 = .ok (.iload_n 1, 1) := by decide +kernel
theorem dX7_back_54 : decode cX7_back 54 = .ok (.iaload, 1) := by decide +kernel
theorem dX7_back_55 : decode cX7_back 55 = .ok (.iastore, 1) := by decide +kernel
theorem dX7_back_56 : decode cX7_back 56 = .ok (.iinc 1 1, 3) := by decide +kernel
theorem dX7_back_59 : decode cX7_back 59 = .ok (.goto (-21), 3) := by decide +kernel
theorem dX7_back_62 : decode cX7_back 62 = .ok (.aload_n 0, 1) := by decide +kernel
theorem dX7_back_63 : decode cX7_back 63 = .ok (.aload_n 0, 1) := by decide +kernel
theorem dX7_back_64 : decode cX7_back 64 = .ok (.getfield 47, 3) := by decide +kernel
theorem dX7_back_67 : decode cX7_back 67 = .ok (.putfield 70, 3) := by decide +kernel
theorem dX7_back_70 : decode cX7_back 70 = .ok (.aload_n 0, 1) := by decide +kernel
theorem dX7_back_71 : decode cX7_back 71 = .ok (.aload_n 0, 1) := by decide +kernel
theorem dX7_back_72 : decode cX7_back 72 = .ok (.getfield 450, 3) := by decide +kernel
theorem dX7_back_75 : decode cX7_back 75 = .ok (.putfield 112, 3) := by decide +kernel
theorem dX7_back_78 : decode cX7_back 78 = .ok (.aload_n 0, 1) := by decide +kernel
theorem dX7_back_79 : decode cX7_back 79 = .ok (.getfield 70, 3) := by decide +kernel
theorem dX7_back_82 : decode cX7_back 82 = .ok (.ireturn, 1) := by decide +kernel
theorem dX7_count_0 : decode cX7_count 0 = .ok (.iload_n 1, 1) := by decide +kernel
theorem dX7_count_1 : decode cX7_count 1 = .ok (.i2l, 1) := by decide +kernel
theorem dX7_count_2 : decode cX7_count 2 = .ok (.lconst 0, 1) := by decide +kernel
theorem dX7_count_3 : decode cX7_count 3 = .ok (.ldc2_w 95, 3) := by decide +kernel
theorem dX7_count_6 : decode cX7_count 6 = .ok (.invokestatic 73, 3) := by decide +kernel
theorem dX7_count_9 : decode cX7_count 9 = .ok (.ifCond .ne 6, 3) := by decide +kernel
theorem dX7_count_12 : decode cX7_count 12 = .ok (.bipush (-2), 2) := by decide +kernel
theorem dX7_count_14 : decode cX7_count 14 = .ok (.ireturn, 1) := by decide +kernel
theorem dX7_count_15 : decode cX7_count 15 = .ok (.iload_n 1, 1) := by decide +kernel
theorem dX7_count_16 : decode cX7_count 16 = .ok (.ifCond .ne 10, 3) := by decide +kernel
theorem dX7_count_19 : decode cX7_count 19 = .ok (.aload_n 0, 1) := by decide +kernel
theorem dX7_count_20 : decode cX7_count 20 = .ok (.getfield 70, 3) := by decide +kernel
theorem dX7_count_23 : decode cX7_count 23 = .ok (.goto 60, 3) := by decide +kernel
theorem dX7_count_26 : decode cX7_count 26 = .ok (.iload_n 1, 1) := by decide +kernel
theorem dX7_count_27 : decode cX7_count 27 = .ok (.iconst 1, 1) := by decide +kernel
theorem dX7_count_28 : decode cX7_count 28 = .ok (.if_icmp .ne 12, 3) := by decide +kernel
theorem dX7_count_31 : decode cX7_count 31 = .ok (.aload_n 0, 1) := by decide +kernel
theorem dX7_count_32 : decode cX7_count 32 = .ok (.getfield 23, 3) := by decide +kernel
theorem dX7_count_35 : decode cX7_count 35 = .ok (.iconst 3, 1) := by decide +kernel
theorem dX7_count_36 : decode cX7_count 36 = .ok (.iaload, 1) := by decide +kernel
theorem dX7_count_37 : decode cX7_count 37 = .ok (.goto 46, 3) := by decide +kernel
theorem dX7_count_40 : decode cX7_count 40 = .ok (.iload_n 1, 1) := by decide +kernel
theorem dX7_count_41 : decode cX7_count 41 = .ok (.iconst 2, 1) := by decide +kernel
theorem dX7_count_42 : decode cX7_count 42 = .ok (.if_icmp .ne 13, 3) := by decide +kernel
theorem dX7_count_45 : decode cX7_count 45 = .ok (.bipush 11, 2) := by decide +kernel
theorem dX7_count_47 : decode cX7_count 47 = .ok (.aload_n 0, 1) := by decide +kernel
theorem dX7_count_48 : decode cX7_count 48 = .ok (.getfield 70, 3) := by decide +kernel
theorem dX7_count_51 : decode cX7_count 51 = .ok (.isub, 1) := by decide +kernel
theorem dX7_count_52 : decode cX7_count 52 = .ok (.goto 31, 3) := by decide +kernel
theorem dX7_count_55 : decode cX7_count 55 = .ok (.iload_n 1, 1) := by decide +kernel
theorem dX7_count_56 : decode cX7_count 56 = .ok (.iconst 3, 1) := by decide +kernel
theorem dX7_count_57 : decode cX7_count 57 = .ok (.if_icmp .ne 10, 3) := by decide +kernel
theorem dX7_count_60 : decode cX7_count 60 = .ok (.aload_n 0, 1) := by decide +kernel
theorem dX7_count_61 : decode cX7_count 61 = .ok (.getfield 67, 3) := by decide +kernel
theorem dX7_count_64 : decode cX7_count 64 = .ok (.goto 19, 3) := by decide +kernel
theorem dX7_count_67 : decode cX7_count 67 = .ok (.iload_n 1, 1) := by decide +kernel
theorem dX7_count_68 : decode cX7_count 68 = .ok (.iconst 4, 1) := by decide +kernel
theorem dX7_count_69 : decode cX7_count 69 = .ok (.if_icmp .ne 10, 3) := by decide +kernel
theorem dX7_count_72 : decode cX7_count 72 = .ok (.aload_n 0, 1) := by decide +kernel
theorem dX7_count_73 : decode cX7_count 73 = .ok (.getfield 138, 3) := by decide +kernel
theorem dX7_count_76 : decode cX7_count 76 = .ok (.goto 7, 3) := by decide +kernel
theorem dX7_count_79 : decode cX7_count 79 = .ok (.aload_n 0, 1) := by decide +kernel
theorem dX7_count_80 : decode cX7_count 80 = .ok (.getfield 112, 3) := by decide +kernel
theorem dX7_count_83 : decode cX7_count 83 = .ok (.ireturn, 1) := by decide +kernel
theorem dX7_isSheet_0 : decode cX7_isSheet 0 = .ok (.iload_n 0, 1) := by decide +kernel
theorem dX7_isSheet_1 : decode cX7_isSheet 1 = .ok (.i2l, 1) := by decide +kernel
theorem dX7_isSheet_2 : decode cX7_isSheet 2 = .ok (.lconst 0, 1) := by decide +kernel
theorem dX7_isSheet_3 : decode cX7_isSheet 3 = .ok (.ldc2_w 385, 3) := by decide +kernel
theorem dX7_isSheet_6 : decode cX7_isSheet 6 = .ok (.invokestatic 73, 3) := by decide +kernel
theorem dX7_isSheet_9 : decode cX7_isSheet 9 = .ok (.ireturn, 1) := by decide +kernel
theorem dX7_sheet_0 : decode cX7_sheet 0 = .ok (.iload_n 1, 1) := by decide +kernel
theorem dX7_sheet_1 : decode cX7_sheet 1 = .ok (.invokestatic 433, 3) := by decide +kernel
theorem dX7_sheet_4 : decode cX7_sheet 4 = .ok (.ifCond .eq 27, 3) := by decide +kernel
theorem dX7_sheet_7 : decode cX7_sheet 7 = .ok (.iload_n 2, 1) := by decide +kernel
theorem dX7_sheet_8 : decode cX7_sheet 8 = .ok (.i2l, 1) := by decide +kernel
theorem dX7_sheet_9 : decode cX7_sheet 9 = .ok (.ldc2_w 453, 3) := by decide +kernel
theorem dX7_sheet_12 : decode cX7_sheet 12 = .ok (.ldc2_w 455, 3) := by decide +kernel
theorem dX7_sheet_15 : decode cX7_sheet 15 = .ok (.invokestatic 73, 3) := by decide +kernel
theorem dX7_sheet_18 : decode cX7_sheet 18 = .ok (.ifCond .eq 13, 3) := by decide +kernel
theorem dX7_sheet_21 : decode cX7_sheet 21 = .ok (.iload_n 2, 1) := by decide +kernel
theorem dX7_sheet_22 : decode cX7_sheet 22 = .ok (.ifCond .lt 12, 3) := by decide +kernel
theorem dX7_sheet_25 : decode cX7_sheet 25 = .ok (.iload_n 3, 1) := by decide +kernel
theorem dX7_sheet_26 : decode cX7_sheet 26 = .ok (.bipush 40, 2) := by decide +kernel
theorem dX7_sheet_28 : decode cX7_sheet 28 = .ok (.if_icmp .le 6, 3) := by decide +kernel
theorem dX7_sheet_31 : decode cX7_sheet 31 = .ok (.bipush (-2), 2) := by decide +kernel
theorem dX7_sheet_33 : decode cX7_sheet 33 = .ok (.ireturn, 1) := by decide +kernel
theorem dX7_sheet_34 : decode cX7_sheet 34 = .ok (.iload_n 2, 1) := by decide +kernel
theorem dX7_sheet_35 : decode cX7_sheet 35 = .ok (.ifCond .lt 10, 3) := by decide +kernel
theorem dX7_sheet_38 : decode cX7_sheet 38 = .ok (.iload_n 3, 1) := by decide +kernel
theorem dX7_sheet_39 : decode cX7_sheet 39 = .ok (.ifCond .ge 6, 3) := by decide +kernel
theorem dX7_sheet_42 : decode cX7_sheet 42 = .ok (.bipush (-14), 2) := by decide +kernel
theorem dX7_sheet_44 : decode cX7_sheet 44 = .ok (.ireturn, 1) := by decide +kernel
theorem dX7_sheet_45 : decode cX7_sheet 45 = .ok (.aload_n 0, 1) := by decide +kernel
theorem dX7_sheet_46 : decode cX7_sheet 46 = .ok (.getfield 50, 3) := by decide +kernel
theorem dX7_sheet_49 : decode cX7_sheet 49 = .ok (.iload_n 1, 1) := by decide +kernel
theorem dX7_sheet_50 : decode cX7_sheet 50 = .ok (.iload_n 2, 1) := by decide +kernel
theorem dX7_sheet_51 : decode cX7_sheet 51 = .ok (.ifCond .lt 7, 3) := by decide +kernel
theorem dX7_sheet_54 : decode cX7_sheet 54 = .ok (.iconst 1, 1) := by decide +kernel
theorem dX7_sheet_55 : decode cX7_sheet 55 = .ok (.goto 4, 3) := by decide +kernel
theorem dX7_sheet_58 : decode cX7_sheet 58 = .ok (.iconst 0, 1) := by decide +kernel
theorem dX7_sheet_59 : decode cX7_sheet 59 = .ok (.bastore, 1) := by decide +kernel
theorem dX7_sheet_60 : decode cX7_sheet 60 = .ok (.aload_n 0, 1) := by decide +kernel
theorem dX7_sheet_61 : decode cX7_sheet 61 = .ok (.getfield 54, 3) := by decide +kernel
theorem dX7_sheet_64 : decode cX7_sheet 64 = .ok (.iload_n 1, 1) := by decide +kernel
theorem dX7_sheet_65 : decode cX7_sheet 65 = .ok (.iload_n 2, 1) := by decide +kernel
theorem dX7_sheet_66 : decode cX7_sheet 66 = .ok (.iastore, 1) := by decide +kernel
theorem dX7_sheet_67 : decode cX7_sheet 67 = .ok (.aload_n 0, 1) := by decide +kernel
theorem dX7_sheet_68 : decode cX7_sheet 68 = .ok (.getfield 57, 3) := by decide +kernel
theorem dX7_sheet_71 : decode cX7_sheet 71 = .ok (.iload_n 1, 1) := by decide +kernel
theorem dX7_sheet_72 : decode cX7_sheet 72 = .ok (.iload_n 3, 1) := by decide +kernel
theorem dX7_sheet_73 : decode cX7_sheet 73 = .ok (.iastore, 1) := by decide +kernel
theorem dX7_sheet_74 : decode cX7_sheet 74 = .ok (.iconst 0, 1) := by decide +kernel
theorem dX7_sheet_75 : decode cX7_sheet 75 = .ok (.istore 4, 2) := by decide +kernel
theorem dX7_sheet_77 : decode cX7_sheet 77 = .ok (.iload 4, 2) := by decide +kernel
theorem dX7_sheet_79 : decode cX7_sheet 79 = .ok (.iload_n 3, 1) := by decide +kernel
theorem dX7_sheet_80 : decode cX7_sheet 80 = .ok (.if_icmp .ge 26, 3) := by decide +kernel
theorem dX7_sheet_83 : decode cX7_sheet 83 = .ok (.iload_n 2, 1) := by decide +kernel
theorem dX7_sheet_84 : decode cX7_sheet 84 = .ok (.ifCond .lt 22, 3) := by decide +kernel
theorem dX7_sheet_87 : decode cX7_sheet 87 = .ok (.aload_n 0, 1) := by decide +kernel
theorem dX7_sheet_88 : decode cX7_sheet 88 = .ok (.getfield 60, 3) := by decide +kernel
theorem dX7_sheet_91 : decode cX7_sheet 91 = .ok (.bipush 40, 2) := by decide +kernel
theorem dX7_sheet_93 : decode cX7_sheet 93 = .ok (.iload_n 1, 1) := by decide +kernel
theorem dX7_sheet_94 : decode cX7_sheet 94 = .ok (.imul, 1) := by decide +kernel
theorem dX7_sheet_95 : decode cX7_sheet 95 = .ok (.iload 4, 2) := by decide +kernel
theorem dX7_sheet_97 : decode cX7_sheet 97 = .ok (.iadd, 1) := by decide +kernel
theorem dX7_sheet_98 : decode cX7_sheet 98 = .ok (.iconst 0, 1) := by decide +kernel
theorem dX7_sheet_99 : decode cX7_sheet 99 = .ok (.iastore, 1) := by decide +kernel
theorem dX7_sheet_100 : decode cX7_sheet 100 = .ok (.iinc 4 1, 3) := by decide +kernel
theorem dX7_sheet_103 : decode cX7_sheet 103 = .ok (.goto (-26), 3) := by decide +kernel
theorem dX7_sheet_106 : decode cX7_sheet 106 = .ok (.iconst 1, 1) := by decide +kernel
theorem dX7_sheet_107 : decode cX7_sheet 107 = .ok (.ireturn, 1) := by decide +kernel
theorem dX7_cell_0 : decode cX7_cell 0 = .ok (.iload_n 1, 1) := by decide +kernel
theorem dX7_cell_1 : decode cX7_cell 1 = .ok (.invokestatic 433, 3) := by decide +kernel
theorem dX7_cell_4 : decode cX7_cell 4 = .ok (.ifCond .ne 6, 3) := by decide +kernel
theorem dX7_cell_7 : decode cX7_cell 7 = .ok (.bipush (-2), 2) := by decide +kernel
theorem dX7_cell_9 : decode cX7_cell 9 = .ok (.ireturn, 1) := by decide +kernel
theorem dX7_cell_10 : decode cX7_cell 10 = .ok (.aload_n 0, 1) := by decide +kernel
theorem dX7_cell_11 : decode cX7_cell 11 = .ok (.getfield 50, 3) := by decide +kernel
theorem dX7_cell_14 : decode cX7_cell 14 = .ok (.iload_n 1, 1) := by decide +kernel
theorem dX7_cell_15 : decode cX7_cell 15 = .ok (.baload, 1) := by decide +kernel
theorem dX7_cell_16 : decode cX7_cell 16 = .ok (.ifCond .ne 6, 3) := by decide +kernel
theorem dX7_cell_19 : decode cX7_cell 19 = .ok (.bipush (-11), 2) := by decide +kernel
theorem dX7_cell_21 : decode cX7_cell 21 = .ok (.ireturn, 1) := by decide +kernel
theorem dX7_cell_22 : decode cX7_cell 22 = .ok (.iload_n 2, 1) := by decide +kernel
theorem dX7_cell_23 : decode cX7_cell 23 = .ok (.i2l, 1) := by decide +kernel
theorem dX7_cell_24 : decode cX7_cell 24 = .ok (.lconst 0, 1) := by decide +kernel
theorem dX7_cell_25 : decode cX7_cell 25 = .ok (.aload_n 0, 1) := by decide +kernel
theorem dX7_cell_26 : decode cX7_cell 26 = .ok (.getfield 57, 3) := by decide +kernel
theorem dX7_cell_29 : decode cX7_cell 29 = .ok (.iload_n 1, 1) := by decide +kernel
theorem dX7_cell_30 : decode cX7_cell 30 = .ok (.iaload, 1) := by decide +kernel
theorem dX7_cell_31 : decode cX7_cell 31 = .ok (.iconst 1, 1) := by decide +kernel
theorem dX7_cell_32 : decode cX7_cell 32 = .ok (.isub, 1) := by decide +kernel
theorem dX7_cell_33 : decode cX7_cell 33 = .ok (.i2l, 1) := by decide +kernel
theorem dX7_cell_34 : decode cX7_cell 34 = .ok (.invokestatic 73, 3) := by decide +kernel
theorem dX7_cell_37 : decode cX7_cell 37 = .ok (.ifCond .ne 6, 3) := by decide +kernel
theorem dX7_cell_40 : decode cX7_cell 40 = .ok (.bipush (-12), 2) := by decide +kernel
theorem dX7_cell_42 : decode cX7_cell 42 = .ok (.ireturn, 1) := by decide +kernel
theorem dX7_cell_43 : decode cX7_cell 43 = .ok (.aload_n 0, 1) := by decide +kernel
theorem dX7_cell_44 : decode cX7_cell 44 = .ok (.getfield 60, 3) := by decide +kernel
theorem dX7_cell_47 : decode cX7_cell 47 = .ok (.bipush 40, 2) := by decide +kernel
theorem dX7_cell_49 : decode cX7_cell 49 = .ok (.iload_n 1, 1) := by decide +kernel
theorem dX7_cell_50 : decode cX7_cell 50 = .ok (.imul, 1) := by decide +kernel
theorem dX7_cell_51 : decode cX7_cell 51 = .ok (.iload_n 2, 1) := by decide +kernel
theorem dX7_cell_52 : decode cX7_cell 52 = .ok (.iadd, 1) := by decide +kernel
theorem dX7_cell_53 : decode cX7_cell 53 = .ok (.aload_n 0, 1) := by decide +kernel
theorem dX7_cell_54 : decode cX7_cell 54 = .ok (.getfield 54, 3) := by decide +kernel
theorem dX7_cell_57 : decode cX7_cell 57 = .ok (.iload_n 1, 1) := by decide +kernel
theorem dX7_cell_58 : decode cX7_cell 58 = .ok (.iaload, 1) := by decide +kernel
theorem dX7_cell_59 : decode cX7_cell 59 = .ok (.ifCond .ne 8, 3) := by decide +kernel
theorem dX7_cell_62 : decode cX7_cell 62 = .ok (.iload_n 3, 1) := by decide +kernel
theorem dX7_cell_63 : decode cX7_cell 63 = .ok (.i2b, 1) := by decide +kernel
theorem dX7_cell_64 : decode cX7_cell 64 = .ok (.goto 19, 3) := by decide +kernel
theorem dX7_cell_67 : decode cX7_cell 67 = .ok (.aload_n 0, 1) := by decide +kernel
theorem dX7_cell_68 : decode cX7_cell 68 = .ok (.getfield 54, 3) := by decide +kernel
theorem dX7_cell_71 : decode cX7_cell 71 = .ok (.iload_n 1, 1) := by decide +kernel
theorem dX7_cell_72 : decode cX7_cell 72 = .ok (.iaload, 1) := by decide +kernel
theorem dX7_cell_73 : decode cX7_cell 73 = .ok (.iconst 1, 1) := by decide +kernel
theorem dX7_cell_74 : decode cX7_cell 74 = .ok (.if_icmp .ne 8, 3) := by decide +kernel
theorem dX7_cell_77 : decode cX7_cell 77 = .ok (.iload_n 3, 1) := by decide +kernel
theorem dX7_cell_78 : decode cX7_cell 78 = .ok (.i2s, 1) := by decide +kernel
theorem dX7_cell_79 : decode cX7_cell 79 = .ok (.goto 4, 3) := by decide +kernel
theorem dX7_cell_82 : decode cX7_cell 82 = .ok (.iload_n 3, 1) := by decide +kernel
theorem dX7_cell_83 : decode cX7_cell 83 = .ok (.iastore, 1) := by decide +kernel
theorem dX7_cell_84 : decode cX7_cell 84 = .ok (.iconst 1, 1) := by decide +kernel
theorem dX7_cell_85 : decode cX7_cell 85 = .ok (.ireturn, 1) := by decide +kernel
theorem dX7_copy_0 : decode cX7_copy 0 = .ok (.iload_n 1, 1) := by decide +kernel
theorem dX7_copy_1 : decode cX7_copy 1 = .ok (.invokestatic 433, 3) := by decide +kernel
theorem dX7_copy_4 : decode cX7_copy 4 = .ok (.ifCond .eq 10, 3) := by decide +kernel
theorem dX7_copy_7 : decode cX7_copy 7 = .ok (.iload_n 3, 1) := by decide +kernel
theorem dX7_copy_8 : decode cX7_copy 8 = .ok (.invokestatic 433, 3) := by decide +kernel
theorem dX7_copy_11 : decode cX7_copy 11 = .ok (.ifCond .ne 6, 3) := by decide +kernel
theorem dX7_copy_14 : decode cX7_copy 14 = .ok (.bipush (-2), 2) := by decide +kernel
theorem dX7_copy_16 : decode cX7_copy 16 = .ok (.ireturn, 1) := by decide +kernel
theorem dX7_copy_17 : decode cX7_copy 17 = .ok (.aload_n 0, 1) := by decide +kernel
theorem dX7_copy_18 : decode cX7_copy 18 = .ok (.getfield 50, 3) := by decide +kernel
theorem dX7_copy_21 : decode cX7_copy 21 = .ok (.iload_n 1, 1) := by decide +kernel
theorem dX7_copy_22 : decode cX7_copy 22 = .ok (.baload, 1) := by decide +kernel
theorem dX7_copy_23 : decode cX7_copy 23 = .ok (.ifCond .eq 12, 3) := by decide +kernel
theorem dX7_copy_26 : decode cX7_copy 26 = .ok (.aload_n 0, 1) := by decide +kernel
theorem dX7_copy_27 : decode cX7_copy 27 = .ok (.getfield 50, 3) := by decide +kernel
theorem dX7_copy_30 : decode cX7_copy 30 = .ok (.iload_n 3, 1) := by decide +kernel
theorem dX7_copy_31 : decode cX7_copy 31 = .ok (.baload, 1) := by decide +kernel
theorem dX7_copy_32 : decode cX7_copy 32 = .ok (.ifCond .ne 6, 3) := by decide +kernel
theorem dX7_copy_35 : decode cX7_copy 35 = .ok (.bipush (-11), 2) := by decide +kernel
theorem dX7_copy_37 : decode cX7_copy 37 = .ok (.ireturn, 1) := by decide +kernel
theorem dX7_copy_38 : decode cX7_copy 38 = .ok (.aload_n 0, 1) := by decide +kernel
theorem dX7_copy_39 : decode cX7_copy 39 = .ok (.getfield 54, 3) := by decide +kernel
theorem dX7_copy_42 : decode cX7_copy 42 = .ok (.iload_n 1, 1) := by decide +kernel
theorem dX7_copy_43 : decode cX7_copy 43 = .ok (.iaload, 1) := by decide +kernel
theorem dX7_copy_44 : decode cX7_copy 44 = .ok (.aload_n 0, 1) := by decide +kernel
theorem dX7_copy_45 : decode cX7_copy 45 = .ok (.getfield 54, 3) := by decide +kernel
theorem dX7_copy_48 : decode cX7_copy 48 = .ok (.iload_n 3, 1) := by decide +kernel
theorem dX7_copy_49 : decode cX7_copy 49 = .ok (.iaload, 1) := by decide +kernel
theorem dX7_copy_50 : decode cX7_copy 50 = .ok (.if_icmp .eq 6, 3) := by decide +kernel
theorem dX7_copy_53 : decode cX7_copy 53 = .ok (.bipush (-13), 2) := by decide +kernel
theorem dX7_copy_55 : decode cX7_copy 55 = .ok (.ireturn, 1) := by decide +kernel
theorem dX7_copy_56 : decode cX7_copy 56 = .ok (.iload 5, 2) := by decide +kernel
theorem dX7_copy_58 : decode cX7_copy 58 = .ok (.ifCond .lt 39, 3) := by decide +kernel
theorem dX7_copy_61 : decode cX7_copy 61 = .ok (.iload_n 2, 1) := by decide +kernel
theorem dX7_copy_62 : decode cX7_copy 62 = .ok (.ifCond .lt 35, 3) := by decide +kernel
theorem dX7_copy_65 : decode cX7_copy 65 = .ok (.iload 4, 2) := by decide +kernel
theorem dX7_copy_67 : decode cX7_copy 67 = .ok (.ifCond .lt 30, 3) := by decide +kernel
theorem dX7_copy_70 : decode cX7_copy 70 = .ok (.iload_n 2, 1) := by decide +kernel
theorem dX7_copy_71 : decode cX7_copy 71 = .ok (.aload_n 0, 1) := by decide +kernel
theorem dX7_copy_72 : decode cX7_copy 72 = .ok (.getfield 57, 3) := by decide +kernel
theorem dX7_copy_75 : decode cX7_copy 75 = .ok (.iload_n 1, 1) := by decide +kernel
theorem dX7_copy_76 : decode cX7_copy 76 = .ok (.iaload, 1) := by decide +kernel
theorem dX7_copy_77 : decode cX7_copy 77 = .ok (.iload 5, 2) := by decide +kernel
theorem dX7_copy_79 : decode cX7_copy 79 = .ok (.isub, 1) := by decide +kernel
theorem dX7_copy_80 : decode cX7_copy 80 = .ok (.if_icmp .gt 17, 3) := by decide +kernel
theorem dX7_copy_83 : decode cX7_copy 83 = .ok (.iload 4, 2) := by decide +kernel
theorem dX7_copy_85 : decode cX7_copy 85 = .ok (.aload_n 0, 1) := by decide +kernel
theorem dX7_copy_86 : decode cX7_copy 86 = .ok (.getfield 57, 3) := by decide +kernel
theorem dX7_copy_89 : decode cX7_copy 89 = .ok (.iload_n 3, 1) := by decide +kernel
theorem dX7_copy_90 : decode cX7_copy 90 = .ok (.iaload, 1) := by decide +kernel
theorem dX7_copy_91 : decode cX7_copy 91 = .ok (.iload 5, 2) := by decide +kernel
theorem dX7_copy_93 : decode cX7_copy 93 = .ok (.isub, 1) := by decide +kernel
theorem dX7_copy_94 : decode cX7_copy 94 = .ok (.if_icmp .le 6, 3) := by decide +kernel
theorem dX7_copy_97 : decode cX7_copy 97 = .ok (.bipush (-12), 2) := by decide +kernel
theorem dX7_copy_99 : decode cX7_copy 99 = .ok (.ireturn, 1) := by decide +kernel
theorem dX7_copy_100 : decode cX7_copy 100 = .ok (.iload_n 1, 1) := by decide +kernel
theorem dX7_copy_101 : decode cX7_copy 101 = .ok (.iload_n 3, 1) := by decide +kernel
theorem dX7_copy_102 : decode cX7_copy 102 = .ok (.if_icmp .ne 13, 3) := by decide +kernel
theorem dX7_copy_105 : decode cX7_copy 105 = .ok (.iload_n 2, 1) := by decide +kernel
theorem dX7_copy_106 : decode cX7_copy 106 = .ok (.iload 4, 2) := by decide +kernel
theorem dX7_copy_108 : decode cX7_copy 108 = .ok (.if_icmp .ge 7, 3) := by decide +kernel
theorem dX7_copy_111 : decode cX7_copy 111 = .ok (.iconst 1, 1) := by decide +kernel
theorem dX7_copy_112 : decode cX7_copy 112 = .ok (.goto 4, 3) := by decide +kernel
theorem dX7_copy_115 : decode cX7_copy 115 = .ok (.iconst 0, 1) := by decide +kernel
theorem dX7_copy_116 : decode cX7_copy 116 = .ok (.istore 6, 2) := by decide +kernel
theorem dX7_copy_118 : decode cX7_copy 118 = .ok (.iconst 0, 1) := by decide +kernel
theorem dX7_copy_119 : decode cX7_copy 119 = .ok (.istore 7, 2) := by decide +kernel
theorem dX7_copy_121 : decode cX7_copy 121 = .ok (.iload 7, 2) := by decide +kernel
theorem dX7_copy_123 : decode cX7_copy 123 = .ok (.iload 5, 2) := by decide +kernel
theorem dX7_copy_125 : decode cX7_copy 125 = .ok (.if_icmp .ge 57, 3) := by decide +kernel
theorem dX7_copy_128 : decode cX7_copy 128 = .ok (.iload 6, 2) := by decide +kernel
theorem dX7_copy_130 : decode cX7_copy 130 = .ok (.ifCond .eq 13, 3) := by decide +kernel
theorem dX7_copy_133 : decode cX7_copy 133 = .ok (.iload 5, 2) := by decide +kernel
theorem dX7_copy_135 : decode cX7_copy 135 = .ok (.iconst 1, 1) := by decide +kernel
theorem dX7_copy_136 : decode cX7_copy 136 = .ok (.isub, 1) := by decide +kernel
theorem dX7_copy_137 : decode cX7_copy 137 = .ok (.iload 7, 2) := by decide +kernel
theorem dX7_copy_139 : decode cX7_copy 139 = .ok (.isub, 1) := by decide +kernel
theorem dX7_copy_140 : decode cX7_copy 140 = .ok (.goto 5, 3) := by decide +kernel
theorem dX7_copy_143 : decode cX7_copy 143 = .ok (.iload 7, 2) := by decide +kernel
theorem dX7_copy_145 : decode cX7_copy 145 = .ok (.istore 8, 2) := by decide +kernel
theorem dX7_copy_147 : decode cX7_copy 147 = .ok (.aload_n 0, 1) := by decide +kernel
theorem dX7_copy_148 : decode cX7_copy 148 = .ok (.getfield 60, 3) := by decide +kernel
theorem dX7_copy_151 : decode cX7_copy 151 = .ok (.bipush 40, 2) := by decide +kernel
theorem dX7_copy_153 : decode cX7_copy 153 = .ok (.iload_n 3, 1) := by decide +kernel
theorem dX7_copy_154 : decode cX7_copy 154 = .ok (.imul, 1) := by decide +kernel
theorem dX7_copy_155 : decode cX7_copy 155 = .ok (.iload 4, 2) := by decide +kernel
theorem dX7_copy_157 : decode cX7_copy 157 = .ok (.iadd, 1) := by decide +kernel
theorem dX7_copy_158 : decode cX7_copy 158 = .ok (.iload 8, 2) := by decide +kernel
theorem dX7_copy_160 : decode cX7_copy 160 = .ok (.iadd, 1) := by decide +kernel
theorem dX7_copy_161 : decode cX7_copy 161 = .ok (.aload_n 0, 1) := by decide +kernel
theorem dX7_copy_162 : decode cX7_copy 162 = .ok (.getfield 60, 3) := by decide +kernel
theorem dX7_copy_165 : decode cX7_copy 165 = .ok (.bipush 40, 2) := by decide +kernel
theorem dX7_copy_167 : decode cX7_copy 167 = .ok (.iload_n 1, 1) := by decide +kernel
theorem dX7_copy_168 : decode cX7_copy 168 = .ok (.imul, 1) := by decide +kernel
theorem dX7_copy_169 : decode cX7_copy 169 = .ok (.iload_n 2, 1) := by decide +kernel
theorem dX7_copy_170 : decode cX7_copy 170 = .ok (.iadd, 1) := by decide +kernel
theorem dX7_copy_171 : decode cX7_copy 171 = .ok (.iload 8, 2) := by decide +kernel
theorem dX7_copy_173 : decode cX7_copy 173 = .ok (.iadd, 1) := by decide +kernel
theorem dX7_copy_174 : decode cX7_copy 174 = .ok (.iaload, 1) := by decide +kernel
theorem dX7_copy_175 : decode cX7_copy 175 = .ok (.iastore, 1) := by decide +kernel
theorem dX7_copy_176 : decode cX7_copy 176 = .ok (.iinc 7 1, 3) := by decide +kernel
theorem dX7_copy_179 : decode cX7_copy 179 = .ok (.goto (-58), 3) := by decide +kernel
theorem dX7_copy_182 : decode cX7_copy 182 = .ok (.iload 5, 2) := by decide +kernel
theorem dX7_copy_184 : decode cX7_copy 184 = .ok (.ireturn, 1) := by decide +kernel
theorem dX7_painters_0 : decode cX7_painters 0 = .ok (.iload_n 1, 1) := by decide +kernel
theorem dX7_painters_1 : decode cX7_painters 1 = .ok (.invokestatic 433, 3) := by decide +kernel
theorem dX7_painters_4 : decode cX7_painters 4 = .ok (.ifCond .eq 28, 3) := by decide +kernel
theorem dX7_painters_7 : decode cX7_painters 7 = .ok (.iload_n 2, 1) := by decide +kernel
theorem dX7_painters_8 : decode cX7_painters 8 = .ok (.i2l, 1) := by decide +kernel
theorem dX7_painters_9 : decode cX7_painters 9 = .ok (.lconst 0, 1) := by decide +kernel
theorem dX7_painters_10 : decode cX7_painters 10 = .ok (.ldc2_w 455, 3) := by decide +kernel
theorem dX7_painters_13 : decode cX7_painters 13 = .ok (.invokestatic 73, 3) := by decide +kernel
theorem dX7_painters_16 : decode cX7_painters 16 = .ok (.ifCond .eq 16, 3) := by decide +kernel
theorem dX7_painters_19 : decode cX7_painters 19 = .ok (.iload 4, 2) := by decide +kernel
theorem dX7_painters_21 : decode cX7_painters 21 = .ok (.i2l, 1) := by decide +kernel
theorem dX7_painters_22 : decode cX7_painters 22 = .ok (.lconst 0, 1) := by decide +kernel
theorem dX7_painters_23 : decode cX7_painters 23 = .ok (.ldc2_w 457, 3) := by decide +kernel
theorem dX7_painters_26 : decode cX7_painters 26 = .ok (.invokestatic 73, 3) := by decide +kernel
theorem dX7_painters_29 : decode cX7_painters 29 = .ok (.ifCond .ne 6, 3) := by decide +kernel
theorem dX7_painters_32 : decode cX7_painters 32 = .ok (.bipush (-2), 2) := by decide +kernel
theorem dX7_painters_34 : decode cX7_painters 34 = .ok (.ireturn, 1) := by decide +kernel
theorem dX7_painters_35 : decode cX7_painters 35 = .ok (.aload_n 0, 1) := by decide +kernel
theorem dX7_painters_36 : decode cX7_painters 36 = .ok (.getfield 50, 3) := by decide +kernel
theorem dX7_painters_39 : decode cX7_painters 39 = .ok (.iload_n 1, 1) := by decide +kernel
theorem dX7_painters_40 : decode cX7_painters 40 = .ok (.baload, 1) := by decide +kernel
theorem dX7_painters_41 : decode cX7_painters 41 = .ok (.ifCond .eq 16, 3) := by decide +kernel
theorem dX7_painters_44 : decode cX7_painters 44 = .ok (.aload_n 0, 1) := by decide +kernel
theorem dX7_painters_45 : decode cX7_painters 45 = .ok (.getfield 54, 3) := by decide +kernel
theorem dX7_painters_48 : decode cX7_painters 48 = .ok (.iload_n 1, 1) := by decide +kernel
theorem dX7_painters_49 : decode cX7_painters 49 = .ok (.iaload, 1) := by decide +kernel
theorem dX7_painters_50 : decode cX7_painters 50 = .ok (.iload_n 2, 1) := by decide +kernel
theorem dX7_painters_51 : decode cX7_painters 51 = .ok (.if_icmp .eq 6, 3) := by decide +kernel
theorem dX7_painters_54 : decode cX7_painters 54 = .ok (.bipush (-13), 2) := by decide +kernel
theorem dX7_painters_56 : decode cX7_painters 56 = .ok (.ireturn, 1) := by decide +kernel
theorem dX7_painters_57 : decode cX7_painters 57 = .ok (.aload_n 0, 1) := by decide +kernel
theorem dX7_painters_58 : decode cX7_painters 58 = .ok (.getfield 50, 3) := by decide +kernel
theorem dX7_painters_61 : decode cX7_painters 61 = .ok (.iload_n 1, 1) := by decide +kernel
theorem dX7_painters_62 : decode cX7_painters 62 = .ok (.baload, 1) := by decide +kernel
theorem dX7_painters_63 : decode cX7_painters 63 = .ok (.ifCond .ne 6, 3) := by decide +kernel
theorem dX7_painters_66 : decode cX7_painters 66 = .ok (.bipush (-11), 2) := by decide +kernel
theorem dX7_painters_68 : decode cX7_painters 68 = .ok (.ireturn, 1) := by decide +kernel
theorem dX7_painters_69 : decode cX7_painters 69 = .ok (.iconst 0, 1) := by decide +kernel
theorem dX7_painters_70 : decode cX7_painters 70 = .ok (.istore 5, 2) := by decide +kernel
theorem dX7_painters_72 : decode cX7_painters 72 = .ok (.iconst 0, 1) := by decide +kernel
theorem dX7_painters_73 : decode cX7_painters 73 = .ok (.istore 6, 2) := by decide +kernel
theorem dX7_painters_75 : decode cX7_painters 75 = .ok (.iload 6, 2) := by decide +kernel
theorem dX7_painters_77 : decode cX7_painters 77 = .ok (.iload 4, 2) := by decide +kernel
theorem dX7_painters_79 : decode cX7_painters 79 = .ok (.if_icmp .ge 88, 3) := by decide +kernel
theorem dX7_painters_82 : decode cX7_painters 82 = .ok (.iload_n 3, 1) := by decide +kernel
theorem dX7_painters_83 : decode cX7_painters 83 = .ok (.ifCond .lt 20, 3) := by decide +kernel
theorem dX7_painters_86 : decode cX7_painters 86 = .ok (.iload_n 3, 1) := by decide +kernel
theorem dX7_painters_87 : decode cX7_painters 87 = .ok (.aload_n 0, 1) := by decide +kernel
theorem dX7_painters_88 : decode cX7_painters 88 = .ok (.getfield 57, 3) := by decide +kernel
theorem dX7_painters_91 : decode cX7_painters 91 = .ok (.iload_n 1, 1) := by decide +kernel
theorem dX7_painters_92 : decode cX7_painters 92 = .ok (.iaload, 1) := by decide +kernel
theorem dX7_painters_93 : decode cX7_painters 93 = .ok (.iconst 3, 1) := by decide +kernel
theorem dX7_painters_94 : decode cX7_painters 94 = .ok (.iload 6, 2) := by decide +kernel
theorem dX7_painters_96 : decode cX7_painters 96 = .ok (.imul, 1) := by decide +kernel
theorem dX7_painters_97 : decode cX7_painters 97 = .ok (.isub, 1) := by decide +kernel
theorem dX7_painters_98 : decode cX7_painters 98 = .ok (.iconst 3, 1) := by decide +kernel
theorem dX7_painters_99 : decode cX7_painters 99 = .ok (.isub, 1) := by decide +kernel
theorem dX7_painters_100 : decode cX7_painters 100 = .ok (.if_icmp .le 6, 3) := by decide +kernel
theorem dX7_painters_103 : decode cX7_painters 103 = .ok (.bipush (-12), 2) := by decide +kernel
theorem dX7_painters_105 : decode cX7_painters 105 = .ok (.ireturn, 1) := by decide +kernel
theorem dX7_painters_106 : decode cX7_painters 106 = .ok (.bipush 40, 2) := by decide +kernel
theorem dX7_painters_108 : decode cX7_painters 108 = .ok (.iload_n 1, 1) := by decide +kernel
theorem dX7_painters_109 : decode cX7_painters 109 = .ok (.imul, 1) := by decide +kernel
theorem dX7_painters_110 : decode cX7_painters 110 = .ok (.iload_n 3, 1) := by decide +kernel
theorem dX7_painters_111 : decode cX7_painters 111 = .ok (.iadd, 1) := by decide +kernel
theorem dX7_painters_112 : decode cX7_painters 112 = .ok (.iconst 3, 1) := by decide +kernel
theorem dX7_painters_113 : decode cX7_painters 113 = .ok (.iload 6, 2) := by decide +kernel
theorem dX7_painters_115 : decode cX7_painters 115 = .ok (.imul, 1) := by decide +kernel
theorem dX7_painters_116 : decode cX7_painters 116 = .ok (.iadd, 1) := by decide +kernel
theorem dX7_painters_117 : decode cX7_painters 117 = .ok (.istore 7, 2) := by decide +kernel
theorem dX7_painters_119 : decode cX7_painters 119 = .ok (.iload 5, 2) := by decide +kernel
theorem dX7_painters_121 : decode cX7_painters 121 = .ok (.aload_n 0, 1) := by decide +kernel
theorem dX7_painters_122 : decode cX7_painters 122 = .ok (.aload_n 0, 1) := by decide +kernel
theorem dX7_painters_123 : decode cX7_painters 123 = .ok (.getfield 60, 3) := by decide +kernel
theorem dX7_painters_126 : decode cX7_painters 126 = .ok (.iload 7, 2) := by decide +kernel
theorem dX7_painters_128 : decode cX7_painters 128 = .ok (.iaload, 1) := by decide +kernel
theorem dX7_painters_129 : decode cX7_painters 129 = .ok (.aload_n 0, 1) := by decide +kernel
theorem dX7_painters_130 : decode cX7_painters 130 = .ok (.getfield 60, 3) := by decide +kernel
theorem dX7_painters_133 : decode cX7_painters 133 = .ok (.iload 7, 2) := by decide +kernel
theorem dX7_painters_135 : decode cX7_painters 135 = .ok (.iconst 1, 1) := by decide +kernel
theorem dX7_painters_136 : decode cX7_painters 136 = .ok (.iadd, 1) := by decide +kernel
theorem dX7_painters_137 : decode cX7_painters 137 = .ok (.iaload, 1) := by decide +kernel
theorem dX7_painters_138 : decode cX7_painters 138 = .ok (.aload_n 0, 1) := by decide +kernel
theorem dX7_painters_139 : decode cX7_painters 139 = .ok (.getfield 60, 3) := by decide +kernel
theorem dX7_painters_142 : decode cX7_painters 142 = .ok (.iload 7, 2) := by decide +kernel
theorem dX7_painters_144 : decode cX7_painters 144 = .ok (.iconst 2, 1) := by decide +kernel
theorem dX7_painters_145 : decode cX7_painters 145 = .ok (.iadd, 1) := by decide +kernel
theorem dX7_painters_146 : decode cX7_painters 146 = .ok (.iaload, 1) := by decide +kernel
theorem dX7_painters_147 : decode cX7_painters 147 = .ok (.invokevirtual 459, 3) := by decide +kernel
theorem dX7_painters_150 : decode cX7_painters 150 = .ok (.ifCond .lt 7, 3) := by decide +kernel
theorem dX7_painters_153 : decode cX7_painters 153 = .ok (.iconst 1, 1) := by decide +kernel
theorem dX7_painters_154 : decode cX7_painters 154 = .ok (.goto 4, 3) := by decide +kernel
theorem dX7_painters_157 : decode cX7_painters 157 = .ok (.iconst 0, 1) := by decide +kernel
theorem dX7_painters_158 : decode cX7_painters 158 = .ok (.iadd, 1) := by decide +kernel
theorem dX7_painters_159 : decode cX7_painters 159 = .ok (.istore 5, 2) := by decide +kernel
theorem dX7_painters_161 : decode cX7_painters 161 = .ok (.iinc 6 1, 3) := by decide +kernel
theorem dX7_painters_164 : decode cX7_painters 164 = .ok (.goto (-89), 3) := by decide +kernel
theorem dX7_painters_167 : decode cX7_painters 167 = .ok (.iload 5, 2) := by decide +kernel
theorem dX7_painters_169 : decode cX7_painters 169 = .ok (.ireturn, 1) := by decide +kernel
theorem dX7_over_0 : decode cX7_over 0 = .ok (.iload_n 0, 1) := by decide +kernel
theorem dX7_over_1 : decode cX7_over 1 = .ok (.ifCond .ne 7, 3) := by decide +kernel
theorem dX7_over_4 : decode cX7_over 4 = .ok (.iconst (-1), 1) := by decide +kernel
theorem dX7_over_5 : decode cX7_over 5 = .ok (.goto 22, 3) := by decide +kernel
theorem dX7_over_8 : decode cX7_over 8 = .ok (.iload_n 0, 1) := by decide +kernel
theorem dX7_over_9 : decode cX7_over 9 = .ok (.iconst 3, 1) := by decide +kernel
theorem dX7_over_10 : decode cX7_over 10 = .ok (.if_icmp .ne 7, 3) := by decide +kernel
theorem dX7_over_13 : decode cX7_over 13 = .ok (.iconst 1, 1) := by decide +kernel
theorem dX7_over_14 : decode cX7_over 14 = .ok (.goto 13, 3) := by decide +kernel
theorem dX7_over_17 : decode cX7_over 17 = .ok (.iload_n 0, 1) := by decide +kernel
theorem dX7_over_18 : decode cX7_over 18 = .ok (.iconst 4, 1) := by decide +kernel
theorem dX7_over_19 : decode cX7_over 19 = .ok (.if_icmp .ne 7, 3) := by decide +kernel
theorem dX7_over_22 : decode cX7_over 22 = .ok (.iconst 2, 1) := by decide +kernel
theorem dX7_over_23 : decode cX7_over 23 = .ok (.goto 4, 3) := by decide +kernel
theorem dX7_over_26 : decode cX7_over 26 = .ok (.iconst 0, 1) := by decide +kernel
theorem dX7_over_27 : decode cX7_over 27 = .ok (.ireturn, 1) := by decide +kernel
theorem dX7_taken_0 : decode cX7_taken 0 = .ok (.iload_n 2, 1) := by decide +kernel
theorem dX7_taken_1 : decode cX7_taken 1 = .ok (.i2l, 1) := by decide +kernel
theorem dX7_taken_2 : decode cX7_taken 2 = .ok (.lconst 0, 1) := by decide +kernel
theorem dX7_taken_3 : decode cX7_taken 3 = .ok (.ldc2_w 95, 3) := by decide +kernel
theorem dX7_taken_6 : decode cX7_taken 6 = .ok (.invokestatic 73, 3) := by decide +kernel
theorem dX7_taken_9 : decode cX7_taken 9 = .ok (.ifCond .ne 6, 3) := by decide +kernel
theorem dX7_taken_12 : decode cX7_taken 12 = .ok (.bipush (-2), 2) := by decide +kernel
theorem dX7_taken_14 : decode cX7_taken 14 = .ok (.ireturn, 1) := by decide +kernel
theorem dX7_taken_15 : decode cX7_taken 15 = .ok (.aload_n 0, 1) := by decide +kernel
theorem dX7_taken_16 : decode cX7_taken 16 = .ok (.iload_n 1, 1) := by decide +kernel
theorem dX7_taken_17 : decode cX7_taken 17 = .ok (.invokevirtual 97, 3) := by decide +kernel
theorem dX7_taken_20 : decode cX7_taken 20 = .ok (.ifCond .ne 6, 3) := by decide +kernel
theorem dX7_taken_23 : decode cX7_taken 23 = .ok (.bipush (-11), 2) := by decide +kernel
theorem dX7_taken_25 : decode cX7_taken 25 = .ok (.ireturn, 1) := by decide +kernel
theorem dX7_taken_26 : decode cX7_taken 26 = .ok (.aload_n 0, 1) := by decide +kernel
theorem dX7_taken_27 : decode cX7_taken 27 = .ok (.getfield 26, 3) := by decide +kernel
theorem dX7_taken_30 : decode cX7_taken 30 = .ok (.iload_n 1, 1) := by decide +kernel
theorem dX7_taken_31 : decode cX7_taken 31 = .ok (.iaload, 1) := by decide +kernel
theorem dX7_taken_32 : decode cX7_taken 32 = .ok (.istore_n 3, 1) := by decide +kernel
theorem dX7_taken_33 : decode cX7_taken 33 = .ok (.iload_n 3, 1) := by decide +kernel
theorem dX7_taken_34 : decode cX7_taken 34 = .ok (.iconst (-1), 1) := by decide +kernel
theorem dX7_taken_35 : decode cX7_taken 35 = .ok (.if_icmp .eq 16, 3) := by decide +kernel
theorem dX7_taken_38 : decode cX7_taken 38 = .ok (.iload_n 3, 1) := by decide +kernel
theorem dX7_taken_39 : decode cX7_taken 39 = .ok (.iload_n 2, 1) := by decide +kernel
theorem dX7_taken_40 : decode cX7_taken 40 = .ok (.if_icmp .eq 11, 3) := by decide +kernel
theorem dX7_taken_43 : decode cX7_taken 43 = .ok (.iload_n 3, 1) := by decide +kernel
theorem dX7_taken_44 : decode cX7_taken 44 = .ok (.invokestatic 462, 3) := by decide +kernel
theorem dX7_taken_47 : decode cX7_taken 47 = .ok (.istore_n 3, 1) := by decide +kernel
theorem dX7_taken_48 : decode cX7_taken 48 = .ok (.goto (-15), 3) := by decide +kernel
theorem dX7_taken_51 : decode cX7_taken 51 = .ok (.iload_n 3, 1) := by decide +kernel
theorem dX7_taken_52 : decode cX7_taken 52 = .ok (.iload_n 2, 1) := by decide +kernel
theorem dX7_taken_53 : decode cX7_taken 53 = .ok (.if_icmp .ne 14, 3) := by decide +kernel
theorem dX7_taken_56 : decode cX7_taken 56 = .ok (.aload_n 0, 1) := by decide +kernel
theorem dX7_taken_57 : decode cX7_taken 57 = .ok (.getfield 29, 3) := by decide +kernel
theorem dX7_taken_60 : decode cX7_taken 60 = .ok (.iconst 4, 1) := by decide +kernel
theorem dX7_taken_61 : decode cX7_taken 61 = .ok (.iload_n 1, 1) := by decide +kernel
theorem dX7_taken_62 : decode cX7_taken 62 = .ok (.imul, 1) := by decide +kernel
theorem dX7_taken_63 : decode cX7_taken 63 = .ok (.iaload, 1) := by decide +kernel
theorem dX7_taken_64 : decode cX7_taken 64 = .ok (.goto 5, 3) := by decide +kernel
theorem dX7_taken_67 : decode cX7_taken 67 = .ok (.bipush (-13), 2) := by decide +kernel
theorem dX7_taken_69 : decode cX7_taken 69 = .ok (.ireturn, 1) := by decide +kernel
theorem dJ9_abs_0f7a4_0 : decode cJ9_abs_0f7a4 0 = .ok (.iload_n 0, 1) := by decide +kernel
theorem dJ9_abs_0f7a4_1 : decode cJ9_abs_0f7a4 1 = .ok (.ifCond .ge 8, 3) := by decide +kernel
theorem dJ9_abs_0f7a4_4 : decode cJ9_abs_0f7a4 4 = .ok (.iload_n 0, 1) := by decide +kernel
theorem dJ9_abs_0f7a4_5 : decode cJ9_abs_0f7a4 5 = .ok (.ineg, 1) := by decide +kernel
theorem dJ9_abs_0f7a4_6 : decode cJ9_abs_0f7a4 6 = .ok (.goto 4, 3) := by decide +kernel
theorem dJ9_abs_0f7a4_9 : decode cJ9_abs_0f7a4 9 = .ok (.iload_n 0, 1) := by decide +kernel
theorem dJ9_abs_0f7a4_10 : decode cJ9_abs_0f7a4 10 = .ok (.ireturn, 1) := by decide +kernel
theorem dJ9_max_7cf53_0 : decode cJ9_max_7cf53 0 = .ok (.iload_n 0, 1) := by decide +kernel
theorem dJ9_max_7cf53_1 : decode cJ9_max_7cf53 1 = .ok (.iload_n 1, 1) := by decide +kernel
theorem dJ9_max_7cf53_2 : decode cJ9_max_7cf53 2 = .ok (.if_icmp .lt 7, 3) := by decide +kernel
theorem dJ9_max_7cf53_5 : decode cJ9_max_7cf53 5 = .ok (.iload_n 0, 1) := by decide +kernel
theorem dJ9_max_7cf53_6 : decode cJ9_max_7cf53 6 = .ok (.goto 4, 3) := by decide +kernel
theorem dJ9_max_7cf53_9 : decode cJ9_max_7cf53 9 = .ok (.iload_n 1, 1) := by decide +kernel
theorem dJ9_max_7cf53_10 : decode cJ9_max_7cf53 10 = .ok (.ireturn, 1) := by decide +kernel
theorem dJ9_min_7cf53_0 : decode cJ9_min_7cf53 0 = .ok (.iload_n 0, 1) := by decide +kernel
theorem dJ9_min_7cf53_1 : decode cJ9_min_7cf53 1 = .ok (.iload_n 1, 1) := by decide +kernel
theorem dJ9_min_7cf53_2 : decode cJ9_min_7cf53 2 = .ok (.if_icmp .gt 7, 3) := by decide +kernel
theorem dJ9_min_7cf53_5 : decode cJ9_min_7cf53 5 = .ok (.iload_n 0, 1) := by decide +kernel
theorem dJ9_min_7cf53_6 : decode cJ9_min_7cf53 6 = .ok (.goto 4, 3) := by decide +kernel
theorem dJ9_min_7cf53_9 : decode cJ9_min_7cf53 9 = .ok (.iload_n 1, 1) := by decide +kernel
theorem dJ9_min_7cf53_10 : decode cJ9_min_7cf53 10 = .ok (.ireturn, 1) := by decide +kernel
theorem dJ0_length_8abf5_0 : decode cJ0_length_8abf5 0 = .ok (.aload_n 0, 1) := by decide +kernel
theorem dJ0_length_8abf5_1 : decode cJ0_length_8abf5 1 = .ok (.getfield 9, 3) := by decide +kernel
theorem dJ0_length_8abf5_4 : decode cJ0_length_8abf5 4 = .ok (.arraylength, 1) := by decide +kernel
theorem dJ0_length_8abf5_5 : decode cJ0_length_8abf5 5 = .ok (.aload_n 0, 1) := by decide +kernel
theorem dJ0_length_8abf5_6 : decode cJ0_length_8abf5 6 = .ok (.invokevirtual 335, 3) := by decide +kernel
theorem dJ0_length_8abf5_9 : decode cJ0_length_8abf5 9 = .ok (.ishr, 1) := by decide +kernel
theorem dJ0_length_8abf5_10 : decode cJ0_length_8abf5 10 = .ok (.ireturn, 1) := by decide +kernel
theorem dJ0_charAt_5068e_0 : decode cJ0_charAt_5068e 0 = .ok (.aload_n 0, 1) := by decide +kernel
theorem dJ0_charAt_5068e_1 : decode cJ0_charAt_5068e 1 = .ok (.invokevirtual 492, 3) := by decide +kernel
theorem dJ0_charAt_5068e_4 : decode cJ0_charAt_5068e 4 = .ok (.ifCond .eq 12, 3) := by decide +kernel
theorem dJ0_charAt_5068e_7 : decode cJ0_charAt_5068e 7 = .ok (.aload_n 0, 1) := by decide +kernel
theorem dJ0_charAt_5068e_8 : decode cJ0_charAt_5068e 8 = .ok (.getfield 9, 3) := by decide +kernel
theorem dJ0_charAt_5068e_11 : decode cJ0_charAt_5068e 11 = .ok (.iload_n 1, 1) := by decide +kernel
theorem dJ0_charAt_5068e_12 : decode cJ0_charAt_5068e 12 = .ok (.invokestatic 495, 3) := by decide +kernel
theorem dJ0_charAt_5068e_15 : decode cJ0_charAt_5068e 15 = .ok (.ireturn, 1) := by decide +kernel
theorem dJ0_charAt_5068e_16 : decode cJ0_charAt_5068e 16 = .ok (.aload_n 0, 1) := by decide +kernel
theorem dJ0_charAt_5068e_17 : decode cJ0_charAt_5068e 17 = .ok (.getfield 9, 3) := by decide +kernel
theorem dJ0_charAt_5068e_20 : decode cJ0_charAt_5068e 20 = .ok (.iload_n 1, 1) := by decide +kernel
theorem dJ0_charAt_5068e_21 : decode cJ0_charAt_5068e 21 = .ok (.invokestatic 498, 3) := by decide +kernel
theorem dJ0_charAt_5068e_24 : decode cJ0_charAt_5068e 24 = .ok (.ireturn, 1) := by decide +kernel
theorem dJ0_coder_7d493_0 : decode cJ0_coder_7d493 0 = .ok (.getstatic 38, 3) := by decide +kernel
theorem dJ0_coder_7d493_3 : decode cJ0_coder_7d493 3 = .ok (.ifCond .eq 10, 3) := by decide +kernel
theorem dJ0_coder_7d493_6 : decode cJ0_coder_7d493 6 = .ok (.aload_n 0, 1) := by decide +kernel
theorem dJ0_coder_7d493_7 : decode cJ0_coder_7d493 7 = .ok (.getfield 15, 3) := by decide +kernel
theorem dJ0_coder_7d493_10 : decode cJ0_coder_7d493 10 = .ok (.goto 4, 3) := by decide +kernel
theorem dJ0_coder_7d493_13 : decode cJ0_coder_7d493 13 = .ok (.iconst 1, 1) := by decide +kernel
theorem dJ0_coder_7d493_14 : decode cJ0_coder_7d493 14 = .ok (.ireturn, 1) := by decide +kernel
theorem dJ0_isLatin1_aae02_0 : decode cJ0_isLatin1_aae02 0 = .ok (.getstatic 38, 3) := by decide +kernel
theorem dJ0_isLatin1_aae02_3 : decode cJ0_isLatin1_aae02 3 = .ok (.ifCond .eq 14, 3) := by decide +kernel
theorem dJ0_isLatin1_aae02_6 : decode cJ0_isLatin1_aae02 6 = .ok (.aload_n 0, 1) := by decide +kernel
theorem dJ0_isLatin1_aae02_7 : decode cJ0_isLatin1_aae02 7 = .ok (.getfield 15, 3) := by decide +kernel
theorem dJ0_isLatin1_aae02_10 : decode cJ0_isLatin1_aae02 10 = .ok (.ifCond .ne 7, 3) := by decide +kernel
theorem dJ0_isLatin1_aae02_13 : decode cJ0_isLatin1_aae02 13 = .ok (.iconst 1, 1) := by decide +kernel
theorem dJ0_isLatin1_aae02_14 : decode cJ0_isLatin1_aae02 14 = .ok (.goto 4, 3) := by decide +kernel
theorem dJ0_isLatin1_aae02_17 : decode cJ0_isLatin1_aae02 17 = .ok (.iconst 0, 1) := by decide +kernel
theorem dJ0_isLatin1_aae02_18 : decode cJ0_isLatin1_aae02 18 = .ok (.ireturn, 1) := by decide +kernel
theorem dJ0_checkIndex_df160_0 : decode cJ0_checkIndex_df160 0 = .ok (.iload_n 0, 1) := by decide +kernel
theorem dJ0_checkIndex_df160_1 : decode cJ0_checkIndex_df160 1 = .ok (.iload_n 1, 1) := by decide +kernel
theorem dJ0_checkIndex_df160_2 : decode cJ0_checkIndex_df160 2 = .ok (.getstatic 1053, 3) := by decide +kernel
theorem dJ0_checkIndex_df160_5 : decode cJ0_checkIndex_df160 5 = .ok (.invokestatic 1059, 3) := by decide +kernel
theorem dJ0_checkIndex_df160_8 : decode cJ0_checkIndex_df160 8 = .ok (.pop, 1) := by decide +kernel
theorem dJ0_checkIndex_df160_9 : decode cJ0_checkIndex_df160 9 = .ok (.return_, 1) := by decide +kernel
theorem dJ1_charAt_3b067_0 : decode cJ1_charAt_3b067 0 = .ok (.iload_n 1, 1) := by decide +kernel
theorem dJ1_charAt_3b067_1 : decode cJ1_charAt_3b067 1 = .ok (.aload_n 0, 1) := by decide +kernel
theorem dJ1_charAt_3b067_2 : decode cJ1_charAt_3b067 2 = .ok (.arraylength, 1) := by decide +kernel
theorem dJ1_charAt_3b067_3 : decode cJ1_charAt_3b067 3 = .ok (.invokestatic 9, 3) := by decide +kernel
theorem dJ1_charAt_3b067_6 : decode cJ1_charAt_3b067 6 = .ok (.aload_n 0, 1) := by decide +kernel
theorem dJ1_charAt_3b067_7 : decode cJ1_charAt_3b067 7 = .ok (.iload_n 1, 1) := by decide +kernel
theorem dJ1_charAt_3b067_8 : decode cJ1_charAt_3b067 8 = .ok (.baload, 1) := by decide +kernel
theorem dJ1_charAt_3b067_9 : decode cJ1_charAt_3b067 9 = .ok (.sipush 255, 3) := by decide +kernel
theorem dJ1_charAt_3b067_12 : decode cJ1_charAt_3b067 12 = .ok (.iand, 1) := by decide +kernel
theorem dJ1_charAt_3b067_13 : decode cJ1_charAt_3b067 13 = .ok (.i2c, 1) := by decide +kernel
theorem dJ1_charAt_3b067_14 : decode cJ1_charAt_3b067 14 = .ok (.ireturn, 1) := by decide +kernel
theorem dJ2_getChar_3b067_0 : decode cJ2_getChar_3b067 0 = .ok (.getstatic 44, 3) := by decide +kernel
theorem dJ2_getChar_3b067_3 : decode cJ2_getChar_3b067 3 = .ok (.ifCond .ne 25, 3) := by decide +kernel
theorem dJ2_getChar_3b067_6 : decode cJ2_getChar_3b067 6 = .ok (.iload_n 1, 1) := by decide +kernel
theorem dJ2_getChar_3b067_7 : decode cJ2_getChar_3b067 7 = .ok (.ifCond .lt 11, 3) := by decide +kernel
theorem dJ2_getChar_3b067_10 : decode cJ2_getChar_3b067 10 = .ok (.iload_n 1, 1) := by decide +kernel
theorem dJ2_getChar_3b067_11 : decode cJ2_getChar_3b067 11 = .ok (.aload_n 0, 1) := by decide +kernel
theorem dJ2_getChar_3b067_12 : decode cJ2_getChar_3b067 12 = .ok (.invokestatic 48, 3) := by decide +kernel
theorem dJ2_getChar_3b067_15 : decode cJ2_getChar_3b067 15 = .ok (.if_icmp .lt 13, 3) := by decide +kernel
theorem dJ2_getChar_3b067_18 : decode cJ2_getChar_3b067 18 = .ok (.new 52, 3) := by decide +kernel
theorem dJ2_getChar_3b067_21 : decode cJ2_getChar_3b067 21 = .ok (.dup, 1) := by decide +kernel
theorem dJ2_getChar_3b067_22 : decode cJ2_getChar_3b067 22 = .ok (.ldc 54, 2) := by decide +kernel
theorem dJ2_getChar_3b067_24 : decode cJ2_getChar_3b067 24 = .ok (.invokespecial 56, 3) := by decide +kernel
theorem dJ2_getChar_3b067_27 : decode cJ2_getChar_3b067 27 = .ok (.athrow, 1) := by decide +kernel
theorem dJ2_getChar_3b067_28 : decode cJ2_getChar_3b067 28 = .ok (.iload_n 1, 1) := by decide +kernel
theorem dJ2_getChar_3b067_29 : decode cJ2_getChar_3b067 29 = .ok (.iconst 1, 1) := by decide +kernel
theorem dJ2_getChar_3b067_30 : decode cJ2_getChar_3b067 30 = .ok (.ishl, 1) := by decide +kernel
theorem dJ2_getChar_3b067_31 : decode cJ2_getChar_3b067 31 = .ok (.istore_n 1, 1) := by decide +kernel
theorem dJ2_getChar_3b067_32 : decode cJ2_getChar_3b067 32 = .ok (.aload_n 0, 1) := by decide +kernel
theorem dJ2_getChar_3b067_33 : decode cJ2_getChar_3b067 33 = .ok (.iload_n 1, 1) := by decide +kernel
theorem dJ2_getChar_3b067_34 : decode cJ2_getChar_3b067 34 = .ok (.iinc 1 1, 3) := by decide +kernel
theorem dJ2_getChar_3b067_37 : decode cJ2_getChar_3b067 37 = .ok (.baload, 1) := by decide +kernel
theorem dJ2_getChar_3b067_38 : decode cJ2_getChar_3b067 38 = .ok (.sipush 255, 3) := by decide +kernel
theorem dJ2_getChar_3b067_41 : decode cJ2_getChar_3b067 41 = .ok (.iand, 1) := by decide +kernel
theorem dJ2_getChar_3b067_42 : decode cJ2_getChar_3b067 42 = .ok (.getstatic 59, 3) := by decide +kernel
theorem dJ2_getChar_3b067_45 : decode cJ2_getChar_3b067 45 = .ok (.ishl, 1) := by decide +kernel
theorem dJ2_getChar_3b067_46 : decode cJ2_getChar_3b067 46 = .ok (.aload_n 0, 1) := by decide +kernel
theorem dJ2_getChar_3b067_47 : decode cJ2_getChar_3b067 47 = .ok (.iload_n 1, 1) := by decide +kernel
theorem dJ2_getChar_3b067_48 : decode cJ2_getChar_3b067 48 = .ok (.baload, 1) := by decide +kernel
theorem dJ2_getChar_3b067_49 : decode cJ2_getChar_3b067 49 = .ok (.sipush 255, 3) := by decide +kernel
theorem dJ2_getChar_3b067_52 : decode cJ2_getChar_3b067 52 = .ok (.iand, 1) := by decide +kernel
theorem dJ2_getChar_3b067_53 : decode cJ2_getChar_3b067 53 = .ok (.getstatic 63, 3) := by decide +kernel
theorem dJ2_getChar_3b067_56 : decode cJ2_getChar_3b067 56 = .ok (.ishl, 1) := by decide +kernel
theorem dJ2_getChar_3b067_57 : decode cJ2_getChar_3b067 57 = .ok (.ior, 1) := by decide +kernel
theorem dJ2_getChar_3b067_58 : decode cJ2_getChar_3b067 58 = .ok (.i2c, 1) := by decide +kernel
theorem dJ2_getChar_3b067_59 : decode cJ2_getChar_3b067 59 = .ok (.ireturn, 1) := by decide +kernel
theorem dJ2_length_9d52b_0 : decode cJ2_length_9d52b 0 = .ok (.aload_n 0, 1) := by decide +kernel
theorem dJ2_length_9d52b_1 : decode cJ2_length_9d52b 1 = .ok (.arraylength, 1) := by decide +kernel
theorem dJ2_length_9d52b_2 : decode cJ2_length_9d52b 2 = .ok (.iconst 1, 1) := by decide +kernel
theorem dJ2_length_9d52b_3 : decode cJ2_length_9d52b 3 = .ok (.ishr, 1) := by decide +kernel
theorem dJ2_length_9d52b_4 : decode cJ2_length_9d52b 4 = .ok (.ireturn, 1) := by decide +kernel
theorem dJ2_charAt_3b067_0 : decode cJ2_charAt_3b067 0 = .ok (.iload_n 1, 1) := by decide +kernel
theorem dJ2_charAt_3b067_1 : decode cJ2_charAt_3b067 1 = .ok (.aload_n 0, 1) := by decide +kernel
theorem dJ2_charAt_3b067_2 : decode cJ2_charAt_3b067 2 = .ok (.invokestatic 67, 3) := by decide +kernel
theorem dJ2_charAt_3b067_5 : decode cJ2_charAt_3b067 5 = .ok (.aload_n 0, 1) := by decide +kernel
theorem dJ2_charAt_3b067_6 : decode cJ2_charAt_3b067 6 = .ok (.iload_n 1, 1) := by decide +kernel
theorem dJ2_charAt_3b067_7 : decode cJ2_charAt_3b067 7 = .ok (.invokestatic 71, 3) := by decide +kernel
theorem dJ2_charAt_3b067_10 : decode cJ2_charAt_3b067 10 = .ok (.ireturn, 1) := by decide +kernel
theorem dJ2_checkIndex_2214a_0 : decode cJ2_checkIndex_2214a 0 = .ok (.iload_n 0, 1) := by decide +kernel
theorem dJ2_checkIndex_2214a_1 : decode cJ2_checkIndex_2214a 1 = .ok (.aload_n 1, 1) := by decide +kernel
theorem dJ2_checkIndex_2214a_2 : decode cJ2_checkIndex_2214a 2 = .ok (.invokestatic 48, 3) := by decide +kernel
theorem dJ2_checkIndex_2214a_5 : decode cJ2_checkIndex_2214a 5 = .ok (.invokestatic 414, 3) := by decide +kernel
theorem dJ2_checkIndex_2214a_8 : decode cJ2_checkIndex_2214a 8 = .ok (.return_, 1) := by decide +kernel
theorem dJ7_fill_53178_0 : decode cJ7_fill_53178 0 = .ok (.iconst 0, 1) := by decide +kernel
theorem dJ7_fill_53178_1 : decode cJ7_fill_53178 1 = .ok (.istore_n 2, 1) := by decide +kernel
theorem dJ7_fill_53178_2 : decode cJ7_fill_53178 2 = .ok (.aload_n 0, 1) := by decide +kernel
theorem dJ7_fill_53178_3 : decode cJ7_fill_53178 3 = .ok (.arraylength, 1) := by decide +kernel
theorem dJ7_fill_53178_4 : decode cJ7_fill_53178 4 = .ok (.istore_n 3, 1) := by decide +kernel
theorem dJ7_fill_53178_5 : decode cJ7_fill_53178 5 = .ok (.iload_n 2, 1) := by decide +kernel
theorem dJ7_fill_53178_6 : decode cJ7_fill_53178 6 = .ok (.iload_n 3, 1) := by decide +kernel
theorem dJ7_fill_53178_7 : decode cJ7_fill_53178 7 = .ok (.if_icmp .ge 13, 3) := by decide +kernel
theorem dJ7_fill_53178_10 : decode cJ7_fill_53178 10 = .ok (.aload_n 0, 1) := by decide +kernel
theorem dJ7_fill_53178_11 : decode cJ7_fill_53178 11 = .ok (.iload_n 2, 1) := by decide +kernel
theorem dJ7_fill_53178_12 : decode cJ7_fill_53178 12 = .ok (.iload_n 1, 1) := by decide +kernel
theorem dJ7_fill_53178_13 : decode cJ7_fill_53178 13 = .ok (.iastore, 1) := by decide +kernel
theorem dJ7_fill_53178_14 : decode cJ7_fill_53178 14 = .ok (.iinc 2 1, 3) := by decide +kernel
theorem dJ7_fill_53178_17 : decode cJ7_fill_53178 17 = .ok (.goto (-12), 3) := by decide +kernel
theorem dJ7_fill_53178_20 : decode cJ7_fill_53178 20 = .ok (.return_, 1) := by decide +kernel
theorem dJ7_copyOf_59c91_0 : decode cJ7_copyOf_59c91 0 = .ok (.iload_n 1, 1) := by decide +kernel
theorem dJ7_copyOf_59c91_1 : decode cJ7_copyOf_59c91 1 = .ok (.aload_n 0, 1) := by decide +kernel
theorem dJ7_copyOf_59c91_2 : decode cJ7_copyOf_59c91 2 = .ok (.arraylength, 1) := by decide +kernel
theorem dJ7_copyOf_59c91_3 : decode cJ7_copyOf_59c91 3 = .ok (.if_icmp .ne 11, 3) := by decide +kernel
theorem dJ7_copyOf_59c91_6 : decode cJ7_copyOf_59c91 6 = .ok (.aload_n 0, 1) := by decide +kernel
theorem dJ7_copyOf_59c91_7 : decode cJ7_copyOf_59c91 7 = .ok (.invokevirtual 316, 3) := by decide +kernel
theorem dJ7_copyOf_59c91_10 : decode cJ7_copyOf_59c91 10 = .ok (.checkcast 317, 3) := by decide +kernel
theorem dJ7_copyOf_59c91_13 : decode cJ7_copyOf_59c91 13 = .ok (.areturn, 1) := by decide +kernel
theorem dJ7_copyOf_59c91_14 : decode cJ7_copyOf_59c91 14 = .ok (.iload_n 1, 1) := by decide +kernel
theorem dJ7_copyOf_59c91_15 : decode cJ7_copyOf_59c91 15 = .ok (.newarray .int, 2) := by decide +kernel
theorem dJ7_copyOf_59c91_17 : decode cJ7_copyOf_59c91 17 = .ok (.astore_n 2, 1) := by decide +kernel
theorem dJ7_copyOf_59c91_18 : decode cJ7_copyOf_59c91 18 = .ok (.aload_n 0, 1) := by decide +kernel
theorem dJ7_copyOf_59c91_19 : decode cJ7_copyOf_59c91 19 = .ok (.iconst 0, 1) := by decide +kernel
theorem dJ7_copyOf_59c91_20 : decode cJ7_copyOf_59c91 20 = .ok (.aload_n 2, 1) := by decide +kernel
theorem dJ7_copyOf_59c91_21 : decode cJ7_copyOf_59c91 21 = .ok (.iconst 0, 1) := by decide +kernel
theorem dJ7_copyOf_59c91_22 : decode cJ7_copyOf_59c91 22 = .ok (.aload_n 0, 1) := by decide +kernel
theorem dJ7_copyOf_59c91_23 : decode cJ7_copyOf_59c91 23 = .ok (.arraylength, 1) := by decide +kernel
theorem dJ7_copyOf_59c91_24 : decode cJ7_copyOf_59c91 24 = .ok (.iload_n 1, 1) := by decide +kernel
theorem dJ7_copyOf_59c91_25 : decode cJ7_copyOf_59c91 25 = .ok (.invokestatic 304, 3) := by decide +kernel
theorem dJ7_copyOf_59c91_28 : decode cJ7_copyOf_59c91 28 = .ok (.invokestatic 150, 3) := by decide +kernel
theorem dJ7_copyOf_59c91_31 : decode cJ7_copyOf_59c91 31 = .ok (.aload_n 2, 1) := by decide +kernel
theorem dJ7_copyOf_59c91_32 : decode cJ7_copyOf_59c91 32 = .ok (.areturn, 1) := by decide +kernel
theorem dJ3_checkIndex_8e157_0 : decode cJ3_checkIndex_8e157 0 = .ok (.iload_n 0, 1) := by decide +kernel
theorem dJ3_checkIndex_8e157_1 : decode cJ3_checkIndex_8e157 1 = .ok (.ifCond .lt 8, 3) := by decide +kernel
theorem dJ3_checkIndex_8e157_4 : decode cJ3_checkIndex_8e157 4 = .ok (.iload_n 0, 1) := by decide +kernel
theorem dJ3_checkIndex_8e157_5 : decode cJ3_checkIndex_8e157 5 = .ok (.iload_n 1, 1) := by decide +kernel
theorem dJ3_checkIndex_8e157_6 : decode cJ3_checkIndex_8e157 6 = .ok (.if_icmp .lt 10, 3) := by decide +kernel
theorem dJ3_checkIndex_8e157_9 : decode cJ3_checkIndex_8e157 9 = .ok (.aload_n 2, 1) := by decide +kernel
theorem dJ3_checkIndex_8e157_10 : decode cJ3_checkIndex_8e157 10 = .ok (.iload_n 0, 1) := by decide +kernel
theorem dJ3_checkIndex_8e157_11 : decode cJ3_checkIndex_8e157 11 = .ok (.iload_n 1, 1) := by decide +kernel
theorem dJ3_checkIndex_8e157_12 : decode cJ3_checkIndex_8e157 12 = .ok (.invokestatic 95, 3) := by decide +kernel
theorem dJ3_checkIndex_8e157_15 : decode cJ3_checkIndex_8e157 15 = .ok (.athrow, 1) := by decide +kernel
theorem dJ3_checkIndex_8e157_16 : decode cJ3_checkIndex_8e157 16 = .ok (.iload_n 0, 1) := by decide +kernel
theorem dJ3_checkIndex_8e157_17 : decode cJ3_checkIndex_8e157 17 = .ok (.ireturn, 1) := by decide +kernel
theorem dL_law_0 : decode cL_law 0 = .ok (.new 7, 3) := by decide +kernel
theorem dL_law_3 : decode cL_law 3 = .ok (.dup, 1) := by decide +kernel
theorem dL_law_4 : decode cL_law 4 = .ok (.invokespecial 9, 3) := by decide +kernel
theorem dL_law_7 : decode cL_law 7 = .ok (.astore_n 1, 1) := by decide +kernel
theorem dL_law_8 : decode cL_law 8 = .ok (.new 10, 3) := by decide +kernel
theorem dL_law_11 : decode cL_law 11 = .ok (.dup, 1) := by decide +kernel
theorem dL_law_12 : decode cL_law 12 = .ok (.invokespecial 12, 3) := by decide +kernel
theorem dL_law_15 : decode cL_law 15 = .ok (.astore_n 2, 1) := by decide +kernel
theorem dL_law_16 : decode cL_law 16 = .ok (.iconst 0, 1) := by decide +kernel
theorem dL_law_17 : decode cL_law 17 = .ok (.istore_n 3, 1) := by decide +kernel
theorem dL_law_18 : decode cL_law 18 = .ok (.iload_n 3, 1) := by decide +kernel
theorem dL_law_19 : decode cL_law 19 = .ok (.aload_n 0, 1) := by decide +kernel
theorem dL_law_20 : decode cL_law 20 = .ok (.arraylength, 1) := by decide +kernel
theorem dL_law_21 : decode cL_law 21 = .ok (.bipush 6, 2) := by decide +kernel
theorem dL_law_23 : decode cL_law 23 = .ok (.isub, 1) := by decide +kernel
theorem dL_law_24 : decode cL_law 24 = .ok (.if_icmp .gt 1044, 3) := by decide +kernel
theorem dL_law_27 : decode cL_law 27 = .ok (.aload_n 0, 1) := by decide +kernel
theorem dL_law_28 : decode cL_law 28 = .ok (.iload_n 3, 1) := by decide +kernel
theorem dL_law_29 : decode cL_law 29 = .ok (.iaload, 1) := by decide +kernel
theorem dL_law_30 : decode cL_law 30 = .ok (.bipush 31, 2) := by decide +kernel
theorem dL_law_32 : decode cL_law 32 = .ok (.iand, 1) := by decide +kernel
theorem dL_law_33 : decode cL_law 33 = .ok (.tableswitch 1029 0 25 #[119, 162, 205, 238, 261, 274, 297, 320, 363, 386, 430, 463, 496, 519, 552, 605, 658, 691, 745, 758, 771, 794, 837, 880, 943, 996], 119) := by decide +kernel
theorem dL_law_152 : decode cL_law 152 = .ok (.aload_n 1, 1) := by decide +kernel
theorem dL_law_153 : decode cL_law 153 = .ok (.aload_n 0, 1) := by decide +kernel
theorem dL_law_154 : decode cL_law 154 = .ok (.iload_n 3, 1) := by decide +kernel
theorem dL_law_155 : decode cL_law 155 = .ok (.iconst 1, 1) := by decide +kernel
theorem dL_law_156 : decode cL_law 156 = .ok (.iadd, 1) := by decide +kernel
theorem dL_law_157 : decode cL_law 157 = .ok (.iaload, 1) := by decide +kernel
theorem dL_law_158 : decode cL_law 158 = .ok (.aload_n 0, 1) := by decide +kernel
theorem dL_law_159 : decode cL_law 159 = .ok (.iload_n 3, 1) := by decide +kernel
theorem dL_law_160 : decode cL_law 160 = .ok (.iconst 2, 1) := by decide +kernel
theorem dL_law_161 : decode cL_law 161 = .ok (.iadd, 1) := by decide +kernel
theorem dL_law_162 : decode cL_law 162 = .ok (.iaload, 1) := by decide +kernel
theorem dL_law_163 : decode cL_law 163 = .ok (.aload_n 0, 1) := by decide +kernel
theorem dL_law_164 : decode cL_law 164 = .ok (.iload_n 3, 1) := by decide +kernel
theorem dL_law_165 : decode cL_law 165 = .ok (.iconst 3, 1) := by decide +kernel
theorem dL_law_166 : decode cL_law 166 = .ok (.iadd, 1) := by decide +kernel
theorem dL_law_167 : decode cL_law 167 = .ok (.iaload, 1) := by decide +kernel
theorem dL_law_168 : decode cL_law 168 = .ok (.invokevirtual 13, 3) := by decide +kernel
theorem dL_law_171 : decode cL_law 171 = .ok (.aload_n 2, 1) := by decide +kernel
theorem dL_law_172 : decode cL_law 172 = .ok (.aload_n 0, 1) := by decide +kernel
theorem dL_law_173 : decode cL_law 173 = .ok (.iload_n 3, 1) := by decide +kernel
theorem dL_law_174 : decode cL_law 174 = .ok (.iconst 1, 1) := by decide +kernel
theorem dL_law_175 : decode cL_law 175 = .ok (.iadd, 1) := by decide +kernel
theorem dL_law_176 : decode cL_law 176 = .ok (.iaload, 1) := by decide +kernel
theorem dL_law_177 : decode cL_law 177 = .ok (.aload_n 0, 1) := by decide +kernel
theorem dL_law_178 : decode cL_law 178 = .ok (.iload_n 3, 1) := by decide +kernel
theorem dL_law_179 : decode cL_law 179 = .ok (.iconst 2, 1) := by decide +kernel
theorem dL_law_180 : decode cL_law 180 = .ok (.iadd, 1) := by decide +kernel
theorem dL_law_181 : decode cL_law 181 = .ok (.iaload, 1) := by decide +kernel
theorem dL_law_182 : decode cL_law 182 = .ok (.aload_n 0, 1) := by decide +kernel
theorem dL_law_183 : decode cL_law 183 = .ok (.iload_n 3, 1) := by decide +kernel
theorem dL_law_184 : decode cL_law 184 = .ok (.iconst 3, 1) := by decide +kernel
theorem dL_law_185 : decode cL_law 185 = .ok (.iadd, 1) := by decide +kernel
theorem dL_law_186 : decode cL_law 186 = .ok (.iaload, 1) := by decide +kernel
theorem dL_law_187 : decode cL_law 187 = .ok (.invokevirtual 17, 3) := by decide +kernel
theorem dL_law_190 : decode cL_law 190 = .ok (.if_icmp .eq 872, 3) := by decide +kernel
theorem dL_law_193 : decode cL_law 193 = .ok (.iconst 0, 1) := by decide +kernel
theorem dL_law_194 : decode cL_law 194 = .ok (.ireturn, 1) := by decide +kernel
theorem dL_law_195 : decode cL_law 195 = .ok (.aload_n 1, 1) := by decide +kernel
theorem dL_law_196 : decode cL_law 196 = .ok (.aload_n 0, 1) := by decide +kernel
theorem dL_law_197 : decode cL_law 197 = .ok (.iload_n 3, 1) := by decide +kernel
theorem dL_law_198 : decode cL_law 198 = .ok (.iconst 1, 1) := by decide +kernel
theorem dL_law_199 : decode cL_law 199 = .ok (.iadd, 1) := by decide +kernel
theorem dL_law_200 : decode cL_law 200 = .ok (.iaload, 1) := by decide +kernel
theorem dL_law_201 : decode cL_law 201 = .ok (.aload_n 0, 1) := by decide +kernel
theorem dL_law_202 : decode cL_law 202 = .ok (.iload_n 3, 1) := by decide +kernel
theorem dL_law_203 : decode cL_law 203 = .ok (.iconst 2, 1) := by decide +kernel
theorem dL_law_204 : decode cL_law 204 = .ok (.iadd, 1) := by decide +kernel
theorem dL_law_205 : decode cL_law 205 = .ok (.iaload, 1) := by decide +kernel
theorem dL_law_206 : decode cL_law 206 = .ok (.aload_n 0, 1) := by decide +kernel
theorem dL_law_207 : decode cL_law 207 = .ok (.iload_n 3, 1) := by decide +kernel
theorem dL_law_208 : decode cL_law 208 = .ok (.iconst 3, 1) := by decide +kernel
theorem dL_law_209 : decode cL_law 209 = .ok (.iadd, 1) := by decide +kernel
theorem dL_law_210 : decode cL_law 210 = .ok (.iaload, 1) := by decide +kernel
theorem dL_law_211 : decode cL_law 211 = .ok (.invokevirtual 18, 3) := by decide +kernel
theorem dL_law_214 : decode cL_law 214 = .ok (.aload_n 2, 1) := by decide +kernel
theorem dL_law_215 : decode cL_law 215 = .ok (.aload_n 0, 1) := by decide +kernel
theorem dL_law_216 : decode cL_law 216 = .ok (.iload_n 3, 1) := by decide +kernel
theorem dL_law_217 : decode cL_law 217 = .ok (.iconst 1, 1) := by decide +kernel
theorem dL_law_218 : decode cL_law 218 = .ok (.iadd, 1) := by decide +kernel
theorem dL_law_219 : decode cL_law 219 = .ok (.iaload, 1) := by decide +kernel
theorem dL_law_220 : decode cL_law 220 = .ok (.aload_n 0, 1) := by decide +kernel
theorem dL_law_221 : decode cL_law 221 = .ok (.iload_n 3, 1) := by decide +kernel
theorem dL_law_222 : decode cL_law 222 = .ok (.iconst 2, 1) := by decide +kernel
theorem dL_law_223 : decode cL_law 223 = .ok (.iadd, 1) := by decide +kernel
theorem dL_law_224 : decode cL_law 224 = .ok (.iaload, 1) := by decide +kernel
theorem dL_law_225 : decode cL_law 225 = .ok (.aload_n 0, 1) := by decide +kernel
theorem dL_law_226 : decode cL_law 226 = .ok (.iload_n 3, 1) := by decide +kernel
theorem dL_law_227 : decode cL_law 227 = .ok (.iconst 3, 1) := by decide +kernel
theorem dL_law_228 : decode cL_law 228 = .ok (.iadd, 1) := by decide +kernel
theorem dL_law_229 : decode cL_law 229 = .ok (.iaload, 1) := by decide +kernel
theorem dL_law_230 : decode cL_law 230 = .ok (.invokevirtual 21, 3) := by decide +kernel
theorem dL_law_233 : decode cL_law 233 = .ok (.if_icmp .eq 829, 3) := by decide +kernel
theorem dL_law_236 : decode cL_law 236 = .ok (.iconst 0, 1) := by decide +kernel
theorem dL_law_237 : decode cL_law 237 = .ok (.ireturn, 1) := by decide +kernel
theorem dL_law_238 : decode cL_law 238 = .ok (.aload_n 1, 1) := by decide +kernel
theorem dL_law_239 : decode cL_law 239 = .ok (.aload_n 0, 1) := by decide +kernel
theorem dL_law_240 : decode cL_law 240 = .ok (.iload_n 3, 1) := by decide +kernel
theorem dL_law_241 : decode cL_law 241 = .ok (.iconst 1, 1) := by decide +kernel
theorem dL_law_242 : decode cL_law 242 = .ok (.iadd, 1) := by decide +kernel
theorem dL_law_243 : decode cL_law 243 = .ok (.iaload, 1) := by decide +kernel
theorem dL_law_244 : decode cL_law 244 = .ok (.aload_n 0, 1) := by decide +kernel
theorem dL_law_245 : decode cL_law 245 = .ok (.iload_n 3, 1) := by decide +kernel
theorem dL_law_246 : decode cL_law 246 = .ok (.iconst 2, 1) := by decide +kernel
theorem dL_law_247 : decode cL_law 247 = .ok (.iadd, 1) := by decide +kernel
theorem dL_law_248 : decode cL_law 248 = .ok (.iaload, 1) := by decide +kernel
theorem dL_law_249 : decode cL_law 249 = .ok (.invokevirtual 22, 3) := by decide +kernel
theorem dL_law_252 : decode cL_law 252 = .ok (.aload_n 2, 1) := by decide +kernel
theorem dL_law_253 : decode cL_law 253 = .ok (.aload_n 0, 1) := by decide +kernel
theorem dL_law_254 : decode cL_law 254 = .ok (.iload_n 3, 1) := by decide +kernel
theorem dL_law_255 : decode cL_law 255 = .ok (.iconst 1, 1) := by decide +kernel
theorem dL_law_256 : decode cL_law 256 = .ok (.iadd, 1) := by decide +kernel
theorem dL_law_257 : decode cL_law 257 = .ok (.iaload, 1) := by decide +kernel
theorem dL_law_258 : decode cL_law 258 = .ok (.aload_n 0, 1) := by decide +kernel
theorem dL_law_259 : decode cL_law 259 = .ok (.iload_n 3, 1) := by decide +kernel
theorem dL_law_260 : decode cL_law 260 = .ok (.iconst 2, 1) := by decide +kernel
theorem dL_law_261 : decode cL_law 261 = .ok (.iadd, 1) := by decide +kernel
theorem dL_law_262 : decode cL_law 262 = .ok (.iaload, 1) := by decide +kernel
theorem dL_law_263 : decode cL_law 263 = .ok (.invokevirtual 26, 3) := by decide +kernel
theorem dL_law_266 : decode cL_law 266 = .ok (.if_icmp .eq 796, 3) := by decide +kernel
theorem dL_law_269 : decode cL_law 269 = .ok (.iconst 0, 1) := by decide +kernel
theorem dL_law_270 : decode cL_law 270 = .ok (.ireturn, 1) := by decide +kernel
theorem dL_law_271 : decode cL_law 271 = .ok (.aload_n 1, 1) := by decide +kernel
theorem dL_law_272 : decode cL_law 272 = .ok (.aload_n 0, 1) := by decide +kernel
theorem dL_law_273 : decode cL_law 273 = .ok (.iload_n 3, 1) := by decide +kernel
theorem dL_law_274 : decode cL_law 274 = .ok (.iconst 1, 1) := by decide +kernel
theorem dL_law_275 : decode cL_law 275 = .ok (.iadd, 1) := by decide +kernel
theorem dL_law_276 : decode cL_law 276 = .ok (.iaload, 1) := by decide +kernel
theorem dL_law_277 : decode cL_law 277 = .ok (.invokevirtual 27, 3) := by decide +kernel
theorem dL_law_280 : decode cL_law 280 = .ok (.aload_n 2, 1) := by decide +kernel
theorem dL_law_281 : decode cL_law 281 = .ok (.aload_n 0, 1) := by decide +kernel
theorem dL_law_282 : decode cL_law 282 = .ok (.iload_n 3, 1) := by decide +kernel
theorem dL_law_283 : decode cL_law 283 = .ok (.iconst 1, 1) := by decide +kernel
theorem dL_law_284 : decode cL_law 284 = .ok (.iadd, 1) := by decide +kernel
theorem dL_law_285 : decode cL_law 285 = .ok (.iaload, 1) := by decide +kernel
theorem dL_law_286 : decode cL_law 286 = .ok (.invokevirtual 31, 3) := by decide +kernel
theorem dL_law_289 : decode cL_law 289 = .ok (.if_icmp .eq 773, 3) := by decide +kernel
theorem dL_law_292 : decode cL_law 292 = .ok (.iconst 0, 1) := by decide +kernel
theorem dL_law_293 : decode cL_law 293 = .ok (.ireturn, 1) := by decide +kernel
theorem dL_law_294 : decode cL_law 294 = .ok (.aload_n 1, 1) := by decide +kernel
theorem dL_law_295 : decode cL_law 295 = .ok (.invokevirtual 32, 3) := by decide +kernel
theorem dL_law_298 : decode cL_law 298 = .ok (.aload_n 2, 1) := by decide +kernel
theorem dL_law_299 : decode cL_law 299 = .ok (.invokevirtual 36, 3) := by decide +kernel
theorem dL_law_302 : decode cL_law 302 = .ok (.if_icmp .eq 760, 3) := by decide +kernel
theorem dL_law_305 : decode cL_law 305 = .ok (.iconst 0, 1) := by decide +kernel
theorem dL_law_306 : decode cL_law 306 = .ok (.ireturn, 1) := by decide +kernel
theorem dL_law_307 : decode cL_law 307 = .ok (.aload_n 1, 1) := by decide +kernel
theorem dL_law_308 : decode cL_law 308 = .ok (.aload_n 0, 1) := by decide +kernel
theorem dL_law_309 : decode cL_law 309 = .ok (.iload_n 3, 1) := by decide +kernel
theorem dL_law_310 : decode cL_law 310 = .ok (.iconst 1, 1) := by decide +kernel
theorem dL_law_311 : decode cL_law 311 = .ok (.iadd, 1) := by decide +kernel
theorem dL_law_312 : decode cL_law 312 = .ok (.iaload, 1) := by decide +kernel
theorem dL_law_313 : decode cL_law 313 = .ok (.invokevirtual 37, 3) := by decide +kernel
theorem dL_law_316 : decode cL_law 316 = .ok (.aload_n 2, 1) := by decide +kernel
theorem dL_law_317 : decode cL_law 317 = .ok (.aload_n 0, 1) := by decide +kernel
theorem dL_law_318 : decode cL_law 318 = .ok (.iload_n 3, 1) := by decide +kernel
theorem dL_law_319 : decode cL_law 319 = .ok (.iconst 1, 1) := by decide +kernel
theorem dL_law_320 : decode cL_law 320 = .ok (.iadd, 1) := by decide +kernel
theorem dL_law_321 : decode cL_law 321 = .ok (.iaload, 1) := by decide +kernel
theorem dL_law_322 : decode cL_law 322 = .ok (.invokevirtual 40, 3) := by decide +kernel
theorem dL_law_325 : decode cL_law 325 = .ok (.if_icmp .eq 737, 3) := by decide +kernel
theorem dL_law_328 : decode cL_law 328 = .ok (.iconst 0, 1) := by decide +kernel
theorem dL_law_329 : decode cL_law 329 = .ok (.ireturn, 1) := by decide +kernel
theorem dL_law_330 : decode cL_law 330 = .ok (.aload_n 1, 1) := by decide +kernel
theorem dL_law_331 : decode cL_law 331 = .ok (.aload_n 0, 1) := by decide +kernel
theorem dL_law_332 : decode cL_law 332 = .ok (.iload_n 3, 1) := by decide +kernel
theorem dL_law_333 : decode cL_law 333 = .ok (.iconst 1, 1) := by decide +kernel
theorem dL_law_334 : decode cL_law 334 = .ok (.iadd, 1) := by decide +kernel
theorem dL_law_335 : decode cL_law 335 = .ok (.iaload, 1) := by decide +kernel
theorem dL_law_336 : decode cL_law 336 = .ok (.invokevirtual 41, 3) := by decide +kernel
theorem dL_law_339 : decode cL_law 339 = .ok (.aload_n 2, 1) := by decide +kernel
theorem dL_law_340 : decode cL_law 340 = .ok (.aload_n 0, 1) := by decide +kernel
theorem dL_law_341 : decode cL_law 341 = .ok (.iload_n 3, 1) := by decide +kernel
theorem dL_law_342 : decode cL_law 342 = .ok (.iconst 1, 1) := by decide +kernel
theorem dL_law_343 : decode cL_law 343 = .ok (.iadd, 1) := by decide +kernel
theorem dL_law_344 : decode cL_law 344 = .ok (.iaload, 1) := by decide +kernel
theorem dL_law_345 : decode cL_law 345 = .ok (.invokevirtual 44, 3) := by decide +kernel
theorem dL_law_348 : decode cL_law 348 = .ok (.if_icmp .eq 714, 3) := by decide +kernel
theorem dL_law_351 : decode cL_law 351 = .ok (.iconst 0, 1) := by decide +kernel
theorem dL_law_352 : decode cL_law 352 = .ok (.ireturn, 1) := by decide +kernel
theorem dL_law_353 : decode cL_law 353 = .ok (.aload_n 1, 1) := by decide +kernel
theorem dL_law_354 : decode cL_law 354 = .ok (.aload_n 0, 1) := by decide +kernel
theorem dL_law_355 : decode cL_law 355 = .ok (.iload_n 3, 1) := by decide +kernel
theorem dL_law_356 : decode cL_law 356 = .ok (.iconst 1, 1) := by decide +kernel
theorem dL_law_357 : decode cL_law 357 = .ok (.iadd, 1) := by decide +kernel
theorem dL_law_358 : decode cL_law 358 = .ok (.iaload, 1) := by decide +kernel
theorem dL_law_359 : decode cL_law 359 = .ok (.aload_n 0, 1) := by decide +kernel
theorem dL_law_360 : decode cL_law 360 = .ok (.iload_n 3, 1) := by decide +kernel
theorem dL_law_361 : decode cL_law 361 = .ok (.iconst 2, 1) := by decide +kernel
theorem dL_law_362 : decode cL_law 362 = .ok (.iadd, 1) := by decide +kernel
theorem dL_law_363 : decode cL_law 363 = .ok (.iaload, 1) := by decide +kernel
theorem dL_law_364 : decode cL_law 364 = .ok (.aload_n 0, 1) := by decide +kernel
theorem dL_law_365 : decode cL_law 365 = .ok (.iload_n 3, 1) := by decide +kernel
theorem dL_law_366 : decode cL_law 366 = .ok (.iconst 3, 1) := by decide +kernel
theorem dL_law_367 : decode cL_law 367 = .ok (.iadd, 1) := by decide +kernel
theorem dL_law_368 : decode cL_law 368 = .ok (.iaload, 1) := by decide +kernel
theorem dL_law_369 : decode cL_law 369 = .ok (.invokevirtual 45, 3) := by decide +kernel
theorem dL_law_372 : decode cL_law 372 = .ok (.aload_n 2, 1) := by decide +kernel
theorem dL_law_373 : decode cL_law 373 = .ok (.aload_n 0, 1) := by decide +kernel
theorem dL_law_374 : decode cL_law 374 = .ok (.iload_n 3, 1) := by decide +kernel
theorem dL_law_375 : decode cL_law 375 = .ok (.iconst 1, 1) := by decide +kernel
theorem dL_law_376 : decode cL_law 376 = .ok (.iadd, 1) := by decide +kernel
theorem dL_law_377 : decode cL_law 377 = .ok (.iaload, 1) := by decide +kernel
theorem dL_law_378 : decode cL_law 378 = .ok (.aload_n 0, 1) := by decide +kernel
theorem dL_law_379 : decode cL_law 379 = .ok (.iload_n 3, 1) := by decide +kernel
theorem dL_law_380 : decode cL_law 380 = .ok (.iconst 2, 1) := by decide +kernel
theorem dL_law_381 : decode cL_law 381 = .ok (.iadd, 1) := by decide +kernel
theorem dL_law_382 : decode cL_law 382 = .ok (.iaload, 1) := by decide +kernel
theorem dL_law_383 : decode cL_law 383 = .ok (.aload_n 0, 1) := by decide +kernel
theorem dL_law_384 : decode cL_law 384 = .ok (.iload_n 3, 1) := by decide +kernel
theorem dL_law_385 : decode cL_law 385 = .ok (.iconst 3, 1) := by decide +kernel
theorem dL_law_386 : decode cL_law 386 = .ok (.iadd, 1) := by decide +kernel
theorem dL_law_387 : decode cL_law 387 = .ok (.iaload, 1) := by decide +kernel
theorem dL_law_388 : decode cL_law 388 = .ok (.invokevirtual 48, 3) := by decide +kernel
theorem dL_law_391 : decode cL_law 391 = .ok (.if_icmp .eq 671, 3) := by decide +kernel
theorem dL_law_394 : decode cL_law 394 = .ok (.iconst 0, 1) := by decide +kernel
theorem dL_law_395 : decode cL_law 395 = .ok (.ireturn, 1) := by decide +kernel
theorem dL_law_396 : decode cL_law 396 = .ok (.aload_n 1, 1) := by decide +kernel
theorem dL_law_397 : decode cL_law 397 = .ok (.aload_n 0, 1) := by decide +kernel
theorem dL_law_398 : decode cL_law 398 = .ok (.iload_n 3, 1) := by decide +kernel
theorem dL_law_399 : decode cL_law 399 = .ok (.iconst 1, 1) := by decide +kernel
theorem dL_law_400 : decode cL_law 400 = .ok (.iadd, 1) := by decide +kernel
theorem dL_law_401 : decode cL_law 401 = .ok (.iaload, 1) := by decide +kernel
theorem dL_law_402 : decode cL_law 402 = .ok (.invokevirtual 49, 3) := by decide +kernel
theorem dL_law_405 : decode cL_law 405 = .ok (.aload_n 2, 1) := by decide +kernel
theorem dL_law_406 : decode cL_law 406 = .ok (.aload_n 0, 1) := by decide +kernel
theorem dL_law_407 : decode cL_law 407 = .ok (.iload_n 3, 1) := by decide +kernel
theorem dL_law_408 : decode cL_law 408 = .ok (.iconst 1, 1) := by decide +kernel
theorem dL_law_409 : decode cL_law 409 = .ok (.iadd, 1) := by decide +kernel
theorem dL_law_410 : decode cL_law 410 = .ok (.iaload, 1) := by decide +kernel
theorem dL_law_411 : decode cL_law 411 = .ok (.invokevirtual 52, 3) := by decide +kernel
theorem dL_law_414 : decode cL_law 414 = .ok (.if_icmp .eq 648, 3) := by decide +kernel
theorem dL_law_417 : decode cL_law 417 = .ok (.iconst 0, 1) := by decide +kernel
theorem dL_law_418 : decode cL_law 418 = .ok (.ireturn, 1) := by decide +kernel
theorem dL_law_419 : decode cL_law 419 = .ok (.aload_n 1, 1) := by decide +kernel
theorem dL_law_420 : decode cL_law 420 = .ok (.aload_n 0, 1) := by decide +kernel
theorem dL_law_421 : decode cL_law 421 = .ok (.iload_n 3, 1) := by decide +kernel
theorem dL_law_422 : decode cL_law 422 = .ok (.iconst 1, 1) := by decide +kernel
theorem dL_law_423 : decode cL_law 423 = .ok (.iadd, 1) := by decide +kernel
theorem dL_law_424 : decode cL_law 424 = .ok (.iaload, 1) := by decide +kernel
theorem dL_law_425 : decode cL_law 425 = .ok (.aload_n 0, 1) := by decide +kernel
theorem dL_law_426 : decode cL_law 426 = .ok (.iload_n 3, 1) := by decide +kernel
theorem dL_law_427 : decode cL_law 427 = .ok (.iconst 2, 1) := by decide +kernel
theorem dL_law_428 : decode cL_law 428 = .ok (.iadd, 1) := by decide +kernel
theorem dL_law_429 : decode cL_law 429 = .ok (.iaload, 1) := by decide +kernel
theorem dL_law_430 : decode cL_law 430 = .ok (.aload_n 0, 1) := by decide +kernel
theorem dL_law_431 : decode cL_law 431 = .ok (.iload_n 3, 1) := by decide +kernel
theorem dL_law_432 : decode cL_law 432 = .ok (.iconst 3, 1) := by decide +kernel
theorem dL_law_433 : decode cL_law 433 = .ok (.iadd, 1) := by decide +kernel
theorem dL_law_434 : decode cL_law 434 = .ok (.iaload, 1) := by decide +kernel
theorem dL_law_435 : decode cL_law 435 = .ok (.invokevirtual 53, 3) := by decide +kernel
theorem dL_law_438 : decode cL_law 438 = .ok (.aload_n 2, 1) := by decide +kernel
theorem dL_law_439 : decode cL_law 439 = .ok (.aload_n 0, 1) := by decide +kernel
theorem dL_law_440 : decode cL_law 440 = .ok (.iload_n 3, 1) := by decide +kernel
theorem dL_law_441 : decode cL_law 441 = .ok (.iconst 1, 1) := by decide +kernel
theorem dL_law_442 : decode cL_law 442 = .ok (.iadd, 1) := by decide +kernel
theorem dL_law_443 : decode cL_law 443 = .ok (.iaload, 1) := by decide +kernel
theorem dL_law_444 : decode cL_law 444 = .ok (.aload_n 0, 1) := by decide +kernel
theorem dL_law_445 : decode cL_law 445 = .ok (.iload_n 3, 1) := by decide +kernel
theorem dL_law_446 : decode cL_law 446 = .ok (.iconst 2, 1) := by decide +kernel
theorem dL_law_447 : decode cL_law 447 = .ok (.iadd, 1) := by decide +kernel
theorem dL_law_448 : decode cL_law 448 = .ok (.iaload, 1) := by decide +kernel
theorem dL_law_449 : decode cL_law 449 = .ok (.aload_n 0, 1) := by decide +kernel
theorem dL_law_450 : decode cL_law 450 = .ok (.iload_n 3, 1) := by decide +kernel
theorem dL_law_451 : decode cL_law 451 = .ok (.iconst 3, 1) := by decide +kernel
theorem dL_law_452 : decode cL_law 452 = .ok (.iadd, 1) := by decide +kernel
theorem dL_law_453 : decode cL_law 453 = .ok (.iaload, 1) := by decide +kernel
theorem dL_law_454 : decode cL_law 454 = .ok (.invokevirtual 57, 3) := by decide +kernel
theorem dL_law_457 : decode cL_law 457 = .ok (.lcmp, 1) := by decide +kernel
theorem dL_law_458 : decode cL_law 458 = .ok (.ifCond .eq 604, 3) := by decide +kernel
theorem dL_law_461 : decode cL_law 461 = .ok (.iconst 0, 1) := by decide +kernel
theorem dL_law_462 : decode cL_law 462 = .ok (.ireturn, 1) := by decide +kernel
theorem dL_law_463 : decode cL_law 463 = .ok (.aload_n 1, 1) := by decide +kernel
theorem dL_law_464 : decode cL_law 464 = .ok (.aload_n 0, 1) := by decide +kernel
theorem dL_law_465 : decode cL_law 465 = .ok (.iload_n 3, 1) := by decide +kernel
theorem dL_law_466 : decode cL_law 466 = .ok (.iconst 1, 1) := by decide +kernel
theorem dL_law_467 : decode cL_law 467 = .ok (.iadd, 1) := by decide +kernel
theorem dL_law_468 : decode cL_law 468 = .ok (.iaload, 1) := by decide +kernel
theorem dL_law_469 : decode cL_law 469 = .ok (.aload_n 0, 1) := by decide +kernel
theorem dL_law_470 : decode cL_law 470 = .ok (.iload_n 3, 1) := by decide +kernel
theorem dL_law_471 : decode cL_law 471 = .ok (.iconst 2, 1) := by decide +kernel
theorem dL_law_472 : decode cL_law 472 = .ok (.iadd, 1) := by decide +kernel
theorem dL_law_473 : decode cL_law 473 = .ok (.iaload, 1) := by decide +kernel
theorem dL_law_474 : decode cL_law 474 = .ok (.invokevirtual 58, 3) := by decide +kernel
theorem dL_law_477 : decode cL_law 477 = .ok (.aload_n 2, 1) := by decide +kernel
theorem dL_law_478 : decode cL_law 478 = .ok (.aload_n 0, 1) := by decide +kernel
theorem dL_law_479 : decode cL_law 479 = .ok (.iload_n 3, 1) := by decide +kernel
theorem dL_law_480 : decode cL_law 480 = .ok (.iconst 1, 1) := by decide +kernel
theorem dL_law_481 : decode cL_law 481 = .ok (.iadd, 1) := by decide +kernel
theorem dL_law_482 : decode cL_law 482 = .ok (.iaload, 1) := by decide +kernel
theorem dL_law_483 : decode cL_law 483 = .ok (.aload_n 0, 1) := by decide +kernel
theorem dL_law_484 : decode cL_law 484 = .ok (.iload_n 3, 1) := by decide +kernel
theorem dL_law_485 : decode cL_law 485 = .ok (.iconst 2, 1) := by decide +kernel
theorem dL_law_486 : decode cL_law 486 = .ok (.iadd, 1) := by decide +kernel
theorem dL_law_487 : decode cL_law 487 = .ok (.iaload, 1) := by decide +kernel
theorem dL_law_488 : decode cL_law 488 = .ok (.invokevirtual 61, 3) := by decide +kernel
theorem dL_law_491 : decode cL_law 491 = .ok (.if_icmp .eq 571, 3) := by decide +kernel
theorem dL_law_494 : decode cL_law 494 = .ok (.iconst 0, 1) := by decide +kernel
theorem dL_law_495 : decode cL_law 495 = .ok (.ireturn, 1) := by decide +kernel
theorem dL_law_496 : decode cL_law 496 = .ok (.aload_n 1, 1) := by decide +kernel
theorem dL_law_497 : decode cL_law 497 = .ok (.aload_n 0, 1) := by decide +kernel
theorem dL_law_498 : decode cL_law 498 = .ok (.iload_n 3, 1) := by decide +kernel
theorem dL_law_499 : decode cL_law 499 = .ok (.iconst 1, 1) := by decide +kernel
theorem dL_law_500 : decode cL_law 500 = .ok (.iadd, 1) := by decide +kernel
theorem dL_law_501 : decode cL_law 501 = .ok (.iaload, 1) := by decide +kernel
theorem dL_law_502 : decode cL_law 502 = .ok (.aload_n 0, 1) := by decide +kernel
theorem dL_law_503 : decode cL_law 503 = .ok (.iload_n 3, 1) := by decide +kernel
theorem dL_law_504 : decode cL_law 504 = .ok (.iconst 2, 1) := by decide +kernel
theorem dL_law_505 : decode cL_law 505 = .ok (.iadd, 1) := by decide +kernel
theorem dL_law_506 : decode cL_law 506 = .ok (.iaload, 1) := by decide +kernel
theorem dL_law_507 : decode cL_law 507 = .ok (.invokevirtual 62, 3) := by decide +kernel
theorem dL_law_510 : decode cL_law 510 = .ok (.aload_n 2, 1) := by decide +kernel
theorem dL_law_511 : decode cL_law 511 = .ok (.aload_n 0, 1) := by decide +kernel
theorem dL_law_512 : decode cL_law 512 = .ok (.iload_n 3, 1) := by decide +kernel
theorem dL_law_513 : decode cL_law 513 = .ok (.iconst 1, 1) := by decide +kernel
theorem dL_law_514 : decode cL_law 514 = .ok (.iadd, 1) := by decide +kernel
theorem dL_law_515 : decode cL_law 515 = .ok (.iaload, 1) := by decide +kernel
theorem dL_law_516 : decode cL_law 516 = .ok (.aload_n 0, 1) := by decide +kernel
theorem dL_law_517 : decode cL_law 517 = .ok (.iload_n 3, 1) := by decide +kernel
theorem dL_law_518 : decode cL_law 518 = .ok (.iconst 2, 1) := by decide +kernel
theorem dL_law_519 : decode cL_law 519 = .ok (.iadd, 1) := by decide +kernel
theorem dL_law_520 : decode cL_law 520 = .ok (.iaload, 1) := by decide +kernel
theorem dL_law_521 : decode cL_law 521 = .ok (.invokevirtual 65, 3) := by decide +kernel
theorem dL_law_524 : decode cL_law 524 = .ok (.if_icmp .eq 538, 3) := by decide +kernel
theorem dL_law_527 : decode cL_law 527 = .ok (.iconst 0, 1) := by decide +kernel
theorem dL_law_528 : decode cL_law 528 = .ok (.ireturn, 1) := by decide +kernel
theorem dL_law_529 : decode cL_law 529 = .ok (.aload_n 1, 1) := by decide +kernel
theorem dL_law_530 : decode cL_law 530 = .ok (.aload_n 0, 1) := by decide +kernel
theorem dL_law_531 : decode cL_law 531 = .ok (.iload_n 3, 1) := by decide +kernel
theorem dL_law_532 : decode cL_law 532 = .ok (.iconst 1, 1) := by decide +kernel
theorem dL_law_533 : decode cL_law 533 = .ok (.iadd, 1) := by decide +kernel
theorem dL_law_534 : decode cL_law 534 = .ok (.iaload, 1) := by decide +kernel
theorem dL_law_535 : decode cL_law 535 = .ok (.invokevirtual 66, 3) := by decide +kernel
theorem dL_law_538 : decode cL_law 538 = .ok (.aload_n 2, 1) := by decide +kernel
theorem dL_law_539 : decode cL_law 539 = .ok (.aload_n 0, 1) := by decide +kernel
theorem dL_law_540 : decode cL_law 540 = .ok (.iload_n 3, 1) := by decide +kernel
theorem dL_law_541 : decode cL_law 541 = .ok (.iconst 1, 1) := by decide +kernel
theorem dL_law_542 : decode cL_law 542 = .ok (.iadd, 1) := by decide +kernel
theorem dL_law_543 : decode cL_law 543 = .ok (.iaload, 1) := by decide +kernel
theorem dL_law_544 : decode cL_law 544 = .ok (.invokevirtual 69, 3) := by decide +kernel
theorem dL_law_547 : decode cL_law 547 = .ok (.if_icmp .eq 515, 3) := by decide +kernel
theorem dL_law_550 : decode cL_law 550 = .ok (.iconst 0, 1) := by decide +kernel
theorem dL_law_551 : decode cL_law 551 = .ok (.ireturn, 1) := by decide +kernel
theorem dL_law_552 : decode cL_law 552 = .ok (.aload_n 1, 1) := by decide +kernel
theorem dL_law_553 : decode cL_law 553 = .ok (.aload_n 0, 1) := by decide +kernel
theorem dL_law_554 : decode cL_law 554 = .ok (.iload_n 3, 1) := by decide +kernel
theorem dL_law_555 : decode cL_law 555 = .ok (.iconst 1, 1) := by decide +kernel
theorem dL_law_556 : decode cL_law 556 = .ok (.iadd, 1) := by decide +kernel
theorem dL_law_557 : decode cL_law 557 = .ok (.iaload, 1) := by decide +kernel
theorem dL_law_558 : decode cL_law 558 = .ok (.aload_n 0, 1) := by decide +kernel
theorem dL_law_559 : decode cL_law 559 = .ok (.iload_n 3, 1) := by decide +kernel
theorem dL_law_560 : decode cL_law 560 = .ok (.iconst 2, 1) := by decide +kernel
theorem dL_law_561 : decode cL_law 561 = .ok (.iadd, 1) := by decide +kernel
theorem dL_law_562 : decode cL_law 562 = .ok (.iaload, 1) := by decide +kernel
theorem dL_law_563 : decode cL_law 563 = .ok (.invokevirtual 70, 3) := by decide +kernel
theorem dL_law_566 : decode cL_law 566 = .ok (.aload_n 2, 1) := by decide +kernel
theorem dL_law_567 : decode cL_law 567 = .ok (.aload_n 0, 1) := by decide +kernel
theorem dL_law_568 : decode cL_law 568 = .ok (.iload_n 3, 1) := by decide +kernel
theorem dL_law_569 : decode cL_law 569 = .ok (.iconst 1, 1) := by decide +kernel
theorem dL_law_570 : decode cL_law 570 = .ok (.iadd, 1) := by decide +kernel
theorem dL_law_571 : decode cL_law 571 = .ok (.iaload, 1) := by decide +kernel
theorem dL_law_572 : decode cL_law 572 = .ok (.aload_n 0, 1) := by decide +kernel
theorem dL_law_573 : decode cL_law 573 = .ok (.iload_n 3, 1) := by decide +kernel
theorem dL_law_574 : decode cL_law 574 = .ok (.iconst 2, 1) := by decide +kernel
theorem dL_law_575 : decode cL_law 575 = .ok (.iadd, 1) := by decide +kernel
theorem dL_law_576 : decode cL_law 576 = .ok (.iaload, 1) := by decide +kernel
theorem dL_law_577 : decode cL_law 577 = .ok (.invokevirtual 73, 3) := by decide +kernel
theorem dL_law_580 : decode cL_law 580 = .ok (.if_icmp .eq 482, 3) := by decide +kernel
theorem dL_law_583 : decode cL_law 583 = .ok (.iconst 0, 1) := by decide +kernel
theorem dL_law_584 : decode cL_law 584 = .ok (.ireturn, 1) := by decide +kernel
theorem dL_law_585 : decode cL_law 585 = .ok (.aload_n 1, 1) := by decide +kernel
theorem dL_law_586 : decode cL_law 586 = .ok (.aload_n 0, 1) := by decide +kernel
theorem dL_law_587 : decode cL_law 587 = .ok (.iload_n 3, 1) := by decide +kernel
theorem dL_law_588 : decode cL_law 588 = .ok (.iconst 1, 1) := by decide +kernel
theorem dL_law_589 : decode cL_law 589 = .ok (.iadd, 1) := by decide +kernel
theorem dL_law_590 : decode cL_law 590 = .ok (.iaload, 1) := by decide +kernel
theorem dL_law_591 : decode cL_law 591 = .ok (.aload_n 0, 1) := by decide +kernel
theorem dL_law_592 : decode cL_law 592 = .ok (.iload_n 3, 1) := by decide +kernel
theorem dL_law_593 : decode cL_law 593 = .ok (.iconst 2, 1) := by decide +kernel
theorem dL_law_594 : decode cL_law 594 = .ok (.iadd, 1) := by decide +kernel
theorem dL_law_595 : decode cL_law 595 = .ok (.iaload, 1) := by decide +kernel
theorem dL_law_596 : decode cL_law 596 = .ok (.aload_n 0, 1) := by decide +kernel
theorem dL_law_597 : decode cL_law 597 = .ok (.iload_n 3, 1) := by decide +kernel
theorem dL_law_598 : decode cL_law 598 = .ok (.iconst 3, 1) := by decide +kernel
theorem dL_law_599 : decode cL_law 599 = .ok (.iadd, 1) := by decide +kernel
theorem dL_law_600 : decode cL_law 600 = .ok (.iaload, 1) := by decide +kernel
theorem dL_law_601 : decode cL_law 601 = .ok (.aload_n 0, 1) := by decide +kernel
theorem dL_law_602 : decode cL_law 602 = .ok (.iload_n 3, 1) := by decide +kernel
theorem dL_law_603 : decode cL_law 603 = .ok (.iconst 4, 1) := by decide +kernel
theorem dL_law_604 : decode cL_law 604 = .ok (.iadd, 1) := by decide +kernel
theorem dL_law_605 : decode cL_law 605 = .ok (.iaload, 1) := by decide +kernel
theorem dL_law_606 : decode cL_law 606 = .ok (.invokevirtual 74, 3) := by decide +kernel
theorem dL_law_609 : decode cL_law 609 = .ok (.aload_n 2, 1) := by decide +kernel
theorem dL_law_610 : decode cL_law 610 = .ok (.aload_n 0, 1) := by decide +kernel
theorem dL_law_611 : decode cL_law 611 = .ok (.iload_n 3, 1) := by decide +kernel
theorem dL_law_612 : decode cL_law 612 = .ok (.iconst 1, 1) := by decide +kernel
theorem dL_law_613 : decode cL_law 613 = .ok (.iadd, 1) := by decide +kernel
theorem dL_law_614 : decode cL_law 614 = .ok (.iaload, 1) := by decide +kernel
theorem dL_law_615 : decode cL_law 615 = .ok (.aload_n 0, 1) := by decide +kernel
theorem dL_law_616 : decode cL_law 616 = .ok (.iload_n 3, 1) := by decide +kernel
theorem dL_law_617 : decode cL_law 617 = .ok (.iconst 2, 1) := by decide +kernel
theorem dL_law_618 : decode cL_law 618 = .ok (.iadd, 1) := by decide +kernel
theorem dL_law_619 : decode cL_law 619 = .ok (.iaload, 1) := by decide +kernel
theorem dL_law_620 : decode cL_law 620 = .ok (.aload_n 0, 1) := by decide +kernel
theorem dL_law_621 : decode cL_law 621 = .ok (.iload_n 3, 1) := by decide +kernel
theorem dL_law_622 : decode cL_law 622 = .ok (.iconst 3, 1) := by decide +kernel
theorem dL_law_623 : decode cL_law 623 = .ok (.iadd, 1) := by decide +kernel
theorem dL_law_624 : decode cL_law 624 = .ok (.iaload, 1) := by decide +kernel
theorem dL_law_625 : decode cL_law 625 = .ok (.aload_n 0, 1) := by decide +kernel
theorem dL_law_626 : decode cL_law 626 = .ok (.iload_n 3, 1) := by decide +kernel
theorem dL_law_627 : decode cL_law 627 = .ok (.iconst 4, 1) := by decide +kernel
theorem dL_law_628 : decode cL_law 628 = .ok (.iadd, 1) := by decide +kernel
theorem dL_law_629 : decode cL_law 629 = .ok (.iaload, 1) := by decide +kernel
theorem dL_law_630 : decode cL_law 630 = .ok (.invokevirtual 78, 3) := by decide +kernel
theorem dL_law_633 : decode cL_law 633 = .ok (.if_icmp .eq 429, 3) := by decide +kernel
theorem dL_law_636 : decode cL_law 636 = .ok (.iconst 0, 1) := by decide +kernel
theorem dL_law_637 : decode cL_law 637 = .ok (.ireturn, 1) := by decide +kernel
theorem dL_law_638 : decode cL_law 638 = .ok (.aload_n 1, 1) := by decide +kernel
theorem dL_law_639 : decode cL_law 639 = .ok (.aload_n 0, 1) := by decide +kernel
theorem dL_law_640 : decode cL_law 640 = .ok (.iload_n 3, 1) := by decide +kernel
theorem dL_law_641 : decode cL_law 641 = .ok (.iconst 1, 1) := by decide +kernel
theorem dL_law_642 : decode cL_law 642 = .ok (.iadd, 1) := by decide +kernel
theorem dL_law_643 : decode cL_law 643 = .ok (.iaload, 1) := by decide +kernel
theorem dL_law_644 : decode cL_law 644 = .ok (.aload_n 0, 1) := by decide +kernel
theorem dL_law_645 : decode cL_law 645 = .ok (.iload_n 3, 1) := by decide +kernel
theorem dL_law_646 : decode cL_law 646 = .ok (.iconst 2, 1) := by decide +kernel
theorem dL_law_647 : decode cL_law 647 = .ok (.iadd, 1) := by decide +kernel
theorem dL_law_648 : decode cL_law 648 = .ok (.iaload, 1) := by decide +kernel
theorem dL_law_649 : decode cL_law 649 = .ok (.aload_n 0, 1) := by decide +kernel
theorem dL_law_650 : decode cL_law 650 = .ok (.iload_n 3, 1) := by decide +kernel
theorem dL_law_651 : decode cL_law 651 = .ok (.iconst 3, 1) := by decide +kernel
theorem dL_law_652 : decode cL_law 652 = .ok (.iadd, 1) := by decide +kernel
theorem dL_law_653 : decode cL_law 653 = .ok (.iaload, 1) := by decide +kernel
theorem dL_law_654 : decode cL_law 654 = .ok (.aload_n 0, 1) := by decide +kernel
theorem dL_law_655 : decode cL_law 655 = .ok (.iload_n 3, 1) := by decide +kernel
theorem dL_law_656 : decode cL_law 656 = .ok (.iconst 4, 1) := by decide +kernel
theorem dL_law_657 : decode cL_law 657 = .ok (.iadd, 1) := by decide +kernel
theorem dL_law_658 : decode cL_law 658 = .ok (.iaload, 1) := by decide +kernel
theorem dL_law_659 : decode cL_law 659 = .ok (.invokevirtual 79, 3) := by decide +kernel
theorem dL_law_662 : decode cL_law 662 = .ok (.aload_n 2, 1) := by decide +kernel
theorem dL_law_663 : decode cL_law 663 = .ok (.aload_n 0, 1) := by decide +kernel
theorem dL_law_664 : decode cL_law 664 = .ok (.iload_n 3, 1) := by decide +kernel
theorem dL_law_665 : decode cL_law 665 = .ok (.iconst 1, 1) := by decide +kernel
theorem dL_law_666 : decode cL_law 666 = .ok (.iadd, 1) := by decide +kernel
theorem dL_law_667 : decode cL_law 667 = .ok (.iaload, 1) := by decide +kernel
theorem dL_law_668 : decode cL_law 668 = .ok (.aload_n 0, 1) := by decide +kernel
theorem dL_law_669 : decode cL_law 669 = .ok (.iload_n 3, 1) := by decide +kernel
theorem dL_law_670 : decode cL_law 670 = .ok (.iconst 2, 1) := by decide +kernel
theorem dL_law_671 : decode cL_law 671 = .ok (.iadd, 1) := by decide +kernel
theorem dL_law_672 : decode cL_law 672 = .ok (.iaload, 1) := by decide +kernel
theorem dL_law_673 : decode cL_law 673 = .ok (.aload_n 0, 1) := by decide +kernel
theorem dL_law_674 : decode cL_law 674 = .ok (.iload_n 3, 1) := by decide +kernel
theorem dL_law_675 : decode cL_law 675 = .ok (.iconst 3, 1) := by decide +kernel
theorem dL_law_676 : decode cL_law 676 = .ok (.iadd, 1) := by decide +kernel
theorem dL_law_677 : decode cL_law 677 = .ok (.iaload, 1) := by decide +kernel
theorem dL_law_678 : decode cL_law 678 = .ok (.aload_n 0, 1) := by decide +kernel
theorem dL_law_679 : decode cL_law 679 = .ok (.iload_n 3, 1) := by decide +kernel
theorem dL_law_680 : decode cL_law 680 = .ok (.iconst 4, 1) := by decide +kernel
theorem dL_law_681 : decode cL_law 681 = .ok (.iadd, 1) := by decide +kernel
theorem dL_law_682 : decode cL_law 682 = .ok (.iaload, 1) := by decide +kernel
theorem dL_law_683 : decode cL_law 683 = .ok (.invokevirtual 82, 3) := by decide +kernel
theorem dL_law_686 : decode cL_law 686 = .ok (.if_icmp .eq 376, 3) := by decide +kernel
theorem dL_law_689 : decode cL_law 689 = .ok (.iconst 0, 1) := by decide +kernel
theorem dL_law_690 : decode cL_law 690 = .ok (.ireturn, 1) := by decide +kernel
theorem dL_law_691 : decode cL_law 691 = .ok (.aload_n 1, 1) := by decide +kernel
theorem dL_law_692 : decode cL_law 692 = .ok (.aload_n 0, 1) := by decide +kernel
theorem dL_law_693 : decode cL_law 693 = .ok (.iload_n 3, 1) := by decide +kernel
theorem dL_law_694 : decode cL_law 694 = .ok (.iconst 1, 1) := by decide +kernel
theorem dL_law_695 : decode cL_law 695 = .ok (.iadd, 1) := by decide +kernel
theorem dL_law_696 : decode cL_law 696 = .ok (.iaload, 1) := by decide +kernel
theorem dL_law_697 : decode cL_law 697 = .ok (.aload_n 0, 1) := by decide +kernel
theorem dL_law_698 : decode cL_law 698 = .ok (.iload_n 3, 1) := by decide +kernel
theorem dL_law_699 : decode cL_law 699 = .ok (.iconst 2, 1) := by decide +kernel
theorem dL_law_700 : decode cL_law 700 = .ok (.iadd, 1) := by decide +kernel
theorem dL_law_701 : decode cL_law 701 = .ok (.iaload, 1) := by decide +kernel
theorem dL_law_702 : decode cL_law 702 = .ok (.invokevirtual 83, 3) := by decide +kernel
theorem dL_law_705 : decode cL_law 705 = .ok (.aload_n 2, 1) := by decide +kernel
theorem dL_law_706 : decode cL_law 706 = .ok (.aload_n 0, 1) := by decide +kernel
theorem dL_law_707 : decode cL_law 707 = .ok (.iload_n 3, 1) := by decide +kernel
theorem dL_law_708 : decode cL_law 708 = .ok (.iconst 1, 1) := by decide +kernel
theorem dL_law_709 : decode cL_law 709 = .ok (.iadd, 1) := by decide +kernel
theorem dL_law_710 : decode cL_law 710 = .ok (.iaload, 1) := by decide +kernel
theorem dL_law_711 : decode cL_law 711 = .ok (.aload_n 0, 1) := by decide +kernel
theorem dL_law_712 : decode cL_law 712 = .ok (.iload_n 3, 1) := by decide +kernel
theorem dL_law_713 : decode cL_law 713 = .ok (.iconst 2, 1) := by decide +kernel
theorem dL_law_714 : decode cL_law 714 = .ok (.iadd, 1) := by decide +kernel
theorem dL_law_715 : decode cL_law 715 = .ok (.iaload, 1) := by decide +kernel
theorem dL_law_716 : decode cL_law 716 = .ok (.invokevirtual 86, 3) := by decide +kernel
theorem dL_law_719 : decode cL_law 719 = .ok (.if_icmp .eq 343, 3) := by decide +kernel
theorem dL_law_722 : decode cL_law 722 = .ok (.iconst 0, 1) := by decide +kernel
theorem dL_law_723 : decode cL_law 723 = .ok (.ireturn, 1) := by decide +kernel
theorem dL_law_724 : decode cL_law 724 = .ok (.aload_n 1, 1) := by decide +kernel
theorem dL_law_725 : decode cL_law 725 = .ok (.aload_n 0, 1) := by decide +kernel
theorem dL_law_726 : decode cL_law 726 = .ok (.iload_n 3, 1) := by decide +kernel
theorem dL_law_727 : decode cL_law 727 = .ok (.iconst 1, 1) := by decide +kernel
theorem dL_law_728 : decode cL_law 728 = .ok (.iadd, 1) := by decide +kernel
theorem dL_law_729 : decode cL_law 729 = .ok (.iaload, 1) := by decide +kernel
theorem dL_law_730 : decode cL_law 730 = .ok (.aload_n 0, 1) := by decide +kernel
theorem dL_law_731 : decode cL_law 731 = .ok (.iload_n 3, 1) := by decide +kernel
theorem dL_law_732 : decode cL_law 732 = .ok (.iconst 2, 1) := by decide +kernel
theorem dL_law_733 : decode cL_law 733 = .ok (.iadd, 1) := by decide +kernel
theorem dL_law_734 : decode cL_law 734 = .ok (.iaload, 1) := by decide +kernel
theorem dL_law_735 : decode cL_law 735 = .ok (.aload_n 0, 1) := by decide +kernel
theorem dL_law_736 : decode cL_law 736 = .ok (.iload_n 3, 1) := by decide +kernel
theorem dL_law_737 : decode cL_law 737 = .ok (.iconst 3, 1) := by decide +kernel
theorem dL_law_738 : decode cL_law 738 = .ok (.iadd, 1) := by decide +kernel
theorem dL_law_739 : decode cL_law 739 = .ok (.iaload, 1) := by decide +kernel
theorem dL_law_740 : decode cL_law 740 = .ok (.aload_n 0, 1) := by decide +kernel
theorem dL_law_741 : decode cL_law 741 = .ok (.iload_n 3, 1) := by decide +kernel
theorem dL_law_742 : decode cL_law 742 = .ok (.iconst 4, 1) := by decide +kernel
theorem dL_law_743 : decode cL_law 743 = .ok (.iadd, 1) := by decide +kernel
theorem dL_law_744 : decode cL_law 744 = .ok (.iaload, 1) := by decide +kernel
theorem dL_law_745 : decode cL_law 745 = .ok (.invokevirtual 87, 3) := by decide +kernel
theorem dL_law_748 : decode cL_law 748 = .ok (.aload_n 2, 1) := by decide +kernel
theorem dL_law_749 : decode cL_law 749 = .ok (.aload_n 0, 1) := by decide +kernel
theorem dL_law_750 : decode cL_law 750 = .ok (.iload_n 3, 1) := by decide +kernel
theorem dL_law_751 : decode cL_law 751 = .ok (.iconst 1, 1) := by decide +kernel
theorem dL_law_752 : decode cL_law 752 = .ok (.iadd, 1) := by decide +kernel
theorem dL_law_753 : decode cL_law 753 = .ok (.iaload, 1) := by decide +kernel
theorem dL_law_754 : decode cL_law 754 = .ok (.aload_n 0, 1) := by decide +kernel
theorem dL_law_755 : decode cL_law 755 = .ok (.iload_n 3, 1) := by decide +kernel
theorem dL_law_756 : decode cL_law 756 = .ok (.iconst 2, 1) := by decide +kernel
theorem dL_law_757 : decode cL_law 757 = .ok (.iadd, 1) := by decide +kernel
theorem dL_law_758 : decode cL_law 758 = .ok (.iaload, 1) := by decide +kernel
theorem dL_law_759 : decode cL_law 759 = .ok (.aload_n 0, 1) := by decide +kernel
theorem dL_law_760 : decode cL_law 760 = .ok (.iload_n 3, 1) := by decide +kernel
theorem dL_law_761 : decode cL_law 761 = .ok (.iconst 3, 1) := by decide +kernel
theorem dL_law_762 : decode cL_law 762 = .ok (.iadd, 1) := by decide +kernel
theorem dL_law_763 : decode cL_law 763 = .ok (.iaload, 1) := by decide +kernel
theorem dL_law_764 : decode cL_law 764 = .ok (.aload_n 0, 1) := by decide +kernel
theorem dL_law_765 : decode cL_law 765 = .ok (.iload_n 3, 1) := by decide +kernel
theorem dL_law_766 : decode cL_law 766 = .ok (.iconst 4, 1) := by decide +kernel
theorem dL_law_767 : decode cL_law 767 = .ok (.iadd, 1) := by decide +kernel
theorem dL_law_768 : decode cL_law 768 = .ok (.iaload, 1) := by decide +kernel
theorem dL_law_769 : decode cL_law 769 = .ok (.invokevirtual 91, 3) := by decide +kernel
theorem dL_law_772 : decode cL_law 772 = .ok (.lcmp, 1) := by decide +kernel
theorem dL_law_773 : decode cL_law 773 = .ok (.ifCond .eq 289, 3) := by decide +kernel
theorem dL_law_776 : decode cL_law 776 = .ok (.iconst 0, 1) := by decide +kernel
theorem dL_law_777 : decode cL_law 777 = .ok (.ireturn, 1) := by decide +kernel
theorem dL_law_778 : decode cL_law 778 = .ok (.aload_n 1, 1) := by decide +kernel
theorem dL_law_779 : decode cL_law 779 = .ok (.invokevirtual 92, 3) := by decide +kernel
theorem dL_law_782 : decode cL_law 782 = .ok (.aload_n 2, 1) := by decide +kernel
theorem dL_law_783 : decode cL_law 783 = .ok (.invokevirtual 95, 3) := by decide +kernel
theorem dL_law_786 : decode cL_law 786 = .ok (.if_icmp .eq 276, 3) := by decide +kernel
theorem dL_law_789 : decode cL_law 789 = .ok (.iconst 0, 1) := by decide +kernel
theorem dL_law_790 : decode cL_law 790 = .ok (.ireturn, 1) := by decide +kernel
theorem dL_law_791 : decode cL_law 791 = .ok (.aload_n 1, 1) := by decide +kernel
theorem dL_law_792 : decode cL_law 792 = .ok (.invokevirtual 96, 3) := by decide +kernel
theorem dL_law_795 : decode cL_law 795 = .ok (.aload_n 2, 1) := by decide +kernel
theorem dL_law_796 : decode cL_law 796 = .ok (.invokevirtual 99, 3) := by decide +kernel
theorem dL_law_799 : decode cL_law 799 = .ok (.if_icmp .eq 263, 3) := by decide +kernel
theorem dL_law_802 : decode cL_law 802 = .ok (.iconst 0, 1) := by decide +kernel
theorem dL_law_803 : decode cL_law 803 = .ok (.ireturn, 1) := by decide +kernel
theorem dL_law_804 : decode cL_law 804 = .ok (.aload_n 1, 1) := by decide +kernel
theorem dL_law_805 : decode cL_law 805 = .ok (.aload_n 0, 1) := by decide +kernel
theorem dL_law_806 : decode cL_law 806 = .ok (.iload_n 3, 1) := by decide +kernel
theorem dL_law_807 : decode cL_law 807 = .ok (.iconst 1, 1) := by decide +kernel
theorem dL_law_808 : decode cL_law 808 = .ok (.iadd, 1) := by decide +kernel
theorem dL_law_809 : decode cL_law 809 = .ok (.iaload, 1) := by decide +kernel
theorem dL_law_810 : decode cL_law 810 = .ok (.invokevirtual 100, 3) := by decide +kernel
theorem dL_law_813 : decode cL_law 813 = .ok (.aload_n 2, 1) := by decide +kernel
theorem dL_law_814 : decode cL_law 814 = .ok (.aload_n 0, 1) := by decide +kernel
theorem dL_law_815 : decode cL_law 815 = .ok (.iload_n 3, 1) := by decide +kernel
theorem dL_law_816 : decode cL_law 816 = .ok (.iconst 1, 1) := by decide +kernel
theorem dL_law_817 : decode cL_law 817 = .ok (.iadd, 1) := by decide +kernel
theorem dL_law_818 : decode cL_law 818 = .ok (.iaload, 1) := by decide +kernel
theorem dL_law_819 : decode cL_law 819 = .ok (.invokevirtual 103, 3) := by decide +kernel
theorem dL_law_822 : decode cL_law 822 = .ok (.if_icmp .eq 240, 3) := by decide +kernel
theorem dL_law_825 : decode cL_law 825 = .ok (.iconst 0, 1) := by decide +kernel
theorem dL_law_826 : decode cL_law 826 = .ok (.ireturn, 1) := by decide +kernel
theorem dL_law_827 : decode cL_law 827 = .ok (.aload_n 1, 1) := by decide +kernel
theorem dL_law_828 : decode cL_law 828 = .ok (.aload_n 0, 1) := by decide +kernel
theorem dL_law_829 : decode cL_law 829 = .ok (.iload_n 3, 1) := by decide +kernel
theorem dL_law_830 : decode cL_law 830 = .ok (.iconst 1, 1) := by decide +kernel
theorem dL_law_831 : decode cL_law 831 = .ok (.iadd, 1) := by decide +kernel
theorem dL_law_832 : decode cL_law 832 = .ok (.iaload, 1) := by decide +kernel
theorem dL_law_833 : decode cL_law 833 = .ok (.aload_n 0, 1) := by decide +kernel
theorem dL_law_834 : decode cL_law 834 = .ok (.iload_n 3, 1) := by decide +kernel
theorem dL_law_835 : decode cL_law 835 = .ok (.iconst 2, 1) := by decide +kernel
theorem dL_law_836 : decode cL_law 836 = .ok (.iadd, 1) := by decide +kernel
theorem dL_law_837 : decode cL_law 837 = .ok (.iaload, 1) := by decide +kernel
theorem dL_law_838 : decode cL_law 838 = .ok (.aload_n 0, 1) := by decide +kernel
theorem dL_law_839 : decode cL_law 839 = .ok (.iload_n 3, 1) := by decide +kernel
theorem dL_law_840 : decode cL_law 840 = .ok (.iconst 3, 1) := by decide +kernel
theorem dL_law_841 : decode cL_law 841 = .ok (.iadd, 1) := by decide +kernel
theorem dL_law_842 : decode cL_law 842 = .ok (.iaload, 1) := by decide +kernel
theorem dL_law_843 : decode cL_law 843 = .ok (.invokevirtual 104, 3) := by decide +kernel
theorem dL_law_846 : decode cL_law 846 = .ok (.aload_n 2, 1) := by decide +kernel
theorem dL_law_847 : decode cL_law 847 = .ok (.aload_n 0, 1) := by decide +kernel
theorem dL_law_848 : decode cL_law 848 = .ok (.iload_n 3, 1) := by decide +kernel
theorem dL_law_849 : decode cL_law 849 = .ok (.iconst 1, 1) := by decide +kernel
theorem dL_law_850 : decode cL_law 850 = .ok (.iadd, 1) := by decide +kernel
theorem dL_law_851 : decode cL_law 851 = .ok (.iaload, 1) := by decide +kernel
theorem dL_law_852 : decode cL_law 852 = .ok (.aload_n 0, 1) := by decide +kernel
theorem dL_law_853 : decode cL_law 853 = .ok (.iload_n 3, 1) := by decide +kernel
theorem dL_law_854 : decode cL_law 854 = .ok (.iconst 2, 1) := by decide +kernel
theorem dL_law_855 : decode cL_law 855 = .ok (.iadd, 1) := by decide +kernel
theorem dL_law_856 : decode cL_law 856 = .ok (.iaload, 1) := by decide +kernel
theorem dL_law_857 : decode cL_law 857 = .ok (.aload_n 0, 1) := by decide +kernel
theorem dL_law_858 : decode cL_law 858 = .ok (.iload_n 3, 1) := by decide +kernel
theorem dL_law_859 : decode cL_law 859 = .ok (.iconst 3, 1) := by decide +kernel
theorem dL_law_860 : decode cL_law 860 = .ok (.iadd, 1) := by decide +kernel
theorem dL_law_861 : decode cL_law 861 = .ok (.iaload, 1) := by decide +kernel
theorem dL_law_862 : decode cL_law 862 = .ok (.invokevirtual 107, 3) := by decide +kernel
theorem dL_law_865 : decode cL_law 865 = .ok (.if_icmp .eq 197, 3) := by decide +kernel
theorem dL_law_868 : decode cL_law 868 = .ok (.iconst 0, 1) := by decide +kernel
theorem dL_law_869 : decode cL_law 869 = .ok (.ireturn, 1) := by decide +kernel
theorem dL_law_870 : decode cL_law 870 = .ok (.aload_n 1, 1) := by decide +kernel
theorem dL_law_871 : decode cL_law 871 = .ok (.aload_n 0, 1) := by decide +kernel
theorem dL_law_872 : decode cL_law 872 = .ok (.iload_n 3, 1) := by decide +kernel
theorem dL_law_873 : decode cL_law 873 = .ok (.iconst 1, 1) := by decide +kernel
theorem dL_law_874 : decode cL_law 874 = .ok (.iadd, 1) := by decide +kernel
theorem dL_law_875 : decode cL_law 875 = .ok (.iaload, 1) := by decide +kernel
theorem dL_law_876 : decode cL_law 876 = .ok (.aload_n 0, 1) := by decide +kernel
theorem dL_law_877 : decode cL_law 877 = .ok (.iload_n 3, 1) := by decide +kernel
theorem dL_law_878 : decode cL_law 878 = .ok (.iconst 2, 1) := by decide +kernel
theorem dL_law_879 : decode cL_law 879 = .ok (.iadd, 1) := by decide +kernel
theorem dL_law_880 : decode cL_law 880 = .ok (.iaload, 1) := by decide +kernel
theorem dL_law_881 : decode cL_law 881 = .ok (.aload_n 0, 1) := by decide +kernel
theorem dL_law_882 : decode cL_law 882 = .ok (.iload_n 3, 1) := by decide +kernel
theorem dL_law_883 : decode cL_law 883 = .ok (.iconst 3, 1) := by decide +kernel
theorem dL_law_884 : decode cL_law 884 = .ok (.iadd, 1) := by decide +kernel
theorem dL_law_885 : decode cL_law 885 = .ok (.iaload, 1) := by decide +kernel
theorem dL_law_886 : decode cL_law 886 = .ok (.invokevirtual 108, 3) := by decide +kernel
theorem dL_law_889 : decode cL_law 889 = .ok (.aload_n 2, 1) := by decide +kernel
theorem dL_law_890 : decode cL_law 890 = .ok (.aload_n 0, 1) := by decide +kernel
theorem dL_law_891 : decode cL_law 891 = .ok (.iload_n 3, 1) := by decide +kernel
theorem dL_law_892 : decode cL_law 892 = .ok (.iconst 1, 1) := by decide +kernel
theorem dL_law_893 : decode cL_law 893 = .ok (.iadd, 1) := by decide +kernel
theorem dL_law_894 : decode cL_law 894 = .ok (.iaload, 1) := by decide +kernel
theorem dL_law_895 : decode cL_law 895 = .ok (.aload_n 0, 1) := by decide +kernel
theorem dL_law_896 : decode cL_law 896 = .ok (.iload_n 3, 1) := by decide +kernel
theorem dL_law_897 : decode cL_law 897 = .ok (.iconst 2, 1) := by decide +kernel
theorem dL_law_898 : decode cL_law 898 = .ok (.iadd, 1) := by decide +kernel
theorem dL_law_899 : decode cL_law 899 = .ok (.iaload, 1) := by decide +kernel
theorem dL_law_900 : decode cL_law 900 = .ok (.aload_n 0, 1) := by decide +kernel
theorem dL_law_901 : decode cL_law 901 = .ok (.iload_n 3, 1) := by decide +kernel
theorem dL_law_902 : decode cL_law 902 = .ok (.iconst 3, 1) := by decide +kernel
theorem dL_law_903 : decode cL_law 903 = .ok (.iadd, 1) := by decide +kernel
theorem dL_law_904 : decode cL_law 904 = .ok (.iaload, 1) := by decide +kernel
theorem dL_law_905 : decode cL_law 905 = .ok (.invokevirtual 111, 3) := by decide +kernel
theorem dL_law_908 : decode cL_law 908 = .ok (.if_icmp .eq 154, 3) := by decide +kernel
theorem dL_law_911 : decode cL_law 911 = .ok (.iconst 0, 1) := by decide +kernel
theorem dL_law_912 : decode cL_law 912 = .ok (.ireturn, 1) := by decide +kernel
theorem dL_law_913 : decode cL_law 913 = .ok (.aload_n 1, 1) := by decide +kernel
theorem dL_law_914 : decode cL_law 914 = .ok (.aload_n 0, 1) := by decide +kernel
theorem dL_law_915 : decode cL_law 915 = .ok (.iload_n 3, 1) := by decide +kernel
theorem dL_law_916 : decode cL_law 916 = .ok (.iconst 1, 1) := by decide +kernel
theorem dL_law_917 : decode cL_law 917 = .ok (.iadd, 1) := by decide +kernel
theorem dL_law_918 : decode cL_law 918 = .ok (.iaload, 1) := by decide +kernel
theorem dL_law_919 : decode cL_law 919 = .ok (.aload_n 0, 1) := by decide +kernel
theorem dL_law_920 : decode cL_law 920 = .ok (.iload_n 3, 1) := by decide +kernel
theorem dL_law_921 : decode cL_law 921 = .ok (.iconst 2, 1) := by decide +kernel
theorem dL_law_922 : decode cL_law 922 = .ok (.iadd, 1) := by decide +kernel
theorem dL_law_923 : decode cL_law 923 = .ok (.iaload, 1) := by decide +kernel
theorem dL_law_924 : decode cL_law 924 = .ok (.aload_n 0, 1) := by decide +kernel
theorem dL_law_925 : decode cL_law 925 = .ok (.iload_n 3, 1) := by decide +kernel
theorem dL_law_926 : decode cL_law 926 = .ok (.iconst 3, 1) := by decide +kernel
theorem dL_law_927 : decode cL_law 927 = .ok (.iadd, 1) := by decide +kernel
theorem dL_law_928 : decode cL_law 928 = .ok (.iaload, 1) := by decide +kernel
theorem dL_law_929 : decode cL_law 929 = .ok (.aload_n 0, 1) := by decide +kernel
theorem dL_law_930 : decode cL_law 930 = .ok (.iload_n 3, 1) := by decide +kernel
theorem dL_law_931 : decode cL_law 931 = .ok (.iconst 4, 1) := by decide +kernel
theorem dL_law_932 : decode cL_law 932 = .ok (.iadd, 1) := by decide +kernel
theorem dL_law_933 : decode cL_law 933 = .ok (.iaload, 1) := by decide +kernel
theorem dL_law_934 : decode cL_law 934 = .ok (.aload_n 0, 1) := by decide +kernel
theorem dL_law_935 : decode cL_law 935 = .ok (.iload_n 3, 1) := by decide +kernel
theorem dL_law_936 : decode cL_law 936 = .ok (.iconst 5, 1) := by decide +kernel
theorem dL_law_937 : decode cL_law 937 = .ok (.iadd, 1) := by decide +kernel
theorem dL_law_938 : decode cL_law 938 = .ok (.iaload, 1) := by decide +kernel
theorem dL_law_939 : decode cL_law 939 = .ok (.invokevirtual 112, 3) := by decide +kernel
theorem dL_law_942 : decode cL_law 942 = .ok (.aload_n 2, 1) := by decide +kernel
theorem dL_law_943 : decode cL_law 943 = .ok (.aload_n 0, 1) := by decide +kernel
theorem dL_law_944 : decode cL_law 944 = .ok (.iload_n 3, 1) := by decide +kernel
theorem dL_law_945 : decode cL_law 945 = .ok (.iconst 1, 1) := by decide +kernel
theorem dL_law_946 : decode cL_law 946 = .ok (.iadd, 1) := by decide +kernel
theorem dL_law_947 : decode cL_law 947 = .ok (.iaload, 1) := by decide +kernel
theorem dL_law_948 : decode cL_law 948 = .ok (.aload_n 0, 1) := by decide +kernel
theorem dL_law_949 : decode cL_law 949 = .ok (.iload_n 3, 1) := by decide +kernel
theorem dL_law_950 : decode cL_law 950 = .ok (.iconst 2, 1) := by decide +kernel
theorem dL_law_951 : decode cL_law 951 = .ok (.iadd, 1) := by decide +kernel
theorem dL_law_952 : decode cL_law 952 = .ok (.iaload, 1) := by decide +kernel
theorem dL_law_953 : decode cL_law 953 = .ok (.aload_n 0, 1) := by decide +kernel
theorem dL_law_954 : decode cL_law 954 = .ok (.iload_n 3, 1) := by decide +kernel
theorem dL_law_955 : decode cL_law 955 = .ok (.iconst 3, 1) := by decide +kernel
theorem dL_law_956 : decode cL_law 956 = .ok (.iadd, 1) := by decide +kernel
theorem dL_law_957 : decode cL_law 957 = .ok (.iaload, 1) := by decide +kernel
theorem dL_law_958 : decode cL_law 958 = .ok (.aload_n 0, 1) := by decide +kernel
theorem dL_law_959 : decode cL_law 959 = .ok (.iload_n 3, 1) := by decide +kernel
theorem dL_law_960 : decode cL_law 960 = .ok (.iconst 4, 1) := by decide +kernel
theorem dL_law_961 : decode cL_law 961 = .ok (.iadd, 1) := by decide +kernel
theorem dL_law_962 : decode cL_law 962 = .ok (.iaload, 1) := by decide +kernel
theorem dL_law_963 : decode cL_law 963 = .ok (.aload_n 0, 1) := by decide +kernel
theorem dL_law_964 : decode cL_law 964 = .ok (.iload_n 3, 1) := by decide +kernel
theorem dL_law_965 : decode cL_law 965 = .ok (.iconst 5, 1) := by decide +kernel
theorem dL_law_966 : decode cL_law 966 = .ok (.iadd, 1) := by decide +kernel
theorem dL_law_967 : decode cL_law 967 = .ok (.iaload, 1) := by decide +kernel
theorem dL_law_968 : decode cL_law 968 = .ok (.invokevirtual 116, 3) := by decide +kernel
theorem dL_law_971 : decode cL_law 971 = .ok (.if_icmp .eq 91, 3) := by decide +kernel
theorem dL_law_974 : decode cL_law 974 = .ok (.iconst 0, 1) := by decide +kernel
theorem dL_law_975 : decode cL_law 975 = .ok (.ireturn, 1) := by decide +kernel
theorem dL_law_976 : decode cL_law 976 = .ok (.aload_n 1, 1) := by decide +kernel
theorem dL_law_977 : decode cL_law 977 = .ok (.aload_n 0, 1) := by decide +kernel
theorem dL_law_978 : decode cL_law 978 = .ok (.iload_n 3, 1) := by decide +kernel
theorem dL_law_979 : decode cL_law 979 = .ok (.iconst 1, 1) := by decide +kernel
theorem dL_law_980 : decode cL_law 980 = .ok (.iadd, 1) := by decide +kernel
theorem dL_law_981 : decode cL_law 981 = .ok (.iaload, 1) := by decide +kernel
theorem dL_law_982 : decode cL_law 982 = .ok (.aload_n 0, 1) := by decide +kernel
theorem dL_law_983 : decode cL_law 983 = .ok (.iload_n 3, 1) := by decide +kernel
theorem dL_law_984 : decode cL_law 984 = .ok (.iconst 2, 1) := by decide +kernel
theorem dL_law_985 : decode cL_law 985 = .ok (.iadd, 1) := by decide +kernel
theorem dL_law_986 : decode cL_law 986 = .ok (.iaload, 1) := by decide +kernel
theorem dL_law_987 : decode cL_law 987 = .ok (.aload_n 0, 1) := by decide +kernel
theorem dL_law_988 : decode cL_law 988 = .ok (.iload_n 3, 1) := by decide +kernel
theorem dL_law_989 : decode cL_law 989 = .ok (.iconst 3, 1) := by decide +kernel
theorem dL_law_990 : decode cL_law 990 = .ok (.iadd, 1) := by decide +kernel
theorem dL_law_991 : decode cL_law 991 = .ok (.iaload, 1) := by decide +kernel
theorem dL_law_992 : decode cL_law 992 = .ok (.aload_n 0, 1) := by decide +kernel
theorem dL_law_993 : decode cL_law 993 = .ok (.iload_n 3, 1) := by decide +kernel
theorem dL_law_994 : decode cL_law 994 = .ok (.iconst 4, 1) := by decide +kernel
theorem dL_law_995 : decode cL_law 995 = .ok (.iadd, 1) := by decide +kernel
theorem dL_law_996 : decode cL_law 996 = .ok (.iaload, 1) := by decide +kernel
theorem dL_law_997 : decode cL_law 997 = .ok (.invokevirtual 117, 3) := by decide +kernel
theorem dL_law_1000 : decode cL_law 1000 = .ok (.aload_n 2, 1) := by decide +kernel
theorem dL_law_1001 : decode cL_law 1001 = .ok (.aload_n 0, 1) := by decide +kernel
theorem dL_law_1002 : decode cL_law 1002 = .ok (.iload_n 3, 1) := by decide +kernel
theorem dL_law_1003 : decode cL_law 1003 = .ok (.iconst 1, 1) := by decide +kernel
theorem dL_law_1004 : decode cL_law 1004 = .ok (.iadd, 1) := by decide +kernel
theorem dL_law_1005 : decode cL_law 1005 = .ok (.iaload, 1) := by decide +kernel
theorem dL_law_1006 : decode cL_law 1006 = .ok (.aload_n 0, 1) := by decide +kernel
theorem dL_law_1007 : decode cL_law 1007 = .ok (.iload_n 3, 1) := by decide +kernel
theorem dL_law_1008 : decode cL_law 1008 = .ok (.iconst 2, 1) := by decide +kernel
theorem dL_law_1009 : decode cL_law 1009 = .ok (.iadd, 1) := by decide +kernel
theorem dL_law_1010 : decode cL_law 1010 = .ok (.iaload, 1) := by decide +kernel
theorem dL_law_1011 : decode cL_law 1011 = .ok (.aload_n 0, 1) := by decide +kernel
theorem dL_law_1012 : decode cL_law 1012 = .ok (.iload_n 3, 1) := by decide +kernel
theorem dL_law_1013 : decode cL_law 1013 = .ok (.iconst 3, 1) := by decide +kernel
theorem dL_law_1014 : decode cL_law 1014 = .ok (.iadd, 1) := by decide +kernel
theorem dL_law_1015 : decode cL_law 1015 = .ok (.iaload, 1) := by decide +kernel
theorem dL_law_1016 : decode cL_law 1016 = .ok (.aload_n 0, 1) := by decide +kernel
theorem dL_law_1017 : decode cL_law 1017 = .ok (.iload_n 3, 1) := by decide +kernel
theorem dL_law_1018 : decode cL_law 1018 = .ok (.iconst 4, 1) := by decide +kernel
theorem dL_law_1019 : decode cL_law 1019 = .ok (.iadd, 1) := by decide +kernel
theorem dL_law_1020 : decode cL_law 1020 = .ok (.iaload, 1) := by decide +kernel
theorem dL_law_1021 : decode cL_law 1021 = .ok (.invokevirtual 120, 3) := by decide +kernel
theorem dL_law_1024 : decode cL_law 1024 = .ok (.if_icmp .eq 38, 3) := by decide +kernel
theorem dL_law_1027 : decode cL_law 1027 = .ok (.iconst 0, 1) := by decide +kernel
theorem dL_law_1028 : decode cL_law 1028 = .ok (.ireturn, 1) := by decide +kernel
theorem dL_law_1029 : decode cL_law 1029 = .ok (.aload_n 1, 1) := by decide +kernel
theorem dL_law_1030 : decode cL_law 1030 = .ok (.aload_n 0, 1) := by decide +kernel
theorem dL_law_1031 : decode cL_law 1031 = .ok (.iload_n 3, 1) := by decide +kernel
theorem dL_law_1032 : decode cL_law 1032 = .ok (.iconst 1, 1) := by decide +kernel
theorem dL_law_1033 : decode cL_law 1033 = .ok (.iadd, 1) := by decide +kernel
theorem dL_law_1034 : decode cL_law 1034 = .ok (.iaload, 1) := by decide +kernel
theorem dL_law_1035 : decode cL_law 1035 = .ok (.aload_n 0, 1) := by decide +kernel
theorem dL_law_1036 : decode cL_law 1036 = .ok (.iload_n 3, 1) := by decide +kernel
theorem dL_law_1037 : decode cL_law 1037 = .ok (.iconst 2, 1) := by decide +kernel
theorem dL_law_1038 : decode cL_law 1038 = .ok (.iadd, 1) := by decide +kernel
theorem dL_law_1039 : decode cL_law 1039 = .ok (.iaload, 1) := by decide +kernel
theorem dL_law_1040 : decode cL_law 1040 = .ok (.invokevirtual 121, 3) := by decide +kernel
theorem dL_law_1043 : decode cL_law 1043 = .ok (.aload_n 2, 1) := by decide +kernel
theorem dL_law_1044 : decode cL_law 1044 = .ok (.aload_n 0, 1) := by decide +kernel
theorem dL_law_1045 : decode cL_law 1045 = .ok (.iload_n 3, 1) := by decide +kernel
theorem dL_law_1046 : decode cL_law 1046 = .ok (.iconst 1, 1) := by decide +kernel
theorem dL_law_1047 : decode cL_law 1047 = .ok (.iadd, 1) := by decide +kernel
theorem dL_law_1048 : decode cL_law 1048 = .ok (.iaload, 1) := by decide +kernel
theorem dL_law_1049 : decode cL_law 1049 = .ok (.aload_n 0, 1) := by decide +kernel
theorem dL_law_1050 : decode cL_law 1050 = .ok (.iload_n 3, 1) := by decide +kernel
theorem dL_law_1051 : decode cL_law 1051 = .ok (.iconst 2, 1) := by decide +kernel
theorem dL_law_1052 : decode cL_law 1052 = .ok (.iadd, 1) := by decide +kernel
theorem dL_law_1053 : decode cL_law 1053 = .ok (.iaload, 1) := by decide +kernel
theorem dL_law_1054 : decode cL_law 1054 = .ok (.invokevirtual 124, 3) := by decide +kernel
theorem dL_law_1057 : decode cL_law 1057 = .ok (.if_icmp .eq 5, 3) := by decide +kernel
theorem dL_law_1060 : decode cL_law 1060 = .ok (.iconst 0, 1) := by decide +kernel
theorem dL_law_1061 : decode cL_law 1061 = .ok (.ireturn, 1) := by decide +kernel
theorem dL_law_1062 : decode cL_law 1062 = .ok (.iinc 3 6, 3) := by decide +kernel
theorem dL_law_1065 : decode cL_law 1065 = .ok (.goto (-1047), 3) := by decide +kernel
theorem dL_law_1068 : decode cL_law 1068 = .ok (.iconst 1, 1) := by decide +kernel
theorem dL_law_1069 : decode cL_law 1069 = .ok (.ireturn, 1) := by decide +kernel
