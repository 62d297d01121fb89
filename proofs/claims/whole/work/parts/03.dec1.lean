theorem dX6_painter_0 : decode cX6_painter 0 = .ok (.iload_n 1, 1) := by decide +kernel
theorem dX6_painter_1 : decode cX6_painter 1 = .ok (.invokestatic 107, 3) := by decide +kernel
theorem dX6_painter_4 : decode cX6_painter 4 = .ok (.ifCond .eq 24, 3) := by decide +kernel
theorem dX6_painter_7 : decode cX6_painter 7 = .ok (.iload_n 2, 1) := by decide +kernel
theorem dX6_painter_8 : decode cX6_painter 8 = .ok (.ifCond .lt 20, 3) := by decide +kernel
theorem dX6_painter_11 : decode cX6_painter 11 = .ok (.iload_n 2, 1) := by decide +kernel
theorem dX6_painter_12 : decode cX6_painter 12 = .ok (.bipush 10, 2) := by decide +kernel
theorem dX6_painter_14 : decode cX6_painter 14 = .ok (.if_icmp .ge 14, 3) := by decide +kernel
theorem dX6_painter_17 : decode cX6_painter 17 = .ok (.aload_n 0, 1) := by decide +kernel
theorem dX6_painter_18 : decode cX6_painter 18 = .ok (.getfield 12, 3) := by decide +kernel
theorem dX6_painter_21 : decode cX6_painter 21 = .ok (.iload_n 3, 1) := by decide +kernel
theorem dX6_painter_22 : decode cX6_painter 22 = .ok (.invokevirtual 110, 3) := by decide +kernel
theorem dX6_painter_25 : decode cX6_painter 25 = .ok (.ifCond .ne 6, 3) := by decide +kernel
theorem dX6_painter_28 : decode cX6_painter 28 = .ok (.bipush (-2), 2) := by decide +kernel
theorem dX6_painter_30 : decode cX6_painter 30 = .ok (.ireturn, 1) := by decide +kernel
theorem dX6_painter_31 : decode cX6_painter 31 = .ok (.aload_n 0, 1) := by decide +kernel
theorem dX6_painter_32 : decode cX6_painter 32 = .ok (.getfield 12, 3) := by decide +kernel
theorem dX6_painter_35 : decode cX6_painter 35 = .ok (.getfield 113, 3) := by decide +kernel
theorem dX6_painter_38 : decode cX6_painter 38 = .ok (.bipush 6, 2) := by decide +kernel
theorem dX6_painter_40 : decode cX6_painter 40 = .ok (.if_icmp .lt 6, 3) := by decide +kernel
theorem dX6_painter_43 : decode cX6_painter 43 = .ok (.bipush (-4), 2) := by decide +kernel
theorem dX6_painter_45 : decode cX6_painter 45 = .ok (.ireturn, 1) := by decide +kernel
theorem dX6_painter_46 : decode cX6_painter 46 = .ok (.aload_n 0, 1) := by decide +kernel
theorem dX6_painter_47 : decode cX6_painter 47 = .ok (.getfield 12, 3) := by decide +kernel
theorem dX6_painter_50 : decode cX6_painter 50 = .ok (.iload_n 1, 1) := by decide +kernel
theorem dX6_painter_51 : decode cX6_painter 51 = .ok (.iload_n 2, 1) := by decide +kernel
theorem dX6_painter_52 : decode cX6_painter 52 = .ok (.iload_n 3, 1) := by decide +kernel
theorem dX6_painter_53 : decode cX6_painter 53 = .ok (.invokevirtual 116, 3) := by decide +kernel
theorem dX6_painter_56 : decode cX6_painter 56 = .ok (.aload_n 0, 1) := by decide +kernel
theorem dX6_painter_57 : decode cX6_painter 57 = .ok (.getfield 12, 3) := by decide +kernel
theorem dX6_painter_60 : decode cX6_painter 60 = .ok (.getfield 113, 3) := by decide +kernel
theorem dX6_painter_63 : decode cX6_painter 63 = .ok (.iconst 1, 1) := by decide +kernel
theorem dX6_painter_64 : decode cX6_painter 64 = .ok (.isub, 1) := by decide +kernel
theorem dX6_painter_65 : decode cX6_painter 65 = .ok (.ireturn, 1) := by decide +kernel
theorem dX6_told_0 : decode cX6_told 0 = .ok (.iload_n 2, 1) := by decide +kernel
theorem dX6_told_1 : decode cX6_told 1 = .ok (.ifCond .lt 18, 3) := by decide +kernel
theorem dX6_told_4 : decode cX6_told 4 = .ok (.iload_n 2, 1) := by decide +kernel
theorem dX6_told_5 : decode cX6_told 5 = .ok (.iconst 3, 1) := by decide +kernel
theorem dX6_told_6 : decode cX6_told 6 = .ok (.if_icmp .gt 13, 3) := by decide +kernel
theorem dX6_told_9 : decode cX6_told 9 = .ok (.aload_n 0, 1) := by decide +kernel
theorem dX6_told_10 : decode cX6_told 10 = .ok (.getfield 12, 3) := by decide +kernel
theorem dX6_told_13 : decode cX6_told 13 = .ok (.iload_n 1, 1) := by decide +kernel
theorem dX6_told_14 : decode cX6_told 14 = .ok (.iload_n 2, 1) := by decide +kernel
theorem dX6_told_15 : decode cX6_told 15 = .ok (.invokevirtual 88, 3) := by decide +kernel
theorem dX6_told_18 : decode cX6_told 18 = .ok (.ireturn, 1) := by decide +kernel
theorem dX6_told_19 : decode cX6_told 19 = .ok (.iload_n 2, 1) := by decide +kernel
theorem dX6_told_20 : decode cX6_told 20 = .ok (.ifCond .lt 20, 3) := by decide +kernel
theorem dX6_told_23 : decode cX6_told 23 = .ok (.iload_n 2, 1) := by decide +kernel
theorem dX6_told_24 : decode cX6_told 24 = .ok (.bipush 14, 2) := by decide +kernel
theorem dX6_told_26 : decode cX6_told 26 = .ok (.if_icmp .gt 14, 3) := by decide +kernel
theorem dX6_told_29 : decode cX6_told 29 = .ok (.aload_n 0, 1) := by decide +kernel
theorem dX6_told_30 : decode cX6_told 30 = .ok (.getfield 12, 3) := by decide +kernel
theorem dX6_told_33 : decode cX6_told 33 = .ok (.iload_n 1, 1) := by decide +kernel
theorem dX6_told_34 : decode cX6_told 34 = .ok (.invokevirtual 100, 3) := by decide +kernel
theorem dX6_told_37 : decode cX6_told 37 = .ok (.ifCond .ne 6, 3) := by decide +kernel
theorem dX6_told_40 : decode cX6_told 40 = .ok (.ldc 119, 2) := by decide +kernel
theorem dX6_told_42 : decode cX6_told 42 = .ok (.ireturn, 1) := by decide +kernel
theorem dX6_told_43 : decode cX6_told 43 = .ok (.iload_n 2, 1) := by decide +kernel
theorem dX6_told_44 : decode cX6_told 44 = .ok (.bipush 9, 2) := by decide +kernel
theorem dX6_told_46 : decode cX6_told 46 = .ok (.if_icmp .gt 15, 3) := by decide +kernel
theorem dX6_told_49 : decode cX6_told 49 = .ok (.aload_n 0, 1) := by decide +kernel
theorem dX6_told_50 : decode cX6_told 50 = .ok (.getfield 12, 3) := by decide +kernel
theorem dX6_told_53 : decode cX6_told 53 = .ok (.iload_n 1, 1) := by decide +kernel
theorem dX6_told_54 : decode cX6_told 54 = .ok (.iload_n 2, 1) := by decide +kernel
theorem dX6_told_55 : decode cX6_told 55 = .ok (.invokevirtual 88, 3) := by decide +kernel
theorem dX6_told_58 : decode cX6_told 58 = .ok (.goto 9, 3) := by decide +kernel
theorem dX6_told_61 : decode cX6_told 61 = .ok (.aload_n 0, 1) := by decide +kernel
theorem dX6_told_62 : decode cX6_told 62 = .ok (.iload_n 1, 1) := by decide +kernel
theorem dX6_told_63 : decode cX6_told 63 = .ok (.iload_n 2, 1) := by decide +kernel
theorem dX6_told_64 : decode cX6_told 64 = .ok (.invokevirtual 120, 3) := by decide +kernel
theorem dX6_told_67 : decode cX6_told 67 = .ok (.ireturn, 1) := by decide +kernel
theorem dX6_toldSeen_0 : decode cX6_toldSeen 0 = .ok (.aload_n 0, 1) := by decide +kernel
theorem dX6_toldSeen_1 : decode cX6_toldSeen 1 = .ok (.getfield 46, 3) := by decide +kernel
theorem dX6_toldSeen_4 : decode cX6_toldSeen 4 = .ok (.aload_n 0, 1) := by decide +kernel
theorem dX6_toldSeen_5 : decode cX6_toldSeen 5 = .ok (.getfield 12, 3) := by decide +kernel
theorem dX6_toldSeen_8 : decode cX6_toldSeen 8 = .ok (.iload_n 1, 1) := by decide +kernel
theorem dX6_toldSeen_9 : decode cX6_toldSeen 9 = .ok (.aload_n 0, 1) := by decide +kernel
theorem dX6_toldSeen_10 : decode cX6_toldSeen 10 = .ok (.getfield 35, 3) := by decide +kernel
theorem dX6_toldSeen_13 : decode cX6_toldSeen 13 = .ok (.invokevirtual 123, 3) := by decide +kernel
theorem dX6_toldSeen_16 : decode cX6_toldSeen 16 = .ok (.aload_n 0, 1) := by decide +kernel
theorem dX6_toldSeen_17 : decode cX6_toldSeen 17 = .ok (.getfield 12, 3) := by decide +kernel
theorem dX6_toldSeen_20 : decode cX6_toldSeen 20 = .ok (.getfield 127, 3) := by decide +kernel
theorem dX6_toldSeen_23 : decode cX6_toldSeen 23 = .ok (.iload_n 1, 1) := by decide +kernel
theorem dX6_toldSeen_24 : decode cX6_toldSeen 24 = .ok (.iaload, 1) := by decide +kernel
theorem dX6_toldSeen_25 : decode cX6_toldSeen 25 = .ok (.istore_n 3, 1) := by decide +kernel
theorem dX6_toldSeen_26 : decode cX6_toldSeen 26 = .ok (.iload_n 2, 1) := by decide +kernel
theorem dX6_toldSeen_27 : decode cX6_toldSeen 27 = .ok (.tableswitch 66 10 13 #[29, 38, 47, 56], 29) := by decide +kernel
theorem dX6_toldSeen_56 : decode cX6_toldSeen 56 = .ok (.aload_n 0, 1) := by decide +kernel
theorem dX6_toldSeen_57 : decode cX6_toldSeen 57 = .ok (.getfield 46, 3) := by decide +kernel
theorem dX6_toldSeen_60 : decode cX6_toldSeen 60 = .ok (.iload_n 3, 1) := by decide +kernel
theorem dX6_toldSeen_61 : decode cX6_toldSeen 61 = .ok (.invokevirtual 131, 3) := by decide +kernel
theorem dX6_toldSeen_64 : decode cX6_toldSeen 64 = .ok (.ireturn, 1) := by decide +kernel
theorem dX6_toldSeen_65 : decode cX6_toldSeen 65 = .ok (.aload_n 0, 1) := by decide +kernel
theorem dX6_toldSeen_66 : decode cX6_toldSeen 66 = .ok (.getfield 46, 3) := by decide +kernel
theorem dX6_toldSeen_69 : decode cX6_toldSeen 69 = .ok (.iload_n 3, 1) := by decide +kernel
theorem dX6_toldSeen_70 : decode cX6_toldSeen 70 = .ok (.invokevirtual 135, 3) := by decide +kernel
theorem dX6_toldSeen_73 : decode cX6_toldSeen 73 = .ok (.ireturn, 1) := by decide +kernel
theorem dX6_toldSeen_74 : decode cX6_toldSeen 74 = .ok (.aload_n 0, 1) := by decide +kernel
theorem dX6_toldSeen_75 : decode cX6_toldSeen 75 = .ok (.getfield 46, 3) := by decide +kernel
theorem dX6_toldSeen_78 : decode cX6_toldSeen 78 = .ok (.iload_n 3, 1) := by decide +kernel
theorem dX6_toldSeen_79 : decode cX6_toldSeen 79 = .ok (.invokevirtual 138, 3) := by decide +kernel
theorem dX6_toldSeen_82 : decode cX6_toldSeen 82 = .ok (.ireturn, 1) := by decide +kernel
theorem dX6_toldSeen_83 : decode cX6_toldSeen 83 = .ok (.aload_n 0, 1) := by decide +kernel
theorem dX6_toldSeen_84 : decode cX6_toldSeen 84 = .ok (.aload_n 0, 1) := by decide +kernel
theorem dX6_toldSeen_85 : decode cX6_toldSeen 85 = .ok (.getfield 12, 3) := by decide +kernel
theorem dX6_toldSeen_88 : decode cX6_toldSeen 88 = .ok (.iload_n 1, 1) := by decide +kernel
theorem dX6_toldSeen_89 : decode cX6_toldSeen 89 = .ok (.invokevirtual 141, 3) := by decide +kernel
theorem dX6_toldSeen_92 : decode cX6_toldSeen 92 = .ok (.ireturn, 1) := by decide +kernel
theorem dX6_toldSeen_93 : decode cX6_toldSeen 93 = .ok (.aload_n 0, 1) := by decide +kernel
theorem dX6_toldSeen_94 : decode cX6_toldSeen 94 = .ok (.getfield 46, 3) := by decide +kernel
theorem dX6_toldSeen_97 : decode cX6_toldSeen 97 = .ok (.getfield 145, 3) := by decide +kernel
theorem dX6_toldSeen_100 : decode cX6_toldSeen 100 = .ok (.iconst 5, 1) := by decide +kernel
theorem dX6_toldSeen_101 : decode cX6_toldSeen 101 = .ok (.iaload, 1) := by decide +kernel
theorem dX6_toldSeen_102 : decode cX6_toldSeen 102 = .ok (.ireturn, 1) := by decide +kernel
theorem dX6_feed_0 : decode cX6_feed 0 = .ok (.iload_n 1, 1) := by decide +kernel
theorem dX6_feed_1 : decode cX6_feed 1 = .ok (.ifCond .lt 10, 3) := by decide +kernel
theorem dX6_feed_4 : decode cX6_feed 4 = .ok (.iload_n 1, 1) := by decide +kernel
theorem dX6_feed_5 : decode cX6_feed 5 = .ok (.sipush 255, 3) := by decide +kernel
theorem dX6_feed_8 : decode cX6_feed 8 = .ok (.if_icmp .le 6, 3) := by decide +kernel
theorem dX6_feed_11 : decode cX6_feed 11 = .ok (.bipush (-2), 2) := by decide +kernel
theorem dX6_feed_13 : decode cX6_feed 13 = .ok (.ireturn, 1) := by decide +kernel
theorem dX6_feed_14 : decode cX6_feed 14 = .ok (.aload_n 0, 1) := by decide +kernel
theorem dX6_feed_15 : decode cX6_feed 15 = .ok (.getfield 29, 3) := by decide +kernel
theorem dX6_feed_18 : decode cX6_feed 18 = .ok (.getfield 148, 3) := by decide +kernel
theorem dX6_feed_21 : decode cX6_feed 21 = .ok (.sipush 160, 3) := by decide +kernel
theorem dX6_feed_24 : decode cX6_feed 24 = .ok (.if_icmp .lt 6, 3) := by decide +kernel
theorem dX6_feed_27 : decode cX6_feed 27 = .ok (.bipush (-4), 2) := by decide +kernel
theorem dX6_feed_29 : decode cX6_feed 29 = .ok (.ireturn, 1) := by decide +kernel
theorem dX6_feed_30 : decode cX6_feed 30 = .ok (.aload_n 0, 1) := by decide +kernel
theorem dX6_feed_31 : decode cX6_feed 31 = .ok (.getfield 29, 3) := by decide +kernel
theorem dX6_feed_34 : decode cX6_feed 34 = .ok (.iload_n 1, 1) := by decide +kernel
theorem dX6_feed_35 : decode cX6_feed 35 = .ok (.invokevirtual 76, 3) := by decide +kernel
theorem dX6_feed_38 : decode cX6_feed 38 = .ok (.aload_n 0, 1) := by decide +kernel
theorem dX6_feed_39 : decode cX6_feed 39 = .ok (.getfield 29, 3) := by decide +kernel
theorem dX6_feed_42 : decode cX6_feed 42 = .ok (.getfield 148, 3) := by decide +kernel
theorem dX6_feed_45 : decode cX6_feed 45 = .ok (.ireturn, 1) := by decide +kernel
theorem dX6_text_0 : decode cX6_text 0 = .ok (.aload_n 0, 1) := by decide +kernel
theorem dX6_text_1 : decode cX6_text 1 = .ok (.getfield 39, 3) := by decide +kernel
theorem dX6_text_4 : decode cX6_text 4 = .ok (.bipush 6, 2) := by decide +kernel
theorem dX6_text_6 : decode cX6_text 6 = .ok (.if_icmp .lt 6, 3) := by decide +kernel
theorem dX6_text_9 : decode cX6_text 9 = .ok (.bipush (-4), 2) := by decide +kernel
theorem dX6_text_11 : decode cX6_text 11 = .ok (.ireturn, 1) := by decide +kernel
theorem dX6_text_12 : decode cX6_text 12 = .ok (.aload_n 0, 1) := by decide +kernel
theorem dX6_text_13 : decode cX6_text 13 = .ok (.getfield 29, 3) := by decide +kernel
theorem dX6_text_16 : decode cX6_text 16 = .ok (.invokevirtual 80, 3) := by decide +kernel
theorem dX6_text_19 : decode cX6_text 19 = .ok (.astore_n 1, 1) := by decide +kernel
theorem dX6_text_20 : decode cX6_text 20 = .ok (.aload_n 1, 1) := by decide +kernel
theorem dX6_text_21 : decode cX6_text 21 = .ok (.ifnonnull 14, 3) := by decide +kernel
theorem dX6_text_24 : decode cX6_text 24 = .ok (.bipush (-100), 2) := by decide +kernel
theorem dX6_text_26 : decode cX6_text 26 = .ok (.aload_n 0, 1) := by decide +kernel
theorem dX6_text_27 : decode cX6_text 27 = .ok (.getfield 29, 3) := by decide +kernel
theorem dX6_text_30 : decode cX6_text 30 = .ok (.getfield 151, 3) := by decide +kernel
theorem dX6_text_33 : decode cX6_text 33 = .ok (.isub, 1) := by decide +kernel
theorem dX6_text_34 : decode cX6_text 34 = .ok (.ireturn, 1) := by decide +kernel
theorem dX6_text_35 : decode cX6_text 35 = .ok (.aload_n 0, 1) := by decide +kernel
theorem dX6_text_36 : decode cX6_text 36 = .ok (.getfield 35, 3) := by decide +kernel
theorem dX6_text_39 : decode cX6_text 39 = .ok (.aload_n 0, 1) := by decide +kernel
theorem dX6_text_40 : decode cX6_text 40 = .ok (.getfield 39, 3) := by decide +kernel
theorem dX6_text_43 : decode cX6_text 43 = .ok (.aload_n 1, 1) := by decide +kernel
theorem dX6_text_44 : decode cX6_text 44 = .ok (.aastore, 1) := by decide +kernel
theorem dX6_text_45 : decode cX6_text 45 = .ok (.aload_n 0, 1) := by decide +kernel
theorem dX6_text_46 : decode cX6_text 46 = .ok (.dup, 1) := by decide +kernel
theorem dX6_text_47 : decode cX6_text 47 = .ok (.getfield 39, 3) := by decide +kernel
theorem dX6_text_50 : decode cX6_text 50 = .ok (.iconst 1, 1) := by decide +kernel
theorem dX6_text_51 : decode cX6_text 51 = .ok (.iadd, 1) := by decide +kernel
theorem dX6_text_52 : decode cX6_text 52 = .ok (.putfield 39, 3) := by decide +kernel
theorem dX6_text_55 : decode cX6_text 55 = .ok (.aload_n 0, 1) := by decide +kernel
theorem dX6_text_56 : decode cX6_text 56 = .ok (.getfield 39, 3) := by decide +kernel
theorem dX6_text_59 : decode cX6_text 59 = .ok (.iconst 1, 1) := by decide +kernel
theorem dX6_text_60 : decode cX6_text 60 = .ok (.isub, 1) := by decide +kernel
theorem dX6_text_61 : decode cX6_text 61 = .ok (.ireturn, 1) := by decide +kernel
theorem dX6_force_0 : decode cX6_force 0 = .ok (.iload_n 1, 1) := by decide +kernel
theorem dX6_force_1 : decode cX6_force 1 = .ok (.ifCond .lt 11, 3) := by decide +kernel
theorem dX6_force_4 : decode cX6_force 4 = .ok (.iload_n 1, 1) := by decide +kernel
theorem dX6_force_5 : decode cX6_force 5 = .ok (.aload_n 0, 1) := by decide +kernel
theorem dX6_force_6 : decode cX6_force 6 = .ok (.getfield 39, 3) := by decide +kernel
theorem dX6_force_9 : decode cX6_force 9 = .ok (.if_icmp .lt 6, 3) := by decide +kernel
theorem dX6_force_12 : decode cX6_force 12 = .ok (.bipush (-2), 2) := by decide +kernel
theorem dX6_force_14 : decode cX6_force 14 = .ok (.ireturn, 1) := by decide +kernel
theorem dX6_force_15 : decode cX6_force 15 = .ok (.aload_n 0, 1) := by decide +kernel
theorem dX6_force_16 : decode cX6_force 16 = .ok (.getfield 12, 3) := by decide +kernel
theorem dX6_force_19 : decode cX6_force 19 = .ok (.getfield 154, 3) := by decide +kernel
theorem dX6_force_22 : decode cX6_force 22 = .ok (.istore_n 2, 1) := by decide +kernel
theorem dX6_force_23 : decode cX6_force 23 = .ok (.aload_n 0, 1) := by decide +kernel
theorem dX6_force_24 : decode cX6_force 24 = .ok (.getfield 12, 3) := by decide +kernel
theorem dX6_force_27 : decode cX6_force 27 = .ok (.iload_n 1, 1) := by decide +kernel
theorem dX6_force_28 : decode cX6_force 28 = .ok (.putfield 154, 3) := by decide +kernel
theorem dX6_force_31 : decode cX6_force 31 = .ok (.iload_n 2, 1) := by decide +kernel
theorem dX6_force_32 : decode cX6_force 32 = .ok (.ireturn, 1) := by decide +kernel
theorem dX6_pose_0 : decode cX6_pose 0 = .ok (.iload_n 1, 1) := by decide +kernel
theorem dX6_pose_1 : decode cX6_pose 1 = .ok (.invokestatic 157, 3) := by decide +kernel
theorem dX6_pose_4 : decode cX6_pose 4 = .ok (.ifCond .eq 16, 3) := by decide +kernel
theorem dX6_pose_7 : decode cX6_pose 7 = .ok (.aload_n 0, 1) := by decide +kernel
theorem dX6_pose_8 : decode cX6_pose 8 = .ok (.getfield 12, 3) := by decide +kernel
theorem dX6_pose_11 : decode cX6_pose 11 = .ok (.getfield 160, 3) := by decide +kernel
theorem dX6_pose_14 : decode cX6_pose 14 = .ok (.sipush 999, 3) := by decide +kernel
theorem dX6_pose_17 : decode cX6_pose 17 = .ok (.if_icmp .lt 6, 3) := by decide +kernel
theorem dX6_pose_20 : decode cX6_pose 20 = .ok (.ldc 119, 2) := by decide +kernel
theorem dX6_pose_22 : decode cX6_pose 22 = .ok (.ireturn, 1) := by decide +kernel
theorem dX6_pose_23 : decode cX6_pose 23 = .ok (.aload_n 0, 1) := by decide +kernel
theorem dX6_pose_24 : decode cX6_pose 24 = .ok (.aload_n 0, 1) := by decide +kernel
theorem dX6_pose_25 : decode cX6_pose 25 = .ok (.getfield 12, 3) := by decide +kernel
theorem dX6_pose_28 : decode cX6_pose 28 = .ok (.invokevirtual 163, 3) := by decide +kernel
theorem dX6_pose_31 : decode cX6_pose 31 = .ok (.istore_n 2, 1) := by decide +kernel
theorem dX6_pose_32 : decode cX6_pose 32 = .ok (.aload_n 0, 1) := by decide +kernel
theorem dX6_pose_33 : decode cX6_pose 33 = .ok (.aload_n 0, 1) := by decide +kernel
theorem dX6_pose_34 : decode cX6_pose 34 = .ok (.getfield 12, 3) := by decide +kernel
theorem dX6_pose_37 : decode cX6_pose 37 = .ok (.iload_n 1, 1) := by decide +kernel
theorem dX6_pose_38 : decode cX6_pose 38 = .ok (.bipush 100, 2) := by decide +kernel
theorem dX6_pose_40 : decode cX6_pose 40 = .ok (.idiv, 1) := by decide +kernel
theorem dX6_pose_41 : decode cX6_pose 41 = .ok (.iload_n 1, 1) := by decide +kernel
theorem dX6_pose_42 : decode cX6_pose 42 = .ok (.bipush 100, 2) := by decide +kernel
theorem dX6_pose_44 : decode cX6_pose 44 = .ok (.irem, 1) := by decide +kernel
theorem dX6_pose_45 : decode cX6_pose 45 = .ok (.invokevirtual 167, 3) := by decide +kernel
theorem dX6_pose_48 : decode cX6_pose 48 = .ok (.iload_n 2, 1) := by decide +kernel
theorem dX6_pose_49 : decode cX6_pose 49 = .ok (.ireturn, 1) := by decide +kernel
theorem dX6_run_0 : decode cX6_run 0 = .ok (.iload_n 1, 1) := by decide +kernel
theorem dX6_run_1 : decode cX6_run 1 = .ok (.invokestatic 171, 3) := by decide +kernel
theorem dX6_run_4 : decode cX6_run 4 = .ok (.ifCond .eq 18, 3) := by decide +kernel
theorem dX6_run_7 : decode cX6_run 7 = .ok (.iload_n 2, 1) := by decide +kernel
theorem dX6_run_8 : decode cX6_run 8 = .ok (.invokestatic 157, 3) := by decide +kernel
theorem dX6_run_11 : decode cX6_run 11 = .ok (.ifCond .eq 11, 3) := by decide +kernel
theorem dX6_run_14 : decode cX6_run 14 = .ok (.aload_n 0, 1) := by decide +kernel
theorem dX6_run_15 : decode cX6_run 15 = .ok (.iload_n 3, 1) := by decide +kernel
theorem dX6_run_16 : decode cX6_run 16 = .ok (.invokevirtual 174, 3) := by decide +kernel
theorem dX6_run_19 : decode cX6_run 19 = .ok (.ifCond .ne 6, 3) := by decide +kernel
theorem dX6_run_22 : decode cX6_run 22 = .ok (.ldc 119, 2) := by decide +kernel
theorem dX6_run_24 : decode cX6_run 24 = .ok (.ireturn, 1) := by decide +kernel
theorem dX6_run_25 : decode cX6_run 25 = .ok (.aload_n 0, 1) := by decide +kernel
theorem dX6_run_26 : decode cX6_run 26 = .ok (.iload_n 1, 1) := by decide +kernel
theorem dX6_run_27 : decode cX6_run 27 = .ok (.iload_n 2, 1) := by decide +kernel
theorem dX6_run_28 : decode cX6_run 28 = .ok (.bipush 100, 2) := by decide +kernel
theorem dX6_run_30 : decode cX6_run 30 = .ok (.idiv, 1) := by decide +kernel
theorem dX6_run_31 : decode cX6_run 31 = .ok (.iload_n 2, 1) := by decide +kernel
theorem dX6_run_32 : decode cX6_run 32 = .ok (.bipush 100, 2) := by decide +kernel
theorem dX6_run_34 : decode cX6_run 34 = .ok (.irem, 1) := by decide +kernel
theorem dX6_run_35 : decode cX6_run 35 = .ok (.invokevirtual 177, 3) := by decide +kernel
theorem dX6_run_38 : decode cX6_run 38 = .ok (.iload_n 3, 1) := by decide +kernel
theorem dX6_run_39 : decode cX6_run 39 = .ok (.tableswitch 61 0 3 #[29, 37, 45, 53], 29) := by decide +kernel
theorem dX6_run_68 : decode cX6_run 68 = .ok (.aload_n 0, 1) := by decide +kernel
theorem dX6_run_69 : decode cX6_run 69 = .ok (.getfield 16, 3) := by decide +kernel
theorem dX6_run_72 : decode cX6_run 72 = .ok (.invokevirtual 180, 3) := by decide +kernel
theorem dX6_run_75 : decode cX6_run 75 = .ok (.ireturn, 1) := by decide +kernel
theorem dX6_run_76 : decode cX6_run 76 = .ok (.aload_n 0, 1) := by decide +kernel
theorem dX6_run_77 : decode cX6_run 77 = .ok (.getfield 16, 3) := by decide +kernel
theorem dX6_run_80 : decode cX6_run 80 = .ok (.invokevirtual 183, 3) := by decide +kernel
theorem dX6_run_83 : decode cX6_run 83 = .ok (.ireturn, 1) := by decide +kernel
theorem dX6_run_84 : decode cX6_run 84 = .ok (.aload_n 0, 1) := by decide +kernel
theorem dX6_run_85 : decode cX6_run 85 = .ok (.getfield 16, 3) := by decide +kernel
theorem dX6_run_88 : decode cX6_run 88 = .ok (.invokevirtual 186, 3) := by decide +kernel
theorem dX6_run_91 : decode cX6_run 91 = .ok (.ireturn, 1) := by decide +kernel
theorem dX6_run_92 : decode cX6_run 92 = .ok (.aload_n 0, 1) := by decide +kernel
theorem dX6_run_93 : decode cX6_run 93 = .ok (.getfield 16, 3) := by decide +kernel
theorem dX6_run_96 : decode cX6_run 96 = .ok (.getfield 189, 3) := by decide +kernel
theorem dX6_run_99 : decode cX6_run 99 = .ok (.ireturn, 1) := by decide +kernel
theorem dX6_run_100 : decode cX6_run 100 = .ok (.iload_n 3, 1) := by decide +kernel
theorem dX6_run_101 : decode cX6_run 101 = .ok (.bipush 20, 2) := by decide +kernel
theorem dX6_run_103 : decode cX6_run 103 = .ok (.if_icmp .ge 18, 3) := by decide +kernel
theorem dX6_run_106 : decode cX6_run 106 = .ok (.aload_n 0, 1) := by decide +kernel
theorem dX6_run_107 : decode cX6_run 107 = .ok (.getfield 16, 3) := by decide +kernel
theorem dX6_run_110 : decode cX6_run 110 = .ok (.getfield 192, 3) := by decide +kernel
theorem dX6_run_113 : decode cX6_run 113 = .ok (.iload_n 3, 1) := by decide +kernel
theorem dX6_run_114 : decode cX6_run 114 = .ok (.bipush 10, 2) := by decide +kernel
theorem dX6_run_116 : decode cX6_run 116 = .ok (.isub, 1) := by decide +kernel
theorem dX6_run_117 : decode cX6_run 117 = .ok (.iaload, 1) := by decide +kernel
theorem dX6_run_118 : decode cX6_run 118 = .ok (.goto 15, 3) := by decide +kernel
theorem dX6_run_121 : decode cX6_run 121 = .ok (.aload_n 0, 1) := by decide +kernel
theorem dX6_run_122 : decode cX6_run 122 = .ok (.getfield 16, 3) := by decide +kernel
theorem dX6_run_125 : decode cX6_run 125 = .ok (.getfield 195, 3) := by decide +kernel
theorem dX6_run_128 : decode cX6_run 128 = .ok (.iload_n 3, 1) := by decide +kernel
theorem dX6_run_129 : decode cX6_run 129 = .ok (.bipush 20, 2) := by decide +kernel
theorem dX6_run_131 : decode cX6_run 131 = .ok (.isub, 1) := by decide +kernel
theorem dX6_run_132 : decode cX6_run 132 = .ok (.iaload, 1) := by decide +kernel
theorem dX6_run_133 : decode cX6_run 133 = .ok (.ireturn, 1) := by decide +kernel
theorem dX6_isRunWhat_0 : decode cX6_isRunWhat 0 = .ok (.iload_n 1, 1) := by decide +kernel
theorem dX6_isRunWhat_1 : decode cX6_isRunWhat 1 = .ok (.bipush 10, 2) := by decide +kernel
theorem dX6_isRunWhat_3 : decode cX6_isRunWhat 3 = .ok (.if_icmp .ge 18, 3) := by decide +kernel
theorem dX6_isRunWhat_6 : decode cX6_isRunWhat 6 = .ok (.iload_n 1, 1) := by decide +kernel
theorem dX6_isRunWhat_7 : decode cX6_isRunWhat 7 = .ok (.ifCond .lt 12, 3) := by decide +kernel
theorem dX6_isRunWhat_10 : decode cX6_isRunWhat 10 = .ok (.iload_n 1, 1) := by decide +kernel
theorem dX6_isRunWhat_11 : decode cX6_isRunWhat 11 = .ok (.iconst 3, 1) := by decide +kernel
theorem dX6_isRunWhat_12 : decode cX6_isRunWhat 12 = .ok (.if_icmp .gt 7, 3) := by decide +kernel
theorem dX6_isRunWhat_15 : decode cX6_isRunWhat 15 = .ok (.iconst 1, 1) := by decide +kernel
theorem dX6_isRunWhat_16 : decode cX6_isRunWhat 16 = .ok (.goto 4, 3) := by decide +kernel
theorem dX6_isRunWhat_19 : decode cX6_isRunWhat 19 = .ok (.iconst 0, 1) := by decide +kernel
theorem dX6_isRunWhat_20 : decode cX6_isRunWhat 20 = .ok (.ireturn, 1) := by decide +kernel
theorem dX6_isRunWhat_21 : decode cX6_isRunWhat 21 = .ok (.iload_n 1, 1) := by decide +kernel
theorem dX6_isRunWhat_22 : decode cX6_isRunWhat 22 = .ok (.bipush 20, 2) := by decide +kernel
theorem dX6_isRunWhat_24 : decode cX6_isRunWhat 24 = .ok (.if_icmp .ge 17, 3) := by decide +kernel
theorem dX6_isRunWhat_27 : decode cX6_isRunWhat 27 = .ok (.aload_n 0, 1) := by decide +kernel
theorem dX6_isRunWhat_28 : decode cX6_isRunWhat 28 = .ok (.getfield 12, 3) := by decide +kernel
theorem dX6_isRunWhat_31 : decode cX6_isRunWhat 31 = .ok (.iload_n 1, 1) := by decide +kernel
theorem dX6_isRunWhat_32 : decode cX6_isRunWhat 32 = .ok (.bipush 10, 2) := by decide +kernel
theorem dX6_isRunWhat_34 : decode cX6_isRunWhat 34 = .ok (.isub, 1) := by decide +kernel
theorem dX6_isRunWhat_35 : decode cX6_isRunWhat 35 = .ok (.invokevirtual 100, 3) := by decide +kernel
theorem dX6_isRunWhat_38 : decode cX6_isRunWhat 38 = .ok (.goto 14, 3) := by decide +kernel
theorem dX6_isRunWhat_41 : decode cX6_isRunWhat 41 = .ok (.aload_n 0, 1) := by decide +kernel
theorem dX6_isRunWhat_42 : decode cX6_isRunWhat 42 = .ok (.getfield 12, 3) := by decide +kernel
theorem dX6_isRunWhat_45 : decode cX6_isRunWhat 45 = .ok (.iload_n 1, 1) := by decide +kernel
theorem dX6_isRunWhat_46 : decode cX6_isRunWhat 46 = .ok (.bipush 20, 2) := by decide +kernel
theorem dX6_isRunWhat_48 : decode cX6_isRunWhat 48 = .ok (.isub, 1) := by decide +kernel
theorem dX6_isRunWhat_49 : decode cX6_isRunWhat 49 = .ok (.invokevirtual 100, 3) := by decide +kernel
theorem dX6_isRunWhat_52 : decode cX6_isRunWhat 52 = .ok (.ireturn, 1) := by decide +kernel
theorem dX6_ring_0 : decode cX6_ring 0 = .ok (.iload_n 1, 1) := by decide +kernel
theorem dX6_ring_1 : decode cX6_ring 1 = .ok (.tableswitch 58 0 3 #[31, 40, 45, 53], 31) := by decide +kernel
theorem dX6_ring_32 : decode cX6_ring 32 = .ok (.aload_n 0, 1) := by decide +kernel
theorem dX6_ring_33 : decode cX6_ring 33 = .ok (.aload_n 0, 1) := by decide +kernel
theorem dX6_ring_34 : decode cX6_ring 34 = .ok (.getfield 12, 3) := by decide +kernel
theorem dX6_ring_37 : decode cX6_ring 37 = .ok (.invokevirtual 163, 3) := by decide +kernel
theorem dX6_ring_40 : decode cX6_ring 40 = .ok (.ireturn, 1) := by decide +kernel
theorem dX6_ring_41 : decode cX6_ring 41 = .ok (.aload_n 0, 1) := by decide +kernel
theorem dX6_ring_42 : decode cX6_ring 42 = .ok (.invokevirtual 198, 3) := by decide +kernel
theorem dX6_ring_45 : decode cX6_ring 45 = .ok (.ireturn, 1) := by decide +kernel
theorem dX6_ring_46 : decode cX6_ring 46 = .ok (.aload_n 0, 1) := by decide +kernel
theorem dX6_ring_47 : decode cX6_ring 47 = .ok (.getfield 12, 3) := by decide +kernel
theorem dX6_ring_50 : decode cX6_ring 50 = .ok (.invokevirtual 201, 3) := by decide +kernel
theorem dX6_ring_53 : decode cX6_ring 53 = .ok (.ireturn, 1) := by decide +kernel
theorem dX6_ring_54 : decode cX6_ring 54 = .ok (.aload_n 0, 1) := by decide +kernel
theorem dX6_ring_55 : decode cX6_ring 55 = .ok (.invokevirtual 204, 3) := by decide +kernel
theorem dX6_ring_58 : decode cX6_ring 58 = .ok (.ireturn, 1) := by decide +kernel
theorem dX6_ring_59 : decode cX6_ring 59 = .ok (.ldc 119, 2) := by decide +kernel
theorem dX6_ring_61 : decode cX6_ring 61 = .ok (.ireturn, 1) := by decide +kernel
theorem dX6_mostPleased_0 : decode cX6_mostPleased 0 = .ok (.aload_n 0, 1) := by decide +kernel
theorem dX6_mostPleased_1 : decode cX6_mostPleased 1 = .ok (.getfield 53, 3) := by decide +kernel
theorem dX6_mostPleased_4 : decode cX6_mostPleased 4 = .ok (.invokevirtual 207, 3) := by decide +kernel
theorem dX6_mostPleased_7 : decode cX6_mostPleased 7 = .ok (.iconst 0, 1) := by decide +kernel
theorem dX6_mostPleased_8 : decode cX6_mostPleased 8 = .ok (.istore_n 1, 1) := by decide +kernel
theorem dX6_mostPleased_9 : decode cX6_mostPleased 9 = .ok (.iload_n 1, 1) := by decide +kernel
theorem dX6_mostPleased_10 : decode cX6_mostPleased 10 = .ok (.aload_n 0, 1) := by decide +kernel
theorem dX6_mostPleased_11 : decode cX6_mostPleased 11 = .ok (.getfield 12, 3) := by decide +kernel
theorem dX6_mostPleased_14 : decode cX6_mostPleased 14 = .ok (.getfield 113, 3) := by decide +kernel
theorem dX6_mostPleased_17 : decode cX6_mostPleased 17 = .ok (.if_icmp .ge 26, 3) := by decide +kernel
theorem dX6_mostPleased_20 : decode cX6_mostPleased 20 = .ok (.aload_n 0, 1) := by decide +kernel
theorem dX6_mostPleased_21 : decode cX6_mostPleased 21 = .ok (.getfield 53, 3) := by decide +kernel
theorem dX6_mostPleased_24 : decode cX6_mostPleased 24 = .ok (.iload_n 1, 1) := by decide +kernel
theorem dX6_mostPleased_25 : decode cX6_mostPleased 25 = .ok (.aload_n 0, 1) := by decide +kernel
theorem dX6_mostPleased_26 : decode cX6_mostPleased 26 = .ok (.aload_n 0, 1) := by decide +kernel
theorem dX6_mostPleased_27 : decode cX6_mostPleased 27 = .ok (.getfield 12, 3) := by decide +kernel
theorem dX6_mostPleased_30 : decode cX6_mostPleased 30 = .ok (.iload_n 1, 1) := by decide +kernel
theorem dX6_mostPleased_31 : decode cX6_mostPleased 31 = .ok (.invokevirtual 141, 3) := by decide +kernel
theorem dX6_mostPleased_34 : decode cX6_mostPleased 34 = .ok (.invokevirtual 210, 3) := by decide +kernel
theorem dX6_mostPleased_37 : decode cX6_mostPleased 37 = .ok (.iinc 1 1, 3) := by decide +kernel
theorem dX6_mostPleased_40 : decode cX6_mostPleased 40 = .ok (.goto (-31), 3) := by decide +kernel
theorem dX6_mostPleased_43 : decode cX6_mostPleased 43 = .ok (.aload_n 0, 1) := by decide +kernel
theorem dX6_mostPleased_44 : decode cX6_mostPleased 44 = .ok (.getfield 53, 3) := by decide +kernel
theorem dX6_mostPleased_47 : decode cX6_mostPleased 47 = .ok (.getfield 214, 3) := by decide +kernel
theorem dX6_mostPleased_50 : decode cX6_mostPleased 50 = .ok (.ireturn, 1) := by decide +kernel
theorem dX6_worst_0 : decode cX6_worst 0 = .ok (.aload_n 0, 1) := by decide +kernel
theorem dX6_worst_1 : decode cX6_worst 1 = .ok (.getfield 53, 3) := by decide +kernel
theorem dX6_worst_4 : decode cX6_worst 4 = .ok (.invokevirtual 207, 3) := by decide +kernel
theorem dX6_worst_7 : decode cX6_worst 7 = .ok (.aload_n 0, 1) := by decide +kernel
theorem dX6_worst_8 : decode cX6_worst 8 = .ok (.getfield 16, 3) := by decide +kernel
theorem dX6_worst_11 : decode cX6_worst 11 = .ok (.aload_n 0, 1) := by decide +kernel
theorem dX6_worst_12 : decode cX6_worst 12 = .ok (.getfield 12, 3) := by decide +kernel
theorem dX6_worst_15 : decode cX6_worst 15 = .ok (.invokevirtual 217, 3) := by decide +kernel
theorem dX6_worst_18 : decode cX6_worst 18 = .ok (.iconst 0, 1) := by decide +kernel
theorem dX6_worst_19 : decode cX6_worst 19 = .ok (.istore_n 1, 1) := by decide +kernel
theorem dX6_worst_20 : decode cX6_worst 20 = .ok (.iload_n 1, 1) := by decide +kernel
theorem dX6_worst_21 : decode cX6_worst 21 = .ok (.bipush 11, 2) := by decide +kernel
theorem dX6_worst_23 : decode cX6_worst 23 = .ok (.if_icmp .ge 59, 3) := by decide +kernel
theorem dX6_worst_26 : decode cX6_worst 26 = .ok (.aload_n 0, 1) := by decide +kernel
theorem dX6_worst_27 : decode cX6_worst 27 = .ok (.getfield 12, 3) := by decide +kernel
theorem dX6_worst_30 : decode cX6_worst 30 = .ok (.iconst 0, 1) := by decide +kernel
theorem dX6_worst_31 : decode cX6_worst 31 = .ok (.invokevirtual 100, 3) := by decide +kernel
theorem dX6_worst_34 : decode cX6_worst 34 = .ok (.ifCond .eq 48, 3) := by decide +kernel
theorem dX6_worst_37 : decode cX6_worst 37 = .ok (.aload_n 0, 1) := by decide +kernel
theorem dX6_worst_38 : decode cX6_worst 38 = .ok (.getfield 12, 3) := by decide +kernel
theorem dX6_worst_41 : decode cX6_worst 41 = .ok (.iload_n 1, 1) := by decide +kernel
theorem dX6_worst_42 : decode cX6_worst 42 = .ok (.invokevirtual 110, 3) := by decide +kernel
theorem dX6_worst_45 : decode cX6_worst 45 = .ok (.ifCond .eq 31, 3) := by decide +kernel
theorem dX6_worst_48 : decode cX6_worst 48 = .ok (.aload_n 0, 1) := by decide +kernel
theorem dX6_worst_49 : decode cX6_worst 49 = .ok (.getfield 16, 3) := by decide +kernel
theorem dX6_worst_52 : decode cX6_worst 52 = .ok (.getfield 221, 3) := by decide +kernel
theorem dX6_worst_55 : decode cX6_worst 55 = .ok (.iconst 0, 1) := by decide +kernel
theorem dX6_worst_56 : decode cX6_worst 56 = .ok (.iload_n 1, 1) := by decide +kernel
theorem dX6_worst_57 : decode cX6_worst 57 = .ok (.iastore, 1) := by decide +kernel
theorem dX6_worst_58 : decode cX6_worst 58 = .ok (.aload_n 0, 1) := by decide +kernel
theorem dX6_worst_59 : decode cX6_worst 59 = .ok (.getfield 53, 3) := by decide +kernel
theorem dX6_worst_62 : decode cX6_worst 62 = .ok (.iload_n 1, 1) := by decide +kernel
theorem dX6_worst_63 : decode cX6_worst 63 = .ok (.aload_n 0, 1) := by decide +kernel
theorem dX6_worst_64 : decode cX6_worst 64 = .ok (.aload_n 0, 1) := by decide +kernel
theorem dX6_worst_65 : decode cX6_worst 65 = .ok (.getfield 16, 3) := by decide +kernel
theorem dX6_worst_68 : decode cX6_worst 68 = .ok (.iconst 0, 1) := by decide +kernel
theorem dX6_worst_69 : decode cX6_worst 69 = .ok (.invokevirtual 141, 3) := by decide +kernel
theorem dX6_worst_72 : decode cX6_worst 72 = .ok (.ineg, 1) := by decide +kernel
theorem dX6_worst_73 : decode cX6_worst 73 = .ok (.invokevirtual 210, 3) := by decide +kernel
theorem dX6_worst_76 : decode cX6_worst 76 = .ok (.iinc 1 1, 3) := by decide +kernel
theorem dX6_worst_79 : decode cX6_worst 79 = .ok (.goto (-59), 3) := by decide +kernel
theorem dX6_worst_82 : decode cX6_worst 82 = .ok (.aload_n 0, 1) := by decide +kernel
theorem dX6_worst_83 : decode cX6_worst 83 = .ok (.getfield 53, 3) := by decide +kernel
theorem dX6_worst_86 : decode cX6_worst 86 = .ok (.getfield 214, 3) := by decide +kernel
theorem dX6_worst_89 : decode cX6_worst 89 = .ok (.ireturn, 1) := by decide +kernel
theorem dX6_mean_0 : decode cX6_mean 0 = .ok (.iload_n 1, 1) := by decide +kernel
theorem dX6_mean_1 : decode cX6_mean 1 = .ok (.invokestatic 171, 3) := by decide +kernel
theorem dX6_mean_4 : decode cX6_mean 4 = .ok (.ifCond .eq 27, 3) := by decide +kernel
theorem dX6_mean_7 : decode cX6_mean 7 = .ok (.iload_n 2, 1) := by decide +kernel
theorem dX6_mean_8 : decode cX6_mean 8 = .ok (.invokestatic 157, 3) := by decide +kernel
theorem dX6_mean_11 : decode cX6_mean 11 = .ok (.ifCond .eq 20, 3) := by decide +kernel
theorem dX6_mean_14 : decode cX6_mean 14 = .ok (.iload_n 3, 1) := by decide +kernel
theorem dX6_mean_15 : decode cX6_mean 15 = .ok (.invokestatic 224, 3) := by decide +kernel
theorem dX6_mean_18 : decode cX6_mean 18 = .ok (.ifCond .eq 13, 3) := by decide +kernel
theorem dX6_mean_21 : decode cX6_mean 21 = .ok (.aload_n 0, 1) := by decide +kernel
theorem dX6_mean_22 : decode cX6_mean 22 = .ok (.getfield 12, 3) := by decide +kernel
theorem dX6_mean_25 : decode cX6_mean 25 = .ok (.getfield 113, 3) := by decide +kernel
theorem dX6_mean_28 : decode cX6_mean 28 = .ok (.ifCond .ne 7, 3) := by decide +kernel
theorem dX6_mean_31 : decode cX6_mean 31 = .ok (.ldc2_w 227, 3) := by decide +kernel
theorem dX6_mean_34 : decode cX6_mean 34 = .ok (.lreturn, 1) := by decide +kernel
theorem dX6_mean_35 : decode cX6_mean 35 = .ok (.aload_n 0, 1) := by decide +kernel
theorem dX6_mean_36 : decode cX6_mean 36 = .ok (.iload_n 1, 1) := by decide +kernel
theorem dX6_mean_37 : decode cX6_mean 37 = .ok (.iload_n 2, 1) := by decide +kernel
theorem dX6_mean_38 : decode cX6_mean 38 = .ok (.bipush 100, 2) := by decide +kernel
theorem dX6_mean_40 : decode cX6_mean 40 = .ok (.idiv, 1) := by decide +kernel
theorem dX6_mean_41 : decode cX6_mean 41 = .ok (.iload_n 2, 1) := by decide +kernel
theorem dX6_mean_42 : decode cX6_mean 42 = .ok (.bipush 100, 2) := by decide +kernel
theorem dX6_mean_44 : decode cX6_mean 44 = .ok (.irem, 1) := by decide +kernel
theorem dX6_mean_45 : decode cX6_mean 45 = .ok (.invokevirtual 177, 3) := by decide +kernel
theorem dX6_mean_48 : decode cX6_mean 48 = .ok (.aload_n 0, 1) := by decide +kernel
theorem dX6_mean_49 : decode cX6_mean 49 = .ok (.getfield 16, 3) := by decide +kernel
theorem dX6_mean_52 : decode cX6_mean 52 = .ok (.invokevirtual 180, 3) := by decide +kernel
theorem dX6_mean_55 : decode cX6_mean 55 = .ok (.aload_n 0, 1) := by decide +kernel
theorem dX6_mean_56 : decode cX6_mean 56 = .ok (.getfield 12, 3) := by decide +kernel
theorem dX6_mean_59 : decode cX6_mean 59 = .ok (.getfield 113, 3) := by decide +kernel
theorem dX6_mean_62 : decode cX6_mean 62 = .ok (.iload_n 3, 1) := by decide +kernel
theorem dX6_mean_63 : decode cX6_mean 63 = .ok (.invokestatic 229, 3) := by decide +kernel
theorem dX6_mean_66 : decode cX6_mean 66 = .ok (.lreturn, 1) := by decide +kernel
theorem dX6_best_0 : decode cX6_best 0 = .ok (.iload_n 1, 1) := by decide +kernel
theorem dX6_best_1 : decode cX6_best 1 = .ok (.ifCond .lt 18, 3) := by decide +kernel
theorem dX6_best_4 : decode cX6_best 4 = .ok (.iload_n 1, 1) := by decide +kernel
theorem dX6_best_5 : decode cX6_best 5 = .ok (.bipush 10, 2) := by decide +kernel
theorem dX6_best_7 : decode cX6_best 7 = .ok (.if_icmp .gt 12, 3) := by decide +kernel
theorem dX6_best_10 : decode cX6_best 10 = .ok (.iload_n 2, 1) := by decide +kernel
theorem dX6_best_11 : decode cX6_best 11 = .ok (.ifCond .lt 8, 3) := by decide +kernel
theorem dX6_best_14 : decode cX6_best 14 = .ok (.iload_n 2, 1) := by decide +kernel
theorem dX6_best_15 : decode cX6_best 15 = .ok (.iconst 3, 1) := by decide +kernel
theorem dX6_best_16 : decode cX6_best 16 = .ok (.if_icmp .le 6, 3) := by decide +kernel
theorem dX6_best_19 : decode cX6_best 19 = .ok (.ldc 119, 2) := by decide +kernel
theorem dX6_best_21 : decode cX6_best 21 = .ok (.ireturn, 1) := by decide +kernel
theorem dX6_best_22 : decode cX6_best 22 = .ok (.aload_n 0, 1) := by decide +kernel
theorem dX6_best_23 : decode cX6_best 23 = .ok (.getfield 53, 3) := by decide +kernel
theorem dX6_best_26 : decode cX6_best 26 = .ok (.invokevirtual 207, 3) := by decide +kernel
theorem dX6_best_29 : decode cX6_best 29 = .ok (.iconst 0, 1) := by decide +kernel
theorem dX6_best_30 : decode cX6_best 30 = .ok (.istore_n 3, 1) := by decide +kernel
theorem dX6_best_31 : decode cX6_best 31 = .ok (.iload_n 3, 1) := by decide +kernel
theorem dX6_best_32 : decode cX6_best 32 = .ok (.bipush 11, 2) := by decide +kernel
theorem dX6_best_34 : decode cX6_best 34 = .ok (.if_icmp .ge 69, 3) := by decide +kernel
theorem dX6_best_37 : decode cX6_best 37 = .ok (.iconst 0, 1) := by decide +kernel
theorem dX6_best_38 : decode cX6_best 38 = .ok (.istore 4, 2) := by decide +kernel
theorem dX6_best_40 : decode cX6_best 40 = .ok (.iload 4, 2) := by decide +kernel
theorem dX6_best_42 : decode cX6_best 42 = .ok (.bipush 11, 2) := by decide +kernel
theorem dX6_best_44 : decode cX6_best 44 = .ok (.if_icmp .ge 53, 3) := by decide +kernel
theorem dX6_best_47 : decode cX6_best 47 = .ok (.aload_n 0, 1) := by decide +kernel
theorem dX6_best_48 : decode cX6_best 48 = .ok (.iload_n 1, 1) := by decide +kernel
theorem dX6_best_49 : decode cX6_best 49 = .ok (.iload_n 3, 1) := by decide +kernel
theorem dX6_best_50 : decode cX6_best 50 = .ok (.iload 4, 2) := by decide +kernel
theorem dX6_best_52 : decode cX6_best 52 = .ok (.invokevirtual 177, 3) := by decide +kernel
theorem dX6_best_55 : decode cX6_best 55 = .ok (.aload_n 0, 1) := by decide +kernel
theorem dX6_best_56 : decode cX6_best 56 = .ok (.getfield 53, 3) := by decide +kernel
theorem dX6_best_59 : decode cX6_best 59 = .ok (.bipush 100, 2) := by decide +kernel
theorem dX6_best_61 : decode cX6_best 61 = .ok (.iload_n 3, 1) := by decide +kernel
theorem dX6_best_62 : decode cX6_best 62 = .ok (.imul, 1) := by decide +kernel
theorem dX6_best_63 : decode cX6_best 63 = .ok (.iload 4, 2) := by decide +kernel
theorem dX6_best_65 : decode cX6_best 65 = .ok (.iadd, 1) := by decide +kernel
theorem dX6_best_66 : decode cX6_best 66 = .ok (.iload_n 2, 1) := by decide +kernel
theorem dX6_best_67 : decode cX6_best 67 = .ok (.iconst 2, 1) := by decide +kernel
theorem dX6_best_68 : decode cX6_best 68 = .ok (.if_icmp .ge 13, 3) := by decide +kernel
theorem dX6_best_71 : decode cX6_best 71 = .ok (.aload_n 0, 1) := by decide +kernel
theorem dX6_best_72 : decode cX6_best 72 = .ok (.getfield 16, 3) := by decide +kernel
theorem dX6_best_75 : decode cX6_best 75 = .ok (.invokevirtual 180, 3) := by decide +kernel
theorem dX6_best_78 : decode cX6_best 78 = .ok (.goto 10, 3) := by decide +kernel
theorem dX6_best_81 : decode cX6_best 81 = .ok (.aload_n 0, 1) := by decide +kernel
theorem dX6_best_82 : decode cX6_best 82 = .ok (.getfield 16, 3) := by decide +kernel
theorem dX6_best_85 : decode cX6_best 85 = .ok (.invokevirtual 183, 3) := by decide +kernel
theorem dX6_best_88 : decode cX6_best 88 = .ok (.invokevirtual 210, 3) := by decide +kernel
theorem dX6_best_91 : decode cX6_best 91 = .ok (.iinc 4 1, 3) := by decide +kernel
theorem dX6_best_94 : decode cX6_best 94 = .ok (.goto (-54), 3) := by decide +kernel
theorem dX6_best_97 : decode cX6_best 97 = .ok (.iinc 3 1, 3) := by decide +kernel
theorem dX6_best_100 : decode cX6_best 100 = .ok (.goto (-69), 3) := by decide +kernel
theorem dX6_best_103 : decode cX6_best 103 = .ok (.aload_n 0, 1) := by decide +kernel
theorem dX6_best_104 : decode cX6_best 104 = .ok (.getfield 53, 3) := by decide +kernel
theorem dX6_best_107 : decode cX6_best 107 = .ok (.iload_n 2, 1) := by decide +kernel
theorem dX6_best_108 : decode cX6_best 108 = .ok (.invokevirtual 233, 3) := by decide +kernel
theorem dX6_best_111 : decode cX6_best 111 = .ok (.ireturn, 1) := by decide +kernel
theorem dX6_seat_0 : decode cX6_seat 0 = .ok (.aload_n 0, 1) := by decide +kernel
theorem dX6_seat_1 : decode cX6_seat 1 = .ok (.getfield 12, 3) := by decide +kernel
theorem dX6_seat_4 : decode cX6_seat 4 = .ok (.iload_n 1, 1) := by decide +kernel
theorem dX6_seat_5 : decode cX6_seat 5 = .ok (.invokevirtual 100, 3) := by decide +kernel
theorem dX6_seat_8 : decode cX6_seat 8 = .ok (.ifCond .eq 12, 3) := by decide +kernel
theorem dX6_seat_11 : decode cX6_seat 11 = .ok (.iload_n 2, 1) := by decide +kernel
theorem dX6_seat_12 : decode cX6_seat 12 = .ok (.ifCond .lt 8, 3) := by decide +kernel
theorem dX6_seat_15 : decode cX6_seat 15 = .ok (.iload_n 2, 1) := by decide +kernel
theorem dX6_seat_16 : decode cX6_seat 16 = .ok (.iconst 1, 1) := by decide +kernel
theorem dX6_seat_17 : decode cX6_seat 17 = .ok (.if_icmp .le 6, 3) := by decide +kernel
theorem dX6_seat_20 : decode cX6_seat 20 = .ok (.ldc 119, 2) := by decide +kernel
theorem dX6_seat_22 : decode cX6_seat 22 = .ok (.ireturn, 1) := by decide +kernel
theorem dX6_seat_23 : decode cX6_seat 23 = .ok (.aload_n 0, 1) := by decide +kernel
theorem dX6_seat_24 : decode cX6_seat 24 = .ok (.getfield 53, 3) := by decide +kernel
theorem dX6_seat_27 : decode cX6_seat 27 = .ok (.invokevirtual 207, 3) := by decide +kernel
theorem dX6_seat_30 : decode cX6_seat 30 = .ok (.aload_n 0, 1) := by decide +kernel
theorem dX6_seat_31 : decode cX6_seat 31 = .ok (.getfield 16, 3) := by decide +kernel
theorem dX6_seat_34 : decode cX6_seat 34 = .ok (.aload_n 0, 1) := by decide +kernel
theorem dX6_seat_35 : decode cX6_seat 35 = .ok (.getfield 12, 3) := by decide +kernel
theorem dX6_seat_38 : decode cX6_seat 38 = .ok (.invokevirtual 217, 3) := by decide +kernel
theorem dX6_seat_41 : decode cX6_seat 41 = .ok (.iconst 0, 1) := by decide +kernel
theorem dX6_seat_42 : decode cX6_seat 42 = .ok (.istore_n 3, 1) := by decide +kernel
theorem dX6_seat_43 : decode cX6_seat 43 = .ok (.iload_n 3, 1) := by decide +kernel
theorem dX6_seat_44 : decode cX6_seat 44 = .ok (.bipush 11, 2) := by decide +kernel
theorem dX6_seat_46 : decode cX6_seat 46 = .ok (.if_icmp .ge 47, 3) := by decide +kernel
theorem dX6_seat_49 : decode cX6_seat 49 = .ok (.aload_n 0, 1) := by decide +kernel
theorem dX6_seat_50 : decode cX6_seat 50 = .ok (.getfield 12, 3) := by decide +kernel
theorem dX6_seat_53 : decode cX6_seat 53 = .ok (.iload_n 1, 1) := by decide +kernel
theorem dX6_seat_54 : decode cX6_seat 54 = .ok (.iload_n 3, 1) := by decide +kernel
theorem dX6_seat_55 : decode cX6_seat 55 = .ok (.invokevirtual 103, 3) := by decide +kernel
theorem dX6_seat_58 : decode cX6_seat 58 = .ok (.ifCond .eq 29, 3) := by decide +kernel
theorem dX6_seat_61 : decode cX6_seat 61 = .ok (.aload_n 0, 1) := by decide +kernel
theorem dX6_seat_62 : decode cX6_seat 62 = .ok (.getfield 16, 3) := by decide +kernel
theorem dX6_seat_65 : decode cX6_seat 65 = .ok (.getfield 221, 3) := by decide +kernel
theorem dX6_seat_68 : decode cX6_seat 68 = .ok (.iload_n 1, 1) := by decide +kernel
theorem dX6_seat_69 : decode cX6_seat 69 = .ok (.iload_n 3, 1) := by decide +kernel
theorem dX6_seat_70 : decode cX6_seat 70 = .ok (.iastore, 1) := by decide +kernel
theorem dX6_seat_71 : decode cX6_seat 71 = .ok (.aload_n 0, 1) := by decide +kernel
theorem dX6_seat_72 : decode cX6_seat 72 = .ok (.getfield 53, 3) := by decide +kernel
theorem dX6_seat_75 : decode cX6_seat 75 = .ok (.iload_n 3, 1) := by decide +kernel
theorem dX6_seat_76 : decode cX6_seat 76 = .ok (.aload_n 0, 1) := by decide +kernel
theorem dX6_seat_77 : decode cX6_seat 77 = .ok (.aload_n 0, 1) := by decide +kernel
theorem dX6_seat_78 : decode cX6_seat 78 = .ok (.getfield 16, 3) := by decide +kernel
theorem dX6_seat_81 : decode cX6_seat 81 = .ok (.invokevirtual 163, 3) := by decide +kernel
theorem dX6_seat_84 : decode cX6_seat 84 = .ok (.invokevirtual 210, 3) := by decide +kernel
theorem dX6_seat_87 : decode cX6_seat 87 = .ok (.iinc 3 1, 3) := by decide +kernel
theorem dX6_seat_90 : decode cX6_seat 90 = .ok (.goto (-47), 3) := by decide +kernel
theorem dX6_seat_93 : decode cX6_seat 93 = .ok (.aload_n 0, 1) := by decide +kernel
theorem dX6_seat_94 : decode cX6_seat 94 = .ok (.getfield 53, 3) := by decide +kernel
theorem dX6_seat_97 : decode cX6_seat 97 = .ok (.iload_n 2, 1) := by decide +kernel
theorem dX6_seat_98 : decode cX6_seat 98 = .ok (.invokevirtual 233, 3) := by decide +kernel
theorem dX6_seat_101 : decode cX6_seat 101 = .ok (.ireturn, 1) := by decide +kernel
theorem dX6_change_0 : decode cX6_change 0 = .ok (.iload_n 1, 1) := by decide +kernel
theorem dX6_change_1 : decode cX6_change 1 = .ok (.ifCond .lt 9, 3) := by decide +kernel
theorem dX6_change_4 : decode cX6_change 4 = .ok (.iload_n 1, 1) := by decide +kernel
theorem dX6_change_5 : decode cX6_change 5 = .ok (.bipush 7, 2) := by decide +kernel
theorem dX6_change_7 : decode cX6_change 7 = .ok (.if_icmp .le 6, 3) := by decide +kernel
theorem dX6_change_10 : decode cX6_change 10 = .ok (.ldc 119, 2) := by decide +kernel
theorem dX6_change_12 : decode cX6_change 12 = .ok (.ireturn, 1) := by decide +kernel
theorem dX6_change_13 : decode cX6_change 13 = .ok (.aload_n 0, 1) := by decide +kernel
theorem dX6_change_14 : decode cX6_change 14 = .ok (.getfield 53, 3) := by decide +kernel
theorem dX6_change_17 : decode cX6_change 17 = .ok (.invokevirtual 207, 3) := by decide +kernel
theorem dX6_change_20 : decode cX6_change 20 = .ok (.aload_n 0, 1) := by decide +kernel
theorem dX6_change_21 : decode cX6_change 21 = .ok (.getfield 16, 3) := by decide +kernel
theorem dX6_change_24 : decode cX6_change 24 = .ok (.aload_n 0, 1) := by decide +kernel
theorem dX6_change_25 : decode cX6_change 25 = .ok (.getfield 12, 3) := by decide +kernel
theorem dX6_change_28 : decode cX6_change 28 = .ok (.invokevirtual 217, 3) := by decide +kernel
theorem dX6_change_31 : decode cX6_change 31 = .ok (.iload_n 1, 1) := by decide +kernel
theorem dX6_change_32 : decode cX6_change 32 = .ok (.iconst 2, 1) := by decide +kernel
theorem dX6_change_33 : decode cX6_change 33 = .ok (.if_icmp .ge 10, 3) := by decide +kernel
theorem dX6_change_36 : decode cX6_change 36 = .ok (.aload_n 0, 1) := by decide +kernel
theorem dX6_change_37 : decode cX6_change 37 = .ok (.invokevirtual 236, 3) := by decide +kernel
theorem dX6_change_40 : decode cX6_change 40 = .ok (.goto 10, 3) := by decide +kernel
theorem dX6_change_43 : decode cX6_change 43 = .ok (.aload_n 0, 1) := by decide +kernel
theorem dX6_change_44 : decode cX6_change 44 = .ok (.iload_n 1, 1) := by decide +kernel
theorem dX6_change_45 : decode cX6_change 45 = .ok (.iconst 2, 1) := by decide +kernel
theorem dX6_change_46 : decode cX6_change 46 = .ok (.idiv, 1) := by decide +kernel
theorem dX6_change_47 : decode cX6_change 47 = .ok (.invokevirtual 239, 3) := by decide +kernel
theorem dX6_change_50 : decode cX6_change 50 = .ok (.aload_n 0, 1) := by decide +kernel
theorem dX6_change_51 : decode cX6_change 51 = .ok (.getfield 53, 3) := by decide +kernel
theorem dX6_change_54 : decode cX6_change 54 = .ok (.iload_n 1, 1) := by decide +kernel
theorem dX6_change_55 : decode cX6_change 55 = .ok (.invokevirtual 233, 3) := by decide +kernel
theorem dX6_change_58 : decode cX6_change 58 = .ok (.ireturn, 1) := by decide +kernel
theorem dX6_offerPairs_0 : decode cX6_offerPairs 0 = .ok (.aload_n 0, 1) := by decide +kernel
theorem dX6_offerPairs_1 : decode cX6_offerPairs 1 = .ok (.getfield 53, 3) := by decide +kernel
theorem dX6_offerPairs_4 : decode cX6_offerPairs 4 = .ok (.iconst (-1), 1) := by decide +kernel
theorem dX6_offerPairs_5 : decode cX6_offerPairs 5 = .ok (.aload_n 0, 1) := by decide +kernel
theorem dX6_offerPairs_6 : decode cX6_offerPairs 6 = .ok (.aload_n 0, 1) := by decide +kernel
theorem dX6_offerPairs_7 : decode cX6_offerPairs 7 = .ok (.getfield 12, 3) := by decide +kernel
theorem dX6_offerPairs_10 : decode cX6_offerPairs 10 = .ok (.invokevirtual 163, 3) := by decide +kernel
theorem dX6_offerPairs_13 : decode cX6_offerPairs 13 = .ok (.invokevirtual 210, 3) := by decide +kernel
theorem dX6_offerPairs_16 : decode cX6_offerPairs 16 = .ok (.iconst 0, 1) := by decide +kernel
theorem dX6_offerPairs_17 : decode cX6_offerPairs 17 = .ok (.istore_n 1, 1) := by decide +kernel
theorem dX6_offerPairs_18 : decode cX6_offerPairs 18 = .ok (.iload_n 1, 1) := by decide +kernel
theorem dX6_offerPairs_19 : decode cX6_offerPairs 19 = .ok (.aload_n 0, 1) := by decide +kernel
theorem dX6_offerPairs_20 : decode cX6_offerPairs 20 = .ok (.getfield 12, 3) := by decide +kernel
theorem dX6_offerPairs_23 : decode cX6_offerPairs 23 = .ok (.getfield 113, 3) := by decide +kernel
theorem dX6_offerPairs_26 : decode cX6_offerPairs 26 = .ok (.if_icmp .ge 69, 3) := by decide +kernel
theorem dX6_offerPairs_29 : decode cX6_offerPairs 29 = .ok (.iload_n 1, 1) := by decide +kernel
theorem dX6_offerPairs_30 : decode cX6_offerPairs 30 = .ok (.iconst 1, 1) := by decide +kernel
theorem dX6_offerPairs_31 : decode cX6_offerPairs 31 = .ok (.iadd, 1) := by decide +kernel
theorem dX6_offerPairs_32 : decode cX6_offerPairs 32 = .ok (.istore_n 2, 1) := by decide +kernel
theorem dX6_offerPairs_33 : decode cX6_offerPairs 33 = .ok (.iload_n 2, 1) := by decide +kernel
theorem dX6_offerPairs_34 : decode cX6_offerPairs 34 = .ok (.aload_n 0, 1) := by decide +kernel
theorem dX6_offerPairs_35 : decode cX6_offerPairs 35 = .ok (.getfield 12, 3) := by decide +kernel
theorem dX6_offerPairs_38 : decode cX6_offerPairs 38 = .ok (.getfield 113, 3) := by decide +kernel
theorem dX6_offerPairs_41 : decode cX6_offerPairs 41 = .ok (.if_icmp .ge 48, 3) := by decide +kernel
theorem dX6_offerPairs_44 : decode cX6_offerPairs 44 = .ok (.aload_n 0, 1) := by decide +kernel
theorem dX6_offerPairs_45 : decode cX6_offerPairs 45 = .ok (.getfield 16, 3) := by decide +kernel
theorem dX6_offerPairs_48 : decode cX6_offerPairs 48 = .ok (.iload_n 1, 1) := by decide +kernel
theorem dX6_offerPairs_49 : decode cX6_offerPairs 49 = .ok (.iload_n 2, 1) := by decide +kernel
theorem dX6_offerPairs_50 : decode cX6_offerPairs 50 = .ok (.invokevirtual 242, 3) := by decide +kernel
theorem dX6_offerPairs_53 : decode cX6_offerPairs 53 = .ok (.aload_n 0, 1) := by decide +kernel
theorem dX6_offerPairs_54 : decode cX6_offerPairs 54 = .ok (.getfield 53, 3) := by decide +kernel
theorem dX6_offerPairs_57 : decode cX6_offerPairs 57 = .ok (.bipush 10, 2) := by decide +kernel
theorem dX6_offerPairs_59 : decode cX6_offerPairs 59 = .ok (.iload_n 1, 1) := by decide +kernel
theorem dX6_offerPairs_60 : decode cX6_offerPairs 60 = .ok (.imul, 1) := by decide +kernel
theorem dX6_offerPairs_61 : decode cX6_offerPairs 61 = .ok (.iload_n 2, 1) := by decide +kernel
theorem dX6_offerPairs_62 : decode cX6_offerPairs 62 = .ok (.iadd, 1) := by decide +kernel
theorem dX6_offerPairs_63 : decode cX6_offerPairs 63 = .ok (.aload_n 0, 1) := by decide +kernel
theorem dX6_offerPairs_64 : decode cX6_offerPairs 64 = .ok (.aload_n 0, 1) := by decide +kernel
theorem dX6_offerPairs_65 : decode cX6_offerPairs 65 = .ok (.getfield 16, 3) := by decide +kernel
theorem dX6_offerPairs_68 : decode cX6_offerPairs 68 = .ok (.invokevirtual 163, 3) := by decide +kernel
theorem dX6_offerPairs_71 : decode cX6_offerPairs 71 = .ok (.invokevirtual 210, 3) := by decide +kernel
theorem dX6_offerPairs_74 : decode cX6_offerPairs 74 = .ok (.aload_n 0, 1) := by decide +kernel
theorem dX6_offerPairs_75 : decode cX6_offerPairs 75 = .ok (.getfield 16, 3) := by decide +kernel
theorem dX6_offerPairs_78 : decode cX6_offerPairs 78 = .ok (.iload_n 1, 1) := by decide +kernel
theorem dX6_offerPairs_79 : decode cX6_offerPairs 79 = .ok (.iload_n 2, 1) := by decide +kernel
theorem dX6_offerPairs_80 : decode cX6_offerPairs 80 = .ok (.invokevirtual 242, 3) := by decide +kernel
theorem dX6_offerPairs_83 : decode cX6_offerPairs 83 = .ok (.iinc 2 1, 3) := by decide +kernel
theorem dX6_offerPairs_86 : decode cX6_offerPairs 86 = .ok (.goto (-53), 3) := by decide +kernel
theorem dX6_offerPairs_89 : decode cX6_offerPairs 89 = .ok (.iinc 1 1, 3) := by decide +kernel
theorem dX6_offerPairs_92 : decode cX6_offerPairs 92 = .ok (.goto (-74), 3) := by decide +kernel
theorem dX6_offerPairs_95 : decode cX6_offerPairs 95 = .ok (.return_, 1) := by decide +kernel
theorem dX6_offerPlaces_0 : decode cX6_offerPlaces 0 = .ok (.iconst 0, 1) := by decide +kernel
theorem dX6_offerPlaces_1 : decode cX6_offerPlaces 1 = .ok (.istore_n 2, 1) := by decide +kernel
theorem dX6_offerPlaces_2 : decode cX6_offerPlaces 2 = .ok (.iload_n 2, 1) := by decide +kernel
theorem dX6_offerPlaces_3 : decode cX6_offerPlaces 3 = .ok (.bipush 11, 2) := by decide +kernel
theorem dX6_offerPlaces_5 : decode cX6_offerPlaces 5 = .ok (.if_icmp .ge 65, 3) := by decide +kernel
theorem dX6_offerPlaces_8 : decode cX6_offerPlaces 8 = .ok (.iload_n 1, 1) := by decide +kernel
theorem dX6_offerPlaces_9 : decode cX6_offerPlaces 9 = .ok (.iconst 1, 1) := by decide +kernel
theorem dX6_offerPlaces_10 : decode cX6_offerPlaces 10 = .ok (.if_icmp .ne 14, 3) := by decide +kernel
theorem dX6_offerPlaces_13 : decode cX6_offerPlaces 13 = .ok (.aload_n 0, 1) := by decide +kernel
theorem dX6_offerPlaces_14 : decode cX6_offerPlaces 14 = .ok (.getfield 16, 3) := by decide +kernel
theorem dX6_offerPlaces_17 : decode cX6_offerPlaces 17 = .ok (.iload_n 2, 1) := by decide +kernel
theorem dX6_offerPlaces_18 : decode cX6_offerPlaces 18 = .ok (.putfield 245, 3) := by decide +kernel
theorem dX6_offerPlaces_21 : decode cX6_offerPlaces 21 = .ok (.goto 27, 3) := by decide +kernel
theorem dX6_offerPlaces_24 : decode cX6_offerPlaces 24 = .ok (.iload_n 1, 1) := by decide +kernel
theorem dX6_offerPlaces_25 : decode cX6_offerPlaces 25 = .ok (.iconst 2, 1) := by decide +kernel
theorem dX6_offerPlaces_26 : decode cX6_offerPlaces 26 = .ok (.if_icmp .ne 14, 3) := by decide +kernel
theorem dX6_offerPlaces_29 : decode cX6_offerPlaces 29 = .ok (.aload_n 0, 1) := by decide +kernel
theorem dX6_offerPlaces_30 : decode cX6_offerPlaces 30 = .ok (.getfield 16, 3) := by decide +kernel
theorem dX6_offerPlaces_33 : decode cX6_offerPlaces 33 = .ok (.iload_n 2, 1) := by decide +kernel
theorem dX6_offerPlaces_34 : decode cX6_offerPlaces 34 = .ok (.putfield 248, 3) := by decide +kernel
theorem dX6_offerPlaces_37 : decode cX6_offerPlaces 37 = .ok (.goto 11, 3) := by decide +kernel
theorem dX6_offerPlaces_40 : decode cX6_offerPlaces 40 = .ok (.aload_n 0, 1) := by decide +kernel
theorem dX6_offerPlaces_41 : decode cX6_offerPlaces 41 = .ok (.getfield 16, 3) := by decide +kernel
theorem dX6_offerPlaces_44 : decode cX6_offerPlaces 44 = .ok (.iload_n 2, 1) := by decide +kernel
theorem dX6_offerPlaces_45 : decode cX6_offerPlaces 45 = .ok (.putfield 189, 3) := by decide +kernel
theorem dX6_offerPlaces_48 : decode cX6_offerPlaces 48 = .ok (.aload_n 0, 1) := by decide +kernel
theorem dX6_offerPlaces_49 : decode cX6_offerPlaces 49 = .ok (.getfield 53, 3) := by decide +kernel
theorem dX6_offerPlaces_52 : decode cX6_offerPlaces 52 = .ok (.iload_n 2, 1) := by decide +kernel
theorem dX6_offerPlaces_53 : decode cX6_offerPlaces 53 = .ok (.aload_n 0, 1) := by decide +kernel
theorem dX6_offerPlaces_54 : decode cX6_offerPlaces 54 = .ok (.aload_n 0, 1) := by decide +kernel
theorem dX6_offerPlaces_55 : decode cX6_offerPlaces 55 = .ok (.getfield 16, 3) := by decide +kernel
theorem dX6_offerPlaces_58 : decode cX6_offerPlaces 58 = .ok (.invokevirtual 163, 3) := by decide +kernel
theorem dX6_offerPlaces_61 : decode cX6_offerPlaces 61 = .ok (.invokevirtual 210, 3) := by decide +kernel
theorem dX6_offerPlaces_64 : decode cX6_offerPlaces 64 = .ok (.iinc 2 1, 3) := by decide +kernel
theorem dX6_offerPlaces_67 : decode cX6_offerPlaces 67 = .ok (.goto (-65), 3) := by decide +kernel
theorem dX6_offerPlaces_70 : decode cX6_offerPlaces 70 = .ok (.return_, 1) := by decide +kernel
theorem dX6_round_0 : decode cX6_round 0 = .ok (.aload_n 0, 1) := by decide +kernel
theorem dX6_round_1 : decode cX6_round 1 = .ok (.getfield 12, 3) := by decide +kernel
theorem dX6_round_4 : decode cX6_round 4 = .ok (.iload_n 1, 1) := by decide +kernel
theorem dX6_round_5 : decode cX6_round 5 = .ok (.invokevirtual 100, 3) := by decide +kernel
theorem dX6_round_8 : decode cX6_round 8 = .ok (.ifCond .eq 10, 3) := by decide +kernel
theorem dX6_round_11 : decode cX6_round 11 = .ok (.iload_n 2, 1) := by decide +kernel
theorem dX6_round_12 : decode cX6_round 12 = .ok (.invokestatic 157, 3) := by decide +kernel
theorem dX6_round_15 : decode cX6_round 15 = .ok (.ifCond .ne 6, 3) := by decide +kernel
theorem dX6_round_18 : decode cX6_round 18 = .ok (.bipush (-2), 2) := by decide +kernel
theorem dX6_round_20 : decode cX6_round 20 = .ok (.ireturn, 1) := by decide +kernel
theorem dX6_round_21 : decode cX6_round 21 = .ok (.aload_n 0, 1) := by decide +kernel
theorem dX6_round_22 : decode cX6_round 22 = .ok (.getfield 16, 3) := by decide +kernel
theorem dX6_round_25 : decode cX6_round 25 = .ok (.aload_n 0, 1) := by decide +kernel
theorem dX6_round_26 : decode cX6_round 26 = .ok (.getfield 12, 3) := by decide +kernel
theorem dX6_round_29 : decode cX6_round 29 = .ok (.invokevirtual 217, 3) := by decide +kernel
theorem dX6_round_32 : decode cX6_round 32 = .ok (.iconst 0, 1) := by decide +kernel
theorem dX6_round_33 : decode cX6_round 33 = .ok (.istore_n 3, 1) := by decide +kernel
theorem dX6_round_34 : decode cX6_round 34 = .ok (.iload_n 3, 1) := by decide +kernel
theorem dX6_round_35 : decode cX6_round 35 = .ok (.bipush 40, 2) := by decide +kernel
theorem dX6_round_37 : decode cX6_round 37 = .ok (.if_icmp .gt 48, 3) := by decide +kernel
theorem dX6_round_40 : decode cX6_round 40 = .ok (.aload_n 0, 1) := by decide +kernel
theorem dX6_round_41 : decode cX6_round 41 = .ok (.getfield 16, 3) := by decide +kernel
theorem dX6_round_44 : decode cX6_round 44 = .ok (.getfield 195, 3) := by decide +kernel
theorem dX6_round_47 : decode cX6_round 47 = .ok (.iload_n 1, 1) := by decide +kernel
theorem dX6_round_48 : decode cX6_round 48 = .ok (.iaload, 1) := by decide +kernel
theorem dX6_round_49 : decode cX6_round 49 = .ok (.sipush 2047, 3) := by decide +kernel
theorem dX6_round_52 : decode cX6_round 52 = .ok (.if_icmp .ne 5, 3) := by decide +kernel
theorem dX6_round_55 : decode cX6_round 55 = .ok (.iload_n 3, 1) := by decide +kernel
theorem dX6_round_56 : decode cX6_round 56 = .ok (.ireturn, 1) := by decide +kernel
theorem dX6_round_57 : decode cX6_round 57 = .ok (.aload_n 0, 1) := by decide +kernel
theorem dX6_round_58 : decode cX6_round 58 = .ok (.getfield 16, 3) := by decide +kernel
theorem dX6_round_61 : decode cX6_round 61 = .ok (.invokevirtual 251, 3) := by decide +kernel
theorem dX6_round_64 : decode cX6_round 64 = .ok (.aload_n 0, 1) := by decide +kernel
theorem dX6_round_65 : decode cX6_round 65 = .ok (.getfield 16, 3) := by decide +kernel
theorem dX6_round_68 : decode cX6_round 68 = .ok (.iload_n 2, 1) := by decide +kernel
theorem dX6_round_69 : decode cX6_round 69 = .ok (.bipush 100, 2) := by decide +kernel
theorem dX6_round_71 : decode cX6_round 71 = .ok (.idiv, 1) := by decide +kernel
theorem dX6_round_72 : decode cX6_round 72 = .ok (.iload_n 2, 1) := by decide +kernel
theorem dX6_round_73 : decode cX6_round 73 = .ok (.bipush 100, 2) := by decide +kernel
theorem dX6_round_75 : decode cX6_round 75 = .ok (.irem, 1) := by decide +kernel
theorem dX6_round_76 : decode cX6_round 76 = .ok (.invokevirtual 254, 3) := by decide +kernel
theorem dX6_round_79 : decode cX6_round 79 = .ok (.iinc 3 1, 3) := by decide +kernel
theorem dX6_round_82 : decode cX6_round 82 = .ok (.goto (-48), 3) := by decide +kernel
theorem dX6_round_85 : decode cX6_round 85 = .ok (.iconst (-1), 1) := by decide +kernel
theorem dX6_round_86 : decode cX6_round 86 = .ok (.ireturn, 1) := by decide +kernel
theorem dX6_tells_0 : decode cX6_tells 0 = .ok (.iload_n 1, 1) := by decide +kernel
theorem dX6_tells_1 : decode cX6_tells 1 = .ok (.invokestatic 257, 3) := by decide +kernel
theorem dX6_tells_4 : decode cX6_tells 4 = .ok (.ifCond .eq 33, 3) := by decide +kernel
theorem dX6_tells_7 : decode cX6_tells 7 = .ok (.aload_n 0, 1) := by decide +kernel
theorem dX6_tells_8 : decode cX6_tells 8 = .ok (.getfield 12, 3) := by decide +kernel
theorem dX6_tells_11 : decode cX6_tells 11 = .ok (.iload_n 2, 1) := by decide +kernel
theorem dX6_tells_12 : decode cX6_tells 12 = .ok (.invokevirtual 100, 3) := by decide +kernel
theorem dX6_tells_15 : decode cX6_tells 15 = .ok (.ifCond .eq 22, 3) := by decide +kernel
theorem dX6_tells_18 : decode cX6_tells 18 = .ok (.iload_n 3, 1) := by decide +kernel
theorem dX6_tells_19 : decode cX6_tells 19 = .ok (.invokestatic 157, 3) := by decide +kernel
theorem dX6_tells_22 : decode cX6_tells 22 = .ok (.ifCond .eq 15, 3) := by decide +kernel
theorem dX6_tells_25 : decode cX6_tells 25 = .ok (.iload 4, 2) := by decide +kernel
theorem dX6_tells_27 : decode cX6_tells 27 = .ok (.ifCond .lt 10, 3) := by decide +kernel
theorem dX6_tells_30 : decode cX6_tells 30 = .ok (.iload 4, 2) := by decide +kernel
theorem dX6_tells_32 : decode cX6_tells 32 = .ok (.bipush 7, 2) := by decide +kernel
theorem dX6_tells_34 : decode cX6_tells 34 = .ok (.if_icmp .le 6, 3) := by decide +kernel
theorem dX6_tells_37 : decode cX6_tells 37 = .ok (.bipush (-2), 2) := by decide +kernel
theorem dX6_tells_39 : decode cX6_tells 39 = .ok (.ireturn, 1) := by decide +kernel
theorem dX6_tells_40 : decode cX6_tells 40 = .ok (.aload_n 0, 1) := by decide +kernel
theorem dX6_tells_41 : decode cX6_tells 41 = .ok (.getfield 59, 3) := by decide +kernel
theorem dX6_tells_44 : decode cX6_tells 44 = .ok (.iload_n 1, 1) := by decide +kernel
theorem dX6_tells_45 : decode cX6_tells 45 = .ok (.aaload, 1) := by decide +kernel
theorem dX6_tells_46 : decode cX6_tells 46 = .ok (.astore 5, 2) := by decide +kernel
theorem dX6_tells_48 : decode cX6_tells 48 = .ok (.aload 5, 2) := by decide +kernel
theorem dX6_tells_50 : decode cX6_tells 50 = .ok (.invokevirtual 260, 3) := by decide +kernel
theorem dX6_tells_53 : decode cX6_tells 53 = .ok (.ifCond .eq 6, 3) := by decide +kernel
theorem dX6_tells_56 : decode cX6_tells 56 = .ok (.bipush (-11), 2) := by decide +kernel
theorem dX6_tells_58 : decode cX6_tells 58 = .ok (.ireturn, 1) := by decide +kernel
theorem dX6_tells_59 : decode cX6_tells 59 = .ok (.aload 5, 2) := by decide +kernel
theorem dX6_tells_61 : decode cX6_tells 61 = .ok (.getfield 264, 3) := by decide +kernel
theorem dX6_tells_64 : decode cX6_tells 64 = .ok (.bipush 20, 2) := by decide +kernel
theorem dX6_tells_66 : decode cX6_tells 66 = .ok (.if_icmp .le 6, 3) := by decide +kernel
theorem dX6_tells_69 : decode cX6_tells 69 = .ok (.bipush (-2), 2) := by decide +kernel
theorem dX6_tells_71 : decode cX6_tells 71 = .ok (.ireturn, 1) := by decide +kernel
theorem dX6_tells_72 : decode cX6_tells 72 = .ok (.iload 4, 2) := by decide +kernel
theorem dX6_tells_74 : decode cX6_tells 74 = .ok (.ifCond .ne 23, 3) := by decide +kernel
theorem dX6_tells_77 : decode cX6_tells 77 = .ok (.aload_n 0, 1) := by decide +kernel
theorem dX6_tells_78 : decode cX6_tells 78 = .ok (.getfield 16, 3) := by decide +kernel
theorem dX6_tells_81 : decode cX6_tells 81 = .ok (.aload_n 0, 1) := by decide +kernel
theorem dX6_tells_82 : decode cX6_tells 82 = .ok (.getfield 12, 3) := by decide +kernel
theorem dX6_tells_85 : decode cX6_tells 85 = .ok (.invokevirtual 217, 3) := by decide +kernel
theorem dX6_tells_88 : decode cX6_tells 88 = .ok (.aload_n 0, 1) := by decide +kernel
theorem dX6_tells_89 : decode cX6_tells 89 = .ok (.aload 5, 2) := by decide +kernel
theorem dX6_tells_91 : decode cX6_tells 91 = .ok (.iload_n 2, 1) := by decide +kernel
theorem dX6_tells_92 : decode cX6_tells 92 = .ok (.iload_n 3, 1) := by decide +kernel
theorem dX6_tells_93 : decode cX6_tells 93 = .ok (.invokevirtual 265, 3) := by decide +kernel
theorem dX6_tells_96 : decode cX6_tells 96 = .ok (.ireturn, 1) := by decide +kernel
theorem dX6_tells_97 : decode cX6_tells 97 = .ok (.iconst 0, 1) := by decide +kernel
theorem dX6_tells_98 : decode cX6_tells 98 = .ok (.istore 6, 2) := by decide +kernel
theorem dX6_tells_100 : decode cX6_tells 100 = .ok (.iconst 0, 1) := by decide +kernel
theorem dX6_tells_101 : decode cX6_tells 101 = .ok (.istore 7, 2) := by decide +kernel
theorem dX6_tells_103 : decode cX6_tells 103 = .ok (.iload 7, 2) := by decide +kernel
theorem dX6_tells_105 : decode cX6_tells 105 = .ok (.bipush 11, 2) := by decide +kernel
theorem dX6_tells_107 : decode cX6_tells 107 = .ok (.if_icmp .ge 53, 3) := by decide +kernel
theorem dX6_tells_110 : decode cX6_tells 110 = .ok (.aload_n 0, 1) := by decide +kernel
theorem dX6_tells_111 : decode cX6_tells 111 = .ok (.getfield 16, 3) := by decide +kernel
theorem dX6_tells_114 : decode cX6_tells 114 = .ok (.aload_n 0, 1) := by decide +kernel
theorem dX6_tells_115 : decode cX6_tells 115 = .ok (.getfield 12, 3) := by decide +kernel
theorem dX6_tells_118 : decode cX6_tells 118 = .ok (.invokevirtual 217, 3) := by decide +kernel
theorem dX6_tells_121 : decode cX6_tells 121 = .ok (.aload_n 0, 1) := by decide +kernel
theorem dX6_tells_122 : decode cX6_tells 122 = .ok (.iload 4, 2) := by decide +kernel
theorem dX6_tells_124 : decode cX6_tells 124 = .ok (.iload_n 2, 1) := by decide +kernel
theorem dX6_tells_125 : decode cX6_tells 125 = .ok (.iload 7, 2) := by decide +kernel
theorem dX6_tells_127 : decode cX6_tells 127 = .ok (.invokevirtual 269, 3) := by decide +kernel
theorem dX6_tells_130 : decode cX6_tells 130 = .ok (.ifCond .eq 24, 3) := by decide +kernel
theorem dX6_tells_133 : decode cX6_tells 133 = .ok (.aload_n 0, 1) := by decide +kernel
theorem dX6_tells_134 : decode cX6_tells 134 = .ok (.aload 5, 2) := by decide +kernel
theorem dX6_tells_136 : decode cX6_tells 136 = .ok (.iload_n 2, 1) := by decide +kernel
theorem dX6_tells_137 : decode cX6_tells 137 = .ok (.iload_n 3, 1) := by decide +kernel
theorem dX6_tells_138 : decode cX6_tells 138 = .ok (.invokevirtual 265, 3) := by decide +kernel
theorem dX6_tells_141 : decode cX6_tells 141 = .ok (.iconst (-1), 1) := by decide +kernel
theorem dX6_tells_142 : decode cX6_tells 142 = .ok (.if_icmp .ne 12, 3) := by decide +kernel
theorem dX6_tells_145 : decode cX6_tells 145 = .ok (.iload 6, 2) := by decide +kernel
theorem dX6_tells_147 : decode cX6_tells 147 = .ok (.iconst 1, 1) := by decide +kernel
theorem dX6_tells_148 : decode cX6_tells 148 = .ok (.iload 7, 2) := by decide +kernel
theorem dX6_tells_150 : decode cX6_tells 150 = .ok (.ishl, 1) := by decide +kernel
theorem dX6_tells_151 : decode cX6_tells 151 = .ok (.ior, 1) := by decide +kernel
theorem dX6_tells_152 : decode cX6_tells 152 = .ok (.istore 6, 2) := by decide +kernel
theorem dX6_tells_154 : decode cX6_tells 154 = .ok (.iinc 7 1, 3) := by decide +kernel
theorem dX6_tells_157 : decode cX6_tells 157 = .ok (.goto (-54), 3) := by decide +kernel
theorem dX6_tells_160 : decode cX6_tells 160 = .ok (.iload 6, 2) := by decide +kernel
theorem dX6_tells_162 : decode cX6_tells 162 = .ok (.ireturn, 1) := by decide +kernel
theorem dX6_suppose_0 : decode cX6_suppose 0 = .ok (.iload_n 1, 1) := by decide +kernel
theorem dX6_suppose_1 : decode cX6_suppose 1 = .ok (.tableswitch 126 1 6 #[39, 54, 76, 96, 106, 116], 39) := by decide +kernel
theorem dX6_suppose_40 : decode cX6_suppose 40 = .ok (.aload_n 0, 1) := by decide +kernel
theorem dX6_suppose_41 : decode cX6_suppose 41 = .ok (.getfield 16, 3) := by decide +kernel
theorem dX6_suppose_44 : decode cX6_suppose 44 = .ok (.getfield 127, 3) := by decide +kernel
theorem dX6_suppose_47 : decode cX6_suppose 47 = .ok (.iload_n 2, 1) := by decide +kernel
theorem dX6_suppose_48 : decode cX6_suppose 48 = .ok (.iload_n 3, 1) := by decide +kernel
theorem dX6_suppose_49 : decode cX6_suppose 49 = .ok (.iastore, 1) := by decide +kernel
theorem dX6_suppose_50 : decode cX6_suppose 50 = .ok (.iload_n 3, 1) := by decide +kernel
theorem dX6_suppose_51 : decode cX6_suppose 51 = .ok (.invokestatic 107, 3) := by decide +kernel
theorem dX6_suppose_54 : decode cX6_suppose 54 = .ok (.ireturn, 1) := by decide +kernel
theorem dX6_suppose_55 : decode cX6_suppose 55 = .ok (.aload_n 0, 1) := by decide +kernel
theorem dX6_suppose_56 : decode cX6_suppose 56 = .ok (.getfield 16, 3) := by decide +kernel
theorem dX6_suppose_59 : decode cX6_suppose 59 = .ok (.getfield 272, 3) := by decide +kernel
theorem dX6_suppose_62 : decode cX6_suppose 62 = .ok (.iload_n 2, 1) := by decide +kernel
theorem dX6_suppose_63 : decode cX6_suppose 63 = .ok (.iload_n 3, 1) := by decide +kernel
theorem dX6_suppose_64 : decode cX6_suppose 64 = .ok (.iastore, 1) := by decide +kernel
theorem dX6_suppose_65 : decode cX6_suppose 65 = .ok (.iload_n 3, 1) := by decide +kernel
theorem dX6_suppose_66 : decode cX6_suppose 66 = .ok (.bipush 10, 2) := by decide +kernel
theorem dX6_suppose_68 : decode cX6_suppose 68 = .ok (.if_icmp .ge 7, 3) := by decide +kernel
theorem dX6_suppose_71 : decode cX6_suppose 71 = .ok (.iconst 1, 1) := by decide +kernel
theorem dX6_suppose_72 : decode cX6_suppose 72 = .ok (.goto 4, 3) := by decide +kernel
theorem dX6_suppose_75 : decode cX6_suppose 75 = .ok (.iconst 0, 1) := by decide +kernel
theorem dX6_suppose_76 : decode cX6_suppose 76 = .ok (.ireturn, 1) := by decide +kernel
theorem dX6_suppose_77 : decode cX6_suppose 77 = .ok (.aload_n 0, 1) := by decide +kernel
theorem dX6_suppose_78 : decode cX6_suppose 78 = .ok (.getfield 16, 3) := by decide +kernel
theorem dX6_suppose_81 : decode cX6_suppose 81 = .ok (.getfield 221, 3) := by decide +kernel
theorem dX6_suppose_84 : decode cX6_suppose 84 = .ok (.iload_n 2, 1) := by decide +kernel
theorem dX6_suppose_85 : decode cX6_suppose 85 = .ok (.iload_n 3, 1) := by decide +kernel
theorem dX6_suppose_86 : decode cX6_suppose 86 = .ok (.iastore, 1) := by decide +kernel
theorem dX6_suppose_87 : decode cX6_suppose 87 = .ok (.aload_n 0, 1) := by decide +kernel
theorem dX6_suppose_88 : decode cX6_suppose 88 = .ok (.getfield 12, 3) := by decide +kernel
theorem dX6_suppose_91 : decode cX6_suppose 91 = .ok (.iload_n 2, 1) := by decide +kernel
theorem dX6_suppose_92 : decode cX6_suppose 92 = .ok (.iload_n 3, 1) := by decide +kernel
theorem dX6_suppose_93 : decode cX6_suppose 93 = .ok (.invokevirtual 103, 3) := by decide +kernel
theorem dX6_suppose_96 : decode cX6_suppose 96 = .ok (.ireturn, 1) := by decide +kernel
theorem dX6_suppose_97 : decode cX6_suppose 97 = .ok (.aload_n 0, 1) := by decide +kernel
theorem dX6_suppose_98 : decode cX6_suppose 98 = .ok (.getfield 16, 3) := by decide +kernel
theorem dX6_suppose_101 : decode cX6_suppose 101 = .ok (.iload_n 3, 1) := by decide +kernel
theorem dX6_suppose_102 : decode cX6_suppose 102 = .ok (.putfield 189, 3) := by decide +kernel
theorem dX6_suppose_105 : decode cX6_suppose 105 = .ok (.iconst 1, 1) := by decide +kernel
theorem dX6_suppose_106 : decode cX6_suppose 106 = .ok (.ireturn, 1) := by decide +kernel
theorem dX6_suppose_107 : decode cX6_suppose 107 = .ok (.aload_n 0, 1) := by decide +kernel
theorem dX6_suppose_108 : decode cX6_suppose 108 = .ok (.getfield 16, 3) := by decide +kernel
theorem dX6_suppose_111 : decode cX6_suppose 111 = .ok (.iload_n 3, 1) := by decide +kernel
theorem dX6_suppose_112 : decode cX6_suppose 112 = .ok (.putfield 245, 3) := by decide +kernel
theorem dX6_suppose_115 : decode cX6_suppose 115 = .ok (.iconst 1, 1) := by decide +kernel
theorem dX6_suppose_116 : decode cX6_suppose 116 = .ok (.ireturn, 1) := by decide +kernel
theorem dX6_suppose_117 : decode cX6_suppose 117 = .ok (.aload_n 0, 1) := by decide +kernel
theorem dX6_suppose_118 : decode cX6_suppose 118 = .ok (.getfield 16, 3) := by decide +kernel
theorem dX6_suppose_121 : decode cX6_suppose 121 = .ok (.iload_n 3, 1) := by decide +kernel
theorem dX6_suppose_122 : decode cX6_suppose 122 = .ok (.putfield 248, 3) := by decide +kernel
theorem dX6_suppose_125 : decode cX6_suppose 125 = .ok (.iconst 1, 1) := by decide +kernel
theorem dX6_suppose_126 : decode cX6_suppose 126 = .ok (.ireturn, 1) := by decide +kernel
theorem dX6_suppose_127 : decode cX6_suppose 127 = .ok (.aload_n 0, 1) := by decide +kernel
theorem dX6_suppose_128 : decode cX6_suppose 128 = .ok (.getfield 16, 3) := by decide +kernel
theorem dX6_suppose_131 : decode cX6_suppose 131 = .ok (.iload_n 3, 1) := by decide +kernel
theorem dX6_suppose_132 : decode cX6_suppose 132 = .ok (.putfield 154, 3) := by decide +kernel
theorem dX6_suppose_135 : decode cX6_suppose 135 = .ok (.iload_n 3, 1) := by decide +kernel
theorem dX6_suppose_136 : decode cX6_suppose 136 = .ok (.aload_n 0, 1) := by decide +kernel
theorem dX6_suppose_137 : decode cX6_suppose 137 = .ok (.getfield 39, 3) := by decide +kernel
theorem dX6_suppose_140 : decode cX6_suppose 140 = .ok (.if_icmp .ge 7, 3) := by decide +kernel
theorem dX6_suppose_143 : decode cX6_suppose 143 = .ok (.iconst 1, 1) := by decide +kernel
theorem dX6_suppose_144 : decode cX6_suppose 144 = .ok (.goto 4, 3) := by decide +kernel
theorem dX6_suppose_147 : decode cX6_suppose 147 = .ok (.iconst 0, 1) := by decide +kernel
theorem dX6_suppose_148 : decode cX6_suppose 148 = .ok (.ireturn, 1) := by decide +kernel
theorem dX6_firstOtherwise_0 : decode cX6_firstOtherwise 0 = .ok (.iconst 0, 1) := by decide +kernel
theorem dX6_firstOtherwise_1 : decode cX6_firstOtherwise 1 = .ok (.istore 4, 2) := by decide +kernel
theorem dX6_firstOtherwise_3 : decode cX6_firstOtherwise 3 = .ok (.iload 4, 2) := by decide +kernel
theorem dX6_firstOtherwise_5 : decode cX6_firstOtherwise 5 = .ok (.aload_n 1, 1) := by decide +kernel
theorem dX6_firstOtherwise_6 : decode cX6_firstOtherwise 6 = .ok (.getfield 264, 3) := by decide +kernel
theorem dX6_firstOtherwise_9 : decode cX6_firstOtherwise 9 = .ok (.if_icmp .ge 46, 3) := by decide +kernel
theorem dX6_firstOtherwise_12 : decode cX6_firstOtherwise 12 = .ok (.aload_n 0, 1) := by decide +kernel
theorem dX6_firstOtherwise_13 : decode cX6_firstOtherwise 13 = .ok (.aload_n 0, 1) := by decide +kernel
theorem dX6_firstOtherwise_14 : decode cX6_firstOtherwise 14 = .ok (.getfield 16, 3) := by decide +kernel
theorem dX6_firstOtherwise_17 : decode cX6_firstOtherwise 17 = .ok (.iload_n 2, 1) := by decide +kernel
theorem dX6_firstOtherwise_18 : decode cX6_firstOtherwise 18 = .ok (.invokevirtual 141, 3) := by decide +kernel
theorem dX6_firstOtherwise_21 : decode cX6_firstOtherwise 21 = .ok (.aload_n 1, 1) := by decide +kernel
theorem dX6_firstOtherwise_22 : decode cX6_firstOtherwise 22 = .ok (.getfield 275, 3) := by decide +kernel
theorem dX6_firstOtherwise_25 : decode cX6_firstOtherwise 25 = .ok (.iload 4, 2) := by decide +kernel
theorem dX6_firstOtherwise_27 : decode cX6_firstOtherwise 27 = .ok (.iaload, 1) := by decide +kernel
theorem dX6_firstOtherwise_28 : decode cX6_firstOtherwise 28 = .ok (.if_icmp .eq 6, 3) := by decide +kernel
theorem dX6_firstOtherwise_31 : decode cX6_firstOtherwise 31 = .ok (.iload 4, 2) := by decide +kernel
theorem dX6_firstOtherwise_33 : decode cX6_firstOtherwise 33 = .ok (.ireturn, 1) := by decide +kernel
theorem dX6_firstOtherwise_34 : decode cX6_firstOtherwise 34 = .ok (.aload_n 0, 1) := by decide +kernel
theorem dX6_firstOtherwise_35 : decode cX6_firstOtherwise 35 = .ok (.getfield 16, 3) := by decide +kernel
theorem dX6_firstOtherwise_38 : decode cX6_firstOtherwise 38 = .ok (.iload_n 3, 1) := by decide +kernel
theorem dX6_firstOtherwise_39 : decode cX6_firstOtherwise 39 = .ok (.bipush 100, 2) := by decide +kernel
theorem dX6_firstOtherwise_41 : decode cX6_firstOtherwise 41 = .ok (.idiv, 1) := by decide +kernel
theorem dX6_firstOtherwise_42 : decode cX6_firstOtherwise 42 = .ok (.iload_n 3, 1) := by decide +kernel
theorem dX6_firstOtherwise_43 : decode cX6_firstOtherwise 43 = .ok (.bipush 100, 2) := by decide +kernel
theorem dX6_firstOtherwise_45 : decode cX6_firstOtherwise 45 = .ok (.irem, 1) := by decide +kernel
theorem dX6_firstOtherwise_46 : decode cX6_firstOtherwise 46 = .ok (.invokevirtual 254, 3) := by decide +kernel
theorem dX6_firstOtherwise_49 : decode cX6_firstOtherwise 49 = .ok (.iinc 4 1, 3) := by decide +kernel
theorem dX6_firstOtherwise_52 : decode cX6_firstOtherwise 52 = .ok (.goto (-49), 3) := by decide +kernel
theorem dX6_firstOtherwise_55 : decode cX6_firstOtherwise 55 = .ok (.iconst (-1), 1) := by decide +kernel
theorem dX6_firstOtherwise_56 : decode cX6_firstOtherwise 56 = .ok (.ireturn, 1) := by decide +kernel
theorem dX6_film_0 : decode cX6_film 0 = .ok (.iload_n 1, 1) := by decide +kernel
theorem dX6_film_1 : decode cX6_film 1 = .ok (.invokestatic 257, 3) := by decide +kernel
theorem dX6_film_4 : decode cX6_film 4 = .ok (.ifCond .eq 33, 3) := by decide +kernel
theorem dX6_film_7 : decode cX6_film 7 = .ok (.aload_n 0, 1) := by decide +kernel
theorem dX6_film_8 : decode cX6_film 8 = .ok (.getfield 12, 3) := by decide +kernel
theorem dX6_film_11 : decode cX6_film 11 = .ok (.iload_n 2, 1) := by decide +kernel
theorem dX6_film_12 : decode cX6_film 12 = .ok (.invokevirtual 100, 3) := by decide +kernel
theorem dX6_film_15 : decode cX6_film 15 = .ok (.ifCond .eq 22, 3) := by decide +kernel
theorem dX6_film_18 : decode cX6_film 18 = .ok (.iload_n 3, 1) := by decide +kernel
theorem dX6_film_19 : decode cX6_film 19 = .ok (.invokestatic 157, 3) := by decide +kernel
theorem dX6_film_22 : decode cX6_film 22 = .ok (.ifCond .eq 15, 3) := by decide +kernel
theorem dX6_film_25 : decode cX6_film 25 = .ok (.iload 4, 2) := by decide +kernel
theorem dX6_film_27 : decode cX6_film 27 = .ok (.ifCond .lt 10, 3) := by decide +kernel
theorem dX6_film_30 : decode cX6_film 30 = .ok (.iload 4, 2) := by decide +kernel
theorem dX6_film_32 : decode cX6_film 32 = .ok (.bipush 20, 2) := by decide +kernel
theorem dX6_film_34 : decode cX6_film 34 = .ok (.if_icmp .le 6, 3) := by decide +kernel
theorem dX6_film_37 : decode cX6_film 37 = .ok (.bipush (-2), 2) := by decide +kernel
theorem dX6_film_39 : decode cX6_film 39 = .ok (.ireturn, 1) := by decide +kernel
theorem dX6_film_40 : decode cX6_film 40 = .ok (.aload_n 0, 1) := by decide +kernel
theorem dX6_film_41 : decode cX6_film 41 = .ok (.getfield 59, 3) := by decide +kernel
theorem dX6_film_44 : decode cX6_film 44 = .ok (.iload_n 1, 1) := by decide +kernel
theorem dX6_film_45 : decode cX6_film 45 = .ok (.aaload, 1) := by decide +kernel
theorem dX6_film_46 : decode cX6_film 46 = .ok (.astore 5, 2) := by decide +kernel
theorem dX6_film_48 : decode cX6_film 48 = .ok (.aload 5, 2) := by decide +kernel
theorem dX6_film_50 : decode cX6_film 50 = .ok (.iconst 1, 1) := by decide +kernel
theorem dX6_film_51 : decode cX6_film 51 = .ok (.iload 4, 2) := by decide +kernel
theorem dX6_film_53 : decode cX6_film 53 = .ok (.invokevirtual 278, 3) := by decide +kernel
theorem dX6_film_56 : decode cX6_film 56 = .ok (.aload_n 0, 1) := by decide +kernel
theorem dX6_film_57 : decode cX6_film 57 = .ok (.getfield 16, 3) := by decide +kernel
theorem dX6_film_60 : decode cX6_film 60 = .ok (.aload_n 0, 1) := by decide +kernel
theorem dX6_film_61 : decode cX6_film 61 = .ok (.getfield 12, 3) := by decide +kernel
theorem dX6_film_64 : decode cX6_film 64 = .ok (.invokevirtual 217, 3) := by decide +kernel
theorem dX6_film_67 : decode cX6_film 67 = .ok (.iconst 0, 1) := by decide +kernel
theorem dX6_film_68 : decode cX6_film 68 = .ok (.istore 6, 2) := by decide +kernel
theorem dX6_film_70 : decode cX6_film 70 = .ok (.iload 6, 2) := by decide +kernel
theorem dX6_film_72 : decode cX6_film 72 = .ok (.iload 4, 2) := by decide +kernel
theorem dX6_film_74 : decode cX6_film 74 = .ok (.if_icmp .ge 40, 3) := by decide +kernel
theorem dX6_film_77 : decode cX6_film 77 = .ok (.aload 5, 2) := by decide +kernel
theorem dX6_film_79 : decode cX6_film 79 = .ok (.iload 6, 2) := by decide +kernel
theorem dX6_film_81 : decode cX6_film 81 = .ok (.aload_n 0, 1) := by decide +kernel
theorem dX6_film_82 : decode cX6_film 82 = .ok (.aload_n 0, 1) := by decide +kernel
theorem dX6_film_83 : decode cX6_film 83 = .ok (.getfield 16, 3) := by decide +kernel
theorem dX6_film_86 : decode cX6_film 86 = .ok (.iload_n 2, 1) := by decide +kernel
theorem dX6_film_87 : decode cX6_film 87 = .ok (.invokevirtual 141, 3) := by decide +kernel
theorem dX6_film_90 : decode cX6_film 90 = .ok (.invokevirtual 281, 3) := by decide +kernel
theorem dX6_film_93 : decode cX6_film 93 = .ok (.aload_n 0, 1) := by decide +kernel
theorem dX6_film_94 : decode cX6_film 94 = .ok (.getfield 16, 3) := by decide +kernel
theorem dX6_film_97 : decode cX6_film 97 = .ok (.iload_n 3, 1) := by decide +kernel
theorem dX6_film_98 : decode cX6_film 98 = .ok (.bipush 100, 2) := by decide +kernel
theorem dX6_film_100 : decode cX6_film 100 = .ok (.idiv, 1) := by decide +kernel
theorem dX6_film_101 : decode cX6_film 101 = .ok (.iload_n 3, 1) := by decide +kernel
theorem dX6_film_102 : decode cX6_film 102 = .ok (.bipush 100, 2) := by decide +kernel
theorem dX6_film_104 : decode cX6_film 104 = .ok (.irem, 1) := by decide +kernel
theorem dX6_film_105 : decode cX6_film 105 = .ok (.invokevirtual 254, 3) := by decide +kernel
theorem dX6_film_108 : decode cX6_film 108 = .ok (.iinc 6 1, 3) := by decide +kernel
theorem dX6_film_111 : decode cX6_film 111 = .ok (.goto (-41), 3) := by decide +kernel
theorem dX6_film_114 : decode cX6_film 114 = .ok (.iload 4, 2) := by decide +kernel
theorem dX6_film_116 : decode cX6_film 116 = .ok (.ireturn, 1) := by decide +kernel
theorem dX6_drawn_0 : decode cX6_drawn 0 = .ok (.iload_n 2, 1) := by decide +kernel
theorem dX6_drawn_1 : decode cX6_drawn 1 = .ok (.invokestatic 171, 3) := by decide +kernel
theorem dX6_drawn_4 : decode cX6_drawn 4 = .ok (.ifCond .eq 12, 3) := by decide +kernel
theorem dX6_drawn_7 : decode cX6_drawn 7 = .ok (.aload_n 0, 1) := by decide +kernel
theorem dX6_drawn_8 : decode cX6_drawn 8 = .ok (.iload_n 1, 1) := by decide +kernel
theorem dX6_drawn_9 : decode cX6_drawn 9 = .ok (.iload_n 2, 1) := by decide +kernel
theorem dX6_drawn_10 : decode cX6_drawn 10 = .ok (.invokevirtual 283, 3) := by decide +kernel
theorem dX6_drawn_13 : decode cX6_drawn 13 = .ok (.goto 5, 3) := by decide +kernel
theorem dX6_drawn_16 : decode cX6_drawn 16 = .ok (.ldc 119, 2) := by decide +kernel
theorem dX6_drawn_18 : decode cX6_drawn 18 = .ok (.ireturn, 1) := by decide +kernel
theorem dX6_chalkSum_0 : decode cX6_chalkSum 0 = .ok (.aload_n 0, 1) := by decide +kernel
theorem dX6_chalkSum_1 : decode cX6_chalkSum 1 = .ok (.invokevirtual 286, 3) := by decide +kernel
theorem dX6_chalkSum_4 : decode cX6_chalkSum 4 = .ok (.iload_n 1, 1) := by decide +kernel
theorem dX6_chalkSum_5 : decode cX6_chalkSum 5 = .ok (.istore_n 3, 1) := by decide +kernel
theorem dX6_chalkSum_6 : decode cX6_chalkSum 6 = .ok (.iconst 0, 1) := by decide +kernel
theorem dX6_chalkSum_7 : decode cX6_chalkSum 7 = .ok (.istore 4, 2) := by decide +kernel
theorem dX6_chalkSum_9 : decode cX6_chalkSum 9 = .ok (.iload 4, 2) := by decide +kernel
theorem dX6_chalkSum_11 : decode cX6_chalkSum 11 = .ok (.iload_n 2, 1) := by decide +kernel
theorem dX6_chalkSum_12 : decode cX6_chalkSum 12 = .ok (.if_icmp .ge 35, 3) := by decide +kernel
theorem dX6_chalkSum_15 : decode cX6_chalkSum 15 = .ok (.iload_n 3, 1) := by decide +kernel
theorem dX6_chalkSum_16 : decode cX6_chalkSum 16 = .ok (.ldc_w 289, 3) := by decide +kernel
theorem dX6_chalkSum_19 : decode cX6_chalkSum 19 = .ok (.imul, 1) := by decide +kernel
theorem dX6_chalkSum_20 : decode cX6_chalkSum 20 = .ok (.sipush 12345, 3) := by decide +kernel
theorem dX6_chalkSum_23 : decode cX6_chalkSum 23 = .ok (.iadd, 1) := by decide +kernel
theorem dX6_chalkSum_24 : decode cX6_chalkSum 24 = .ok (.istore_n 3, 1) := by decide +kernel
theorem dX6_chalkSum_25 : decode cX6_chalkSum 25 = .ok (.aload_n 0, 1) := by decide +kernel
theorem dX6_chalkSum_26 : decode cX6_chalkSum 26 = .ok (.aload_n 0, 1) := by decide +kernel
theorem dX6_chalkSum_27 : decode cX6_chalkSum 27 = .ok (.getfield 16, 3) := by decide +kernel
theorem dX6_chalkSum_30 : decode cX6_chalkSum 30 = .ok (.iload_n 3, 1) := by decide +kernel
theorem dX6_chalkSum_31 : decode cX6_chalkSum 31 = .ok (.bipush 9, 2) := by decide +kernel
theorem dX6_chalkSum_33 : decode cX6_chalkSum 33 = .ok (.iushr, 1) := by decide +kernel
theorem dX6_chalkSum_34 : decode cX6_chalkSum 34 = .ok (.bipush 11, 2) := by decide +kernel
theorem dX6_chalkSum_36 : decode cX6_chalkSum 36 = .ok (.irem, 1) := by decide +kernel
theorem dX6_chalkSum_37 : decode cX6_chalkSum 37 = .ok (.iconst 0, 1) := by decide +kernel
theorem dX6_chalkSum_38 : decode cX6_chalkSum 38 = .ok (.invokevirtual 167, 3) := by decide +kernel
theorem dX6_chalkSum_41 : decode cX6_chalkSum 41 = .ok (.iinc 4 1, 3) := by decide +kernel
theorem dX6_chalkSum_44 : decode cX6_chalkSum 44 = .ok (.goto (-35), 3) := by decide +kernel
theorem dX6_chalkSum_47 : decode cX6_chalkSum 47 = .ok (.aload_n 0, 1) := by decide +kernel
theorem dX6_chalkSum_48 : decode cX6_chalkSum 48 = .ok (.getfield 16, 3) := by decide +kernel
theorem dX6_chalkSum_51 : decode cX6_chalkSum 51 = .ok (.invokevirtual 180, 3) := by decide +kernel
theorem dX6_chalkSum_54 : decode cX6_chalkSum 54 = .ok (.ireturn, 1) := by decide +kernel
theorem dX6_chance_0 : decode cX6_chance 0 = .ok (.iload_n 2, 1) := by decide +kernel
theorem dX6_chance_1 : decode cX6_chance 1 = .ok (.iconst 1, 1) := by decide +kernel
theorem dX6_chance_2 : decode cX6_chance 2 = .ok (.if_icmp .lt 31, 3) := by decide +kernel
theorem dX6_chance_5 : decode cX6_chance 5 = .ok (.iload_n 2, 1) := by decide +kernel
theorem dX6_chance_6 : decode cX6_chance 6 = .ok (.bipush 20, 2) := by decide +kernel
theorem dX6_chance_8 : decode cX6_chance 8 = .ok (.if_icmp .gt 25, 3) := by decide +kernel
theorem dX6_chance_11 : decode cX6_chance 11 = .ok (.iload_n 3, 1) := by decide +kernel
theorem dX6_chance_12 : decode cX6_chance 12 = .ok (.ldc_w 290, 3) := by decide +kernel
theorem dX6_chance_15 : decode cX6_chance 15 = .ok (.if_icmp .lt 18, 3) := by decide +kernel
theorem dX6_chance_18 : decode cX6_chance 18 = .ok (.iload_n 3, 1) := by decide +kernel
theorem dX6_chance_19 : decode cX6_chance 19 = .ok (.ldc_w 291, 3) := by decide +kernel
theorem dX6_chance_22 : decode cX6_chance 22 = .ok (.if_icmp .gt 11, 3) := by decide +kernel
theorem dX6_chance_25 : decode cX6_chance 25 = .ok (.iload 4, 2) := by decide +kernel
theorem dX6_chance_27 : decode cX6_chance 27 = .ok (.invokestatic 224, 3) := by decide +kernel
theorem dX6_chance_30 : decode cX6_chance 30 = .ok (.ifCond .ne 7, 3) := by decide +kernel
theorem dX6_chance_33 : decode cX6_chance 33 = .ok (.ldc2_w 227, 3) := by decide +kernel
theorem dX6_chance_36 : decode cX6_chance 36 = .ok (.lreturn, 1) := by decide +kernel
theorem dX6_chance_37 : decode cX6_chance 37 = .ok (.iconst 0, 1) := by decide +kernel
theorem dX6_chance_38 : decode cX6_chance 38 = .ok (.istore 5, 2) := by decide +kernel
theorem dX6_chance_40 : decode cX6_chance 40 = .ok (.iconst 0, 1) := by decide +kernel
theorem dX6_chance_41 : decode cX6_chance 41 = .ok (.istore 6, 2) := by decide +kernel
theorem dX6_chance_43 : decode cX6_chance 43 = .ok (.iload 6, 2) := by decide +kernel
theorem dX6_chance_45 : decode cX6_chance 45 = .ok (.iload_n 2, 1) := by decide +kernel
theorem dX6_chance_46 : decode cX6_chance 46 = .ok (.if_icmp .ge 26, 3) := by decide +kernel
theorem dX6_chance_49 : decode cX6_chance 49 = .ok (.aload_n 0, 1) := by decide +kernel
theorem dX6_chance_50 : decode cX6_chance 50 = .ok (.iload_n 1, 1) := by decide +kernel
theorem dX6_chance_51 : decode cX6_chance 51 = .ok (.iload 6, 2) := by decide +kernel
theorem dX6_chance_53 : decode cX6_chance 53 = .ok (.iadd, 1) := by decide +kernel
theorem dX6_chance_54 : decode cX6_chance 54 = .ok (.bipush 6, 2) := by decide +kernel
theorem dX6_chance_56 : decode cX6_chance 56 = .ok (.invokevirtual 283, 3) := by decide +kernel
theorem dX6_chance_59 : decode cX6_chance 59 = .ok (.iload_n 3, 1) := by decide +kernel
theorem dX6_chance_60 : decode cX6_chance 60 = .ok (.if_icmp .lt 6, 3) := by decide +kernel
theorem dX6_chance_63 : decode cX6_chance 63 = .ok (.iinc 5 1, 3) := by decide +kernel
theorem dX6_chance_66 : decode cX6_chance 66 = .ok (.iinc 6 1, 3) := by decide +kernel
theorem dX6_chance_69 : decode cX6_chance 69 = .ok (.goto (-26), 3) := by decide +kernel
theorem dX6_chance_72 : decode cX6_chance 72 = .ok (.iload 5, 2) := by decide +kernel
theorem dX6_chance_74 : decode cX6_chance 74 = .ok (.iload_n 2, 1) := by decide +kernel
theorem dX6_chance_75 : decode cX6_chance 75 = .ok (.iload 4, 2) := by decide +kernel
theorem dX6_chance_77 : decode cX6_chance 77 = .ok (.invokestatic 229, 3) := by decide +kernel
theorem dX6_chance_80 : decode cX6_chance 80 = .ok (.lreturn, 1) := by decide +kernel
theorem dX6_image_0 : decode cX6_image 0 = .ok (.aload_n 0, 1) := by decide +kernel
theorem dX6_image_1 : decode cX6_image 1 = .ok (.getfield 19, 3) := by decide +kernel
theorem dX6_image_4 : decode cX6_image 4 = .ok (.aload_n 0, 1) := by decide +kernel
theorem dX6_image_5 : decode cX6_image 5 = .ok (.getfield 12, 3) := by decide +kernel
theorem dX6_image_8 : decode cX6_image 8 = .ok (.invokevirtual 217, 3) := by decide +kernel
theorem dX6_image_11 : decode cX6_image 11 = .ok (.aload_n 0, 1) := by decide +kernel
theorem dX6_image_12 : decode cX6_image 12 = .ok (.iconst 1, 1) := by decide +kernel
theorem dX6_image_13 : decode cX6_image 13 = .ok (.putfield 22, 3) := by decide +kernel
theorem dX6_image_16 : decode cX6_image 16 = .ok (.aload_n 0, 1) := by decide +kernel
theorem dX6_image_17 : decode cX6_image 17 = .ok (.getfield 12, 3) := by decide +kernel
theorem dX6_image_20 : decode cX6_image 20 = .ok (.getfield 113, 3) := by decide +kernel
theorem dX6_image_23 : decode cX6_image 23 = .ok (.ireturn, 1) := by decide +kernel
theorem dX6_back_0 : decode cX6_back 0 = .ok (.aload_n 0, 1) := by decide +kernel
theorem dX6_back_1 : decode cX6_back 1 = .ok (.getfield 22, 3) := by decide +kernel
theorem dX6_back_4 : decode cX6_back 4 = .ok (.ifCond .ne 6, 3) := by decide +kernel
theorem dX6_back_7 : decode cX6_back 7 = .ok (.bipush (-3), 2) := by decide +kernel
theorem dX6_back_9 : decode cX6_back 9 = .ok (.ireturn, 1) := by decide +kernel
theorem dX6_back_10 : decode cX6_back 10 = .ok (.aload_n 0, 1) := by decide +kernel
theorem dX6_back_11 : decode cX6_back 11 = .ok (.getfield 12, 3) := by decide +kernel
theorem dX6_back_14 : decode cX6_back 14 = .ok (.aload_n 0, 1) := by decide +kernel
theorem dX6_back_15 : decode cX6_back 15 = .ok (.getfield 19, 3) := by decide +kernel
theorem dX6_back_18 : decode cX6_back 18 = .ok (.invokevirtual 217, 3) := by decide +kernel
theorem dX6_back_21 : decode cX6_back 21 = .ok (.aload_n 0, 1) := by decide +kernel
theorem dX6_back_22 : decode cX6_back 22 = .ok (.getfield 12, 3) := by decide +kernel
theorem dX6_back_25 : decode cX6_back 25 = .ok (.getfield 113, 3) := by decide +kernel
theorem dX6_back_28 : decode cX6_back 28 = .ok (.ireturn, 1) := by decide +kernel
theorem dX6_count_0 : decode cX6_count 0 = .ok (.iload_n 1, 1) := by decide +kernel
theorem dX6_count_1 : decode cX6_count 1 = .ok (.tableswitch 87 0 5 #[39, 47, 55, 66, 71, 79], 39) := by decide +kernel
theorem dX6_count_40 : decode cX6_count 40 = .ok (.aload_n 0, 1) := by decide +kernel
theorem dX6_count_41 : decode cX6_count 41 = .ok (.getfield 12, 3) := by decide +kernel
theorem dX6_count_44 : decode cX6_count 44 = .ok (.getfield 113, 3) := by decide +kernel
theorem dX6_count_47 : decode cX6_count 47 = .ok (.ireturn, 1) := by decide +kernel
theorem dX6_count_48 : decode cX6_count 48 = .ok (.aload_n 0, 1) := by decide +kernel
theorem dX6_count_49 : decode cX6_count 49 = .ok (.getfield 12, 3) := by decide +kernel
theorem dX6_count_52 : decode cX6_count 52 = .ok (.getfield 160, 3) := by decide +kernel
theorem dX6_count_55 : decode cX6_count 55 = .ok (.ireturn, 1) := by decide +kernel
theorem dX6_count_56 : decode cX6_count 56 = .ok (.bipush 11, 2) := by decide +kernel
theorem dX6_count_58 : decode cX6_count 58 = .ok (.aload_n 0, 1) := by decide +kernel
theorem dX6_count_59 : decode cX6_count 59 = .ok (.getfield 12, 3) := by decide +kernel
theorem dX6_count_62 : decode cX6_count 62 = .ok (.getfield 113, 3) := by decide +kernel
theorem dX6_count_65 : decode cX6_count 65 = .ok (.isub, 1) := by decide +kernel
theorem dX6_count_66 : decode cX6_count 66 = .ok (.ireturn, 1) := by decide +kernel
theorem dX6_count_67 : decode cX6_count 67 = .ok (.aload_n 0, 1) := by decide +kernel
theorem dX6_count_68 : decode cX6_count 68 = .ok (.getfield 39, 3) := by decide +kernel
theorem dX6_count_71 : decode cX6_count 71 = .ok (.ireturn, 1) := by decide +kernel
theorem dX6_count_72 : decode cX6_count 72 = .ok (.aload_n 0, 1) := by decide +kernel
theorem dX6_count_73 : decode cX6_count 73 = .ok (.getfield 29, 3) := by decide +kernel
theorem dX6_count_76 : decode cX6_count 76 = .ok (.getfield 148, 3) := by decide +kernel
theorem dX6_count_79 : decode cX6_count 79 = .ok (.ireturn, 1) := by decide +kernel
theorem dX6_count_80 : decode cX6_count 80 = .ok (.aload_n 0, 1) := by decide +kernel
theorem dX6_count_81 : decode cX6_count 81 = .ok (.getfield 12, 3) := by decide +kernel
theorem dX6_count_84 : decode cX6_count 84 = .ok (.getfield 154, 3) := by decide +kernel
theorem dX6_count_87 : decode cX6_count 87 = .ok (.ireturn, 1) := by decide +kernel
theorem dX6_count_88 : decode cX6_count 88 = .ok (.bipush (-2), 2) := by decide +kernel
theorem dX6_count_90 : decode cX6_count 90 = .ok (.ireturn, 1) := by decide +kernel
theorem dX6_sheet_0 : decode cX6_sheet 0 = .ok (.iload_n 1, 1) := by decide +kernel
theorem dX6_sheet_1 : decode cX6_sheet 1 = .ok (.invokestatic 257, 3) := by decide +kernel
theorem dX6_sheet_4 : decode cX6_sheet 4 = .ok (.ifCond .ne 6, 3) := by decide +kernel
theorem dX6_sheet_7 : decode cX6_sheet 7 = .ok (.bipush (-2), 2) := by decide +kernel
theorem dX6_sheet_9 : decode cX6_sheet 9 = .ok (.ireturn, 1) := by decide +kernel
theorem dX6_sheet_10 : decode cX6_sheet 10 = .ok (.iload_n 2, 1) := by decide +kernel
theorem dX6_sheet_11 : decode cX6_sheet 11 = .ok (.iconst (-1), 1) := by decide +kernel
theorem dX6_sheet_12 : decode cX6_sheet 12 = .ok (.if_icmp .ne 16, 3) := by decide +kernel
theorem dX6_sheet_15 : decode cX6_sheet 15 = .ok (.aload_n 0, 1) := by decide +kernel
theorem dX6_sheet_16 : decode cX6_sheet 16 = .ok (.getfield 59, 3) := by decide +kernel
theorem dX6_sheet_19 : decode cX6_sheet 19 = .ok (.iload_n 1, 1) := by decide +kernel
theorem dX6_sheet_20 : decode cX6_sheet 20 = .ok (.aaload, 1) := by decide +kernel
theorem dX6_sheet_21 : decode cX6_sheet 21 = .ok (.iconst (-1), 1) := by decide +kernel
theorem dX6_sheet_22 : decode cX6_sheet 22 = .ok (.iconst 0, 1) := by decide +kernel
theorem dX6_sheet_23 : decode cX6_sheet 23 = .ok (.invokevirtual 278, 3) := by decide +kernel
theorem dX6_sheet_26 : decode cX6_sheet 26 = .ok (.iconst 1, 1) := by decide +kernel
theorem dX6_sheet_27 : decode cX6_sheet 27 = .ok (.ireturn, 1) := by decide +kernel
theorem dX6_sheet_28 : decode cX6_sheet 28 = .ok (.iload_n 2, 1) := by decide +kernel
theorem dX6_sheet_29 : decode cX6_sheet 29 = .ok (.invokestatic 292, 3) := by decide +kernel
theorem dX6_sheet_32 : decode cX6_sheet 32 = .ok (.ifCond .eq 9, 3) := by decide +kernel
theorem dX6_sheet_35 : decode cX6_sheet 35 = .ok (.iload_n 3, 1) := by decide +kernel
theorem dX6_sheet_36 : decode cX6_sheet 36 = .ok (.bipush 40, 2) := by decide +kernel
theorem dX6_sheet_38 : decode cX6_sheet 38 = .ok (.if_icmp .le 6, 3) := by decide +kernel
theorem dX6_sheet_41 : decode cX6_sheet 41 = .ok (.bipush (-2), 2) := by decide +kernel
theorem dX6_sheet_43 : decode cX6_sheet 43 = .ok (.ireturn, 1) := by decide +kernel
theorem dX6_sheet_44 : decode cX6_sheet 44 = .ok (.iload_n 3, 1) := by decide +kernel
theorem dX6_sheet_45 : decode cX6_sheet 45 = .ok (.ifCond .ge 6, 3) := by decide +kernel
theorem dX6_sheet_48 : decode cX6_sheet 48 = .ok (.bipush (-14), 2) := by decide +kernel
theorem dX6_sheet_50 : decode cX6_sheet 50 = .ok (.ireturn, 1) := by decide +kernel
theorem dX6_sheet_51 : decode cX6_sheet 51 = .ok (.aload_n 0, 1) := by decide +kernel
theorem dX6_sheet_52 : decode cX6_sheet 52 = .ok (.getfield 59, 3) := by decide +kernel
theorem dX6_sheet_55 : decode cX6_sheet 55 = .ok (.iload_n 1, 1) := by decide +kernel
theorem dX6_sheet_56 : decode cX6_sheet 56 = .ok (.aaload, 1) := by decide +kernel
theorem dX6_sheet_57 : decode cX6_sheet 57 = .ok (.iload_n 2, 1) := by decide +kernel
theorem dX6_sheet_58 : decode cX6_sheet 58 = .ok (.iload_n 3, 1) := by decide +kernel
theorem dX6_sheet_59 : decode cX6_sheet 59 = .ok (.invokevirtual 278, 3) := by decide +kernel
theorem dX6_sheet_62 : decode cX6_sheet 62 = .ok (.iconst 1, 1) := by decide +kernel
theorem dX6_sheet_63 : decode cX6_sheet 63 = .ok (.ireturn, 1) := by decide +kernel
theorem dX6_cell_0 : decode cX6_cell 0 = .ok (.iload_n 1, 1) := by decide +kernel
theorem dX6_cell_1 : decode cX6_cell 1 = .ok (.invokestatic 257, 3) := by decide +kernel
theorem dX6_cell_4 : decode cX6_cell 4 = .ok (.ifCond .ne 6, 3) := by decide +kernel
theorem dX6_cell_7 : decode cX6_cell 7 = .ok (.bipush (-2), 2) := by decide +kernel
theorem dX6_cell_9 : decode cX6_cell 9 = .ok (.ireturn, 1) := by decide +kernel
theorem dX6_cell_10 : decode cX6_cell 10 = .ok (.aload_n 0, 1) := by decide +kernel
theorem dX6_cell_11 : decode cX6_cell 11 = .ok (.getfield 59, 3) := by decide +kernel
theorem dX6_cell_14 : decode cX6_cell 14 = .ok (.iload_n 1, 1) := by decide +kernel
theorem dX6_cell_15 : decode cX6_cell 15 = .ok (.aaload, 1) := by decide +kernel
theorem dX6_cell_16 : decode cX6_cell 16 = .ok (.astore 4, 2) := by decide +kernel
theorem dX6_cell_18 : decode cX6_cell 18 = .ok (.aload 4, 2) := by decide +kernel
theorem dX6_cell_20 : decode cX6_cell 20 = .ok (.invokevirtual 260, 3) := by decide +kernel
theorem dX6_cell_23 : decode cX6_cell 23 = .ok (.ifCond .eq 6, 3) := by decide +kernel
theorem dX6_cell_26 : decode cX6_cell 26 = .ok (.bipush (-11), 2) := by decide +kernel
theorem dX6_cell_28 : decode cX6_cell 28 = .ok (.ireturn, 1) := by decide +kernel
theorem dX6_cell_29 : decode cX6_cell 29 = .ok (.aload 4, 2) := by decide +kernel
theorem dX6_cell_31 : decode cX6_cell 31 = .ok (.iload_n 2, 1) := by decide +kernel
theorem dX6_cell_32 : decode cX6_cell 32 = .ok (.iconst 1, 1) := by decide +kernel
theorem dX6_cell_33 : decode cX6_cell 33 = .ok (.invokevirtual 295, 3) := by decide +kernel
theorem dX6_cell_36 : decode cX6_cell 36 = .ok (.ifCond .ne 6, 3) := by decide +kernel
theorem dX6_cell_39 : decode cX6_cell 39 = .ok (.bipush (-12), 2) := by decide +kernel
theorem dX6_cell_41 : decode cX6_cell 41 = .ok (.ireturn, 1) := by decide +kernel
theorem dX6_cell_42 : decode cX6_cell 42 = .ok (.aload 4, 2) := by decide +kernel
theorem dX6_cell_44 : decode cX6_cell 44 = .ok (.iload_n 2, 1) := by decide +kernel
theorem dX6_cell_45 : decode cX6_cell 45 = .ok (.iload_n 3, 1) := by decide +kernel
theorem dX6_cell_46 : decode cX6_cell 46 = .ok (.invokevirtual 281, 3) := by decide +kernel
theorem dX6_cell_49 : decode cX6_cell 49 = .ok (.iconst 1, 1) := by decide +kernel
theorem dX6_cell_50 : decode cX6_cell 50 = .ok (.ireturn, 1) := by decide +kernel
theorem dX6_copy_0 : decode cX6_copy 0 = .ok (.iload_n 1, 1) := by decide +kernel
theorem dX6_copy_1 : decode cX6_copy 1 = .ok (.invokestatic 257, 3) := by decide +kernel
theorem dX6_copy_4 : decode cX6_copy 4 = .ok (.ifCond .eq 10, 3) := by decide +kernel
theorem dX6_copy_7 : decode cX6_copy 7 = .ok (.iload_n 3, 1) := by decide +kernel
theorem dX6_copy_8 : decode cX6_copy 8 = .ok (.invokestatic 257, 3) := by decide +kernel
theorem dX6_copy_11 : decode cX6_copy 11 = .ok (.ifCond .ne 6, 3) := by decide +kernel
theorem dX6_copy_14 : decode cX6_copy 14 = .ok (.bipush (-2), 2) := by decide +kernel
theorem dX6_copy_16 : decode cX6_copy 16 = .ok (.ireturn, 1) := by decide +kernel
theorem dX6_copy_17 : decode cX6_copy 17 = .ok (.aload_n 0, 1) := by decide +kernel
theorem dX6_copy_18 : decode cX6_copy 18 = .ok (.getfield 59, 3) := by decide +kernel
theorem dX6_copy_21 : decode cX6_copy 21 = .ok (.iload_n 1, 1) := by decide +kernel
theorem dX6_copy_22 : decode cX6_copy 22 = .ok (.aaload, 1) := by decide +kernel
theorem dX6_copy_23 : decode cX6_copy 23 = .ok (.astore 6, 2) := by decide +kernel
theorem dX6_copy_25 : decode cX6_copy 25 = .ok (.aload_n 0, 1) := by decide +kernel
theorem dX6_copy_26 : decode cX6_copy 26 = .ok (.getfield 59, 3) := by decide +kernel
theorem dX6_copy_29 : decode cX6_copy 29 = .ok (.iload_n 3, 1) := by decide +kernel
theorem dX6_copy_30 : decode cX6_copy 30 = .ok (.aaload, 1) := by decide +kernel
theorem dX6_copy_31 : decode cX6_copy 31 = .ok (.astore 7, 2) := by decide +kernel
theorem dX6_copy_33 : decode cX6_copy 33 = .ok (.aload 6, 2) := by decide +kernel
theorem dX6_copy_35 : decode cX6_copy 35 = .ok (.invokevirtual 260, 3) := by decide +kernel
theorem dX6_copy_38 : decode cX6_copy 38 = .ok (.ifCond .ne 11, 3) := by decide +kernel
theorem dX6_copy_41 : decode cX6_copy 41 = .ok (.aload 7, 2) := by decide +kernel
theorem dX6_copy_43 : decode cX6_copy 43 = .ok (.invokevirtual 260, 3) := by decide +kernel
theorem dX6_copy_46 : decode cX6_copy 46 = .ok (.ifCond .eq 6, 3) := by decide +kernel
theorem dX6_copy_49 : decode cX6_copy 49 = .ok (.bipush (-11), 2) := by decide +kernel
theorem dX6_copy_51 : decode cX6_copy 51 = .ok (.ireturn, 1) := by decide +kernel
theorem dX6_copy_52 : decode cX6_copy 52 = .ok (.aload 6, 2) := by decide +kernel
theorem dX6_copy_54 : decode cX6_copy 54 = .ok (.getfield 298, 3) := by decide +kernel
theorem dX6_copy_57 : decode cX6_copy 57 = .ok (.aload 7, 2) := by decide +kernel
theorem dX6_copy_59 : decode cX6_copy 59 = .ok (.getfield 298, 3) := by decide +kernel
theorem dX6_copy_62 : decode cX6_copy 62 = .ok (.if_icmp .eq 6, 3) := by decide +kernel
theorem dX6_copy_65 : decode cX6_copy 65 = .ok (.bipush (-13), 2) := by decide +kernel
theorem dX6_copy_67 : decode cX6_copy 67 = .ok (.ireturn, 1) := by decide +kernel
theorem dX6_copy_68 : decode cX6_copy 68 = .ok (.aload 6, 2) := by decide +kernel
theorem dX6_copy_70 : decode cX6_copy 70 = .ok (.iload_n 2, 1) := by decide +kernel
theorem dX6_copy_71 : decode cX6_copy 71 = .ok (.iload 5, 2) := by decide +kernel
theorem dX6_copy_73 : decode cX6_copy 73 = .ok (.invokevirtual 295, 3) := by decide +kernel
theorem dX6_copy_76 : decode cX6_copy 76 = .ok (.ifCond .eq 15, 3) := by decide +kernel
theorem dX6_copy_79 : decode cX6_copy 79 = .ok (.aload 7, 2) := by decide +kernel
theorem dX6_copy_81 : decode cX6_copy 81 = .ok (.iload 4, 2) := by decide +kernel
theorem dX6_copy_83 : decode cX6_copy 83 = .ok (.iload 5, 2) := by decide +kernel
theorem dX6_copy_85 : decode cX6_copy 85 = .ok (.invokevirtual 295, 3) := by decide +kernel
theorem dX6_copy_88 : decode cX6_copy 88 = .ok (.ifCond .ne 6, 3) := by decide +kernel
theorem dX6_copy_91 : decode cX6_copy 91 = .ok (.bipush (-12), 2) := by decide +kernel
theorem dX6_copy_93 : decode cX6_copy 93 = .ok (.ireturn, 1) := by decide +kernel
theorem dX6_copy_94 : decode cX6_copy 94 = .ok (.aload 6, 2) := by decide +kernel
theorem dX6_copy_96 : decode cX6_copy 96 = .ok (.getfield 275, 3) := by decide +kernel
theorem dX6_copy_99 : decode cX6_copy 99 = .ok (.iload_n 2, 1) := by decide +kernel
theorem dX6_copy_100 : decode cX6_copy 100 = .ok (.aload 7, 2) := by decide +kernel
theorem dX6_copy_102 : decode cX6_copy 102 = .ok (.getfield 275, 3) := by decide +kernel
theorem dX6_copy_105 : decode cX6_copy 105 = .ok (.iload 4, 2) := by decide +kernel
theorem dX6_copy_107 : decode cX6_copy 107 = .ok (.iload 5, 2) := by decide +kernel
theorem dX6_copy_109 : decode cX6_copy 109 = .ok (.invokestatic 301, 3) := by decide +kernel
theorem dX6_copy_112 : decode cX6_copy 112 = .ok (.iload 5, 2) := by decide +kernel
theorem dX6_copy_114 : decode cX6_copy 114 = .ok (.ireturn, 1) := by decide +kernel
theorem dX6_painters_0 : decode cX6_painters 0 = .ok (.iload_n 1, 1) := by decide +kernel
theorem dX6_painters_1 : decode cX6_painters 1 = .ok (.invokestatic 257, 3) := by decide +kernel
theorem dX6_painters_4 : decode cX6_painters 4 = .ok (.ifCond .eq 22, 3) := by decide +kernel
theorem dX6_painters_7 : decode cX6_painters 7 = .ok (.iload_n 2, 1) := by decide +kernel
theorem dX6_painters_8 : decode cX6_painters 8 = .ok (.invokestatic 292, 3) := by decide +kernel
theorem dX6_painters_11 : decode cX6_painters 11 = .ok (.ifCond .eq 15, 3) := by decide +kernel
theorem dX6_painters_14 : decode cX6_painters 14 = .ok (.iload 4, 2) := by decide +kernel
theorem dX6_painters_16 : decode cX6_painters 16 = .ok (.ifCond .lt 10, 3) := by decide +kernel
theorem dX6_painters_19 : decode cX6_painters 19 = .ok (.iload 4, 2) := by decide +kernel
theorem dX6_painters_21 : decode cX6_painters 21 = .ok (.bipush 6, 2) := by decide +kernel
theorem dX6_painters_23 : decode cX6_painters 23 = .ok (.if_icmp .le 6, 3) := by decide +kernel
theorem dX6_painters_26 : decode cX6_painters 26 = .ok (.bipush (-2), 2) := by decide +kernel
theorem dX6_painters_28 : decode cX6_painters 28 = .ok (.ireturn, 1) := by decide +kernel
theorem dX6_painters_29 : decode cX6_painters 29 = .ok (.aload_n 0, 1) := by decide +kernel
theorem dX6_painters_30 : decode cX6_painters 30 = .ok (.getfield 59, 3) := by decide +kernel
theorem dX6_painters_33 : decode cX6_painters 33 = .ok (.iload_n 1, 1) := by decide +kernel
theorem dX6_painters_34 : decode cX6_painters 34 = .ok (.aaload, 1) := by decide +kernel
theorem dX6_painters_35 : decode cX6_painters 35 = .ok (.astore 5, 2) := by decide +kernel
theorem dX6_painters_37 : decode cX6_painters 37 = .ok (.aload 5, 2) := by decide +kernel
theorem dX6_painters_39 : decode cX6_painters 39 = .ok (.invokevirtual 260, 3) := by decide +kernel
theorem dX6_painters_42 : decode cX6_painters 42 = .ok (.ifCond .eq 6, 3) := by decide +kernel
theorem dX6_painters_45 : decode cX6_painters 45 = .ok (.bipush (-11), 2) := by decide +kernel
theorem dX6_painters_47 : decode cX6_painters 47 = .ok (.ireturn, 1) := by decide +kernel
theorem dX6_painters_48 : decode cX6_painters 48 = .ok (.aload 5, 2) := by decide +kernel
theorem dX6_painters_50 : decode cX6_painters 50 = .ok (.getfield 298, 3) := by decide +kernel
theorem dX6_painters_53 : decode cX6_painters 53 = .ok (.iload_n 2, 1) := by decide +kernel
theorem dX6_painters_54 : decode cX6_painters 54 = .ok (.if_icmp .eq 6, 3) := by decide +kernel
theorem dX6_painters_57 : decode cX6_painters 57 = .ok (.bipush (-13), 2) := by decide +kernel
theorem dX6_painters_59 : decode cX6_painters 59 = .ok (.ireturn, 1) := by decide +kernel
theorem dX6_painters_60 : decode cX6_painters 60 = .ok (.iconst 0, 1) := by decide +kernel
theorem dX6_painters_61 : decode cX6_painters 61 = .ok (.istore 6, 2) := by decide +kernel
theorem dX6_painters_63 : decode cX6_painters 63 = .ok (.iload_n 3, 1) := by decide +kernel
theorem dX6_painters_64 : decode cX6_painters 64 = .ok (.istore 7, 2) := by decide +kernel
theorem dX6_painters_66 : decode cX6_painters 66 = .ok (.iconst 0, 1) := by decide +kernel
theorem dX6_painters_67 : decode cX6_painters 67 = .ok (.istore 8, 2) := by decide +kernel
theorem dX6_painters_69 : decode cX6_painters 69 = .ok (.iload 8, 2) := by decide +kernel
theorem dX6_painters_71 : decode cX6_painters 71 = .ok (.iload 4, 2) := by decide +kernel
theorem dX6_painters_73 : decode cX6_painters 73 = .ok (.if_icmp .ge 64, 3) := by decide +kernel
theorem dX6_painters_76 : decode cX6_painters 76 = .ok (.aload 5, 2) := by decide +kernel
theorem dX6_painters_78 : decode cX6_painters 78 = .ok (.iload 7, 2) := by decide +kernel
theorem dX6_painters_80 : decode cX6_painters 80 = .ok (.iconst 3, 1) := by decide +kernel
theorem dX6_painters_81 : decode cX6_painters 81 = .ok (.invokevirtual 295, 3) := by decide +kernel
theorem dX6_painters_84 : decode cX6_painters 84 = .ok (.ifCond .ne 6, 3) := by decide +kernel
theorem dX6_painters_87 : decode cX6_painters 87 = .ok (.bipush (-12), 2) := by decide +kernel
theorem dX6_painters_89 : decode cX6_painters 89 = .ok (.ireturn, 1) := by decide +kernel
theorem dX6_painters_90 : decode cX6_painters 90 = .ok (.aload_n 0, 1) := by decide +kernel
theorem dX6_painters_91 : decode cX6_painters 91 = .ok (.aload 5, 2) := by decide +kernel
theorem dX6_painters_93 : decode cX6_painters 93 = .ok (.getfield 275, 3) := by decide +kernel
theorem dX6_painters_96 : decode cX6_painters 96 = .ok (.iload 7, 2) := by decide +kernel
theorem dX6_painters_98 : decode cX6_painters 98 = .ok (.iaload, 1) := by decide +kernel
theorem dX6_painters_99 : decode cX6_painters 99 = .ok (.aload 5, 2) := by decide +kernel
theorem dX6_painters_101 : decode cX6_painters 101 = .ok (.getfield 275, 3) := by decide +kernel
theorem dX6_painters_104 : decode cX6_painters 104 = .ok (.iload 7, 2) := by decide +kernel
theorem dX6_painters_106 : decode cX6_painters 106 = .ok (.iconst 1, 1) := by decide +kernel
theorem dX6_painters_107 : decode cX6_painters 107 = .ok (.iadd, 1) := by decide +kernel
theorem dX6_painters_108 : decode cX6_painters 108 = .ok (.iaload, 1) := by decide +kernel
theorem dX6_painters_109 : decode cX6_painters 109 = .ok (.aload 5, 2) := by decide +kernel
theorem dX6_painters_111 : decode cX6_painters 111 = .ok (.getfield 275, 3) := by decide +kernel
theorem dX6_painters_114 : decode cX6_painters 114 = .ok (.iload 7, 2) := by decide +kernel
theorem dX6_painters_116 : decode cX6_painters 116 = .ok (.iconst 2, 1) := by decide +kernel
theorem dX6_painters_117 : decode cX6_painters 117 = .ok (.iadd, 1) := by decide +kernel
theorem dX6_painters_118 : decode cX6_painters 118 = .ok (.iaload, 1) := by decide +kernel
theorem dX6_painters_119 : decode cX6_painters 119 = .ok (.invokevirtual 307, 3) := by decide +kernel
theorem dX6_painters_122 : decode cX6_painters 122 = .ok (.ifCond .lt 6, 3) := by decide +kernel
theorem dX6_painters_125 : decode cX6_painters 125 = .ok (.iinc 6 1, 3) := by decide +kernel
theorem dX6_painters_128 : decode cX6_painters 128 = .ok (.iinc 7 3, 3) := by decide +kernel
theorem dX6_painters_131 : decode cX6_painters 131 = .ok (.iinc 8 1, 3) := by decide +kernel
theorem dX6_painters_134 : decode cX6_painters 134 = .ok (.goto (-65), 3) := by decide +kernel
theorem dX6_painters_137 : decode cX6_painters 137 = .ok (.iload 6, 2) := by decide +kernel
theorem dX6_painters_139 : decode cX6_painters 139 = .ok (.ireturn, 1) := by decide +kernel
theorem dX6_taken_0 : decode cX6_taken 0 = .ok (.iload_n 2, 1) := by decide +kernel
theorem dX6_taken_1 : decode cX6_taken 1 = .ok (.invokestatic 107, 3) := by decide +kernel
theorem dX6_taken_4 : decode cX6_taken 4 = .ok (.ifCond .ne 6, 3) := by decide +kernel
theorem dX6_taken_7 : decode cX6_taken 7 = .ok (.bipush (-2), 2) := by decide +kernel
theorem dX6_taken_9 : decode cX6_taken 9 = .ok (.ireturn, 1) := by decide +kernel
theorem dX6_taken_10 : decode cX6_taken 10 = .ok (.aload_n 0, 1) := by decide +kernel
theorem dX6_taken_11 : decode cX6_taken 11 = .ok (.getfield 12, 3) := by decide +kernel
theorem dX6_taken_14 : decode cX6_taken 14 = .ok (.iload_n 1, 1) := by decide +kernel
theorem dX6_taken_15 : decode cX6_taken 15 = .ok (.invokevirtual 100, 3) := by decide +kernel
theorem dX6_taken_18 : decode cX6_taken 18 = .ok (.ifCond .ne 6, 3) := by decide +kernel
theorem dX6_taken_21 : decode cX6_taken 21 = .ok (.bipush (-11), 2) := by decide +kernel
theorem dX6_taken_23 : decode cX6_taken 23 = .ok (.ireturn, 1) := by decide +kernel
theorem dX6_taken_24 : decode cX6_taken 24 = .ok (.aload_n 0, 1) := by decide +kernel
theorem dX6_taken_25 : decode cX6_taken 25 = .ok (.getfield 12, 3) := by decide +kernel
theorem dX6_taken_28 : decode cX6_taken 28 = .ok (.getfield 127, 3) := by decide +kernel
theorem dX6_taken_31 : decode cX6_taken 31 = .ok (.iload_n 1, 1) := by decide +kernel
theorem dX6_taken_32 : decode cX6_taken 32 = .ok (.iaload, 1) := by decide +kernel
theorem dX6_taken_33 : decode cX6_taken 33 = .ok (.iload_n 2, 1) := by decide +kernel
theorem dX6_taken_34 : decode cX6_taken 34 = .ok (.invokestatic 311, 3) := by decide +kernel
theorem dX6_taken_37 : decode cX6_taken 37 = .ok (.ifCond .eq 15, 3) := by decide +kernel
theorem dX6_taken_40 : decode cX6_taken 40 = .ok (.aload_n 0, 1) := by decide +kernel
theorem dX6_taken_41 : decode cX6_taken 41 = .ok (.getfield 12, 3) := by decide +kernel
theorem dX6_taken_44 : decode cX6_taken 44 = .ok (.getfield 272, 3) := by decide +kernel
theorem dX6_taken_47 : decode cX6_taken 47 = .ok (.iload_n 1, 1) := by decide +kernel
theorem dX6_taken_48 : decode cX6_taken 48 = .ok (.iaload, 1) := by decide +kernel
theorem dX6_taken_49 : decode cX6_taken 49 = .ok (.goto 5, 3) := by decide +kernel
theorem dX6_taken_52 : decode cX6_taken 52 = .ok (.bipush (-13), 2) := by decide +kernel
theorem dX6_taken_54 : decode cX6_taken 54 = .ok (.ireturn, 1) := by decide +kernel
theorem dX6_isOrUnder_0 : decode cX6_isOrUnder 0 = .ok (.iload_n 0, 1) := by decide +kernel
theorem dX6_isOrUnder_1 : decode cX6_isOrUnder 1 = .ok (.istore_n 2, 1) := by decide +kernel
theorem dX6_isOrUnder_2 : decode cX6_isOrUnder 2 = .ok (.iconst 0, 1) := by decide +kernel
theorem dX6_isOrUnder_3 : decode cX6_isOrUnder 3 = .ok (.istore_n 3, 1) := by decide +kernel
theorem dX6_isOrUnder_4 : decode cX6_isOrUnder 4 = .ok (.iload_n 3, 1) := by decide +kernel
theorem dX6_isOrUnder_5 : decode cX6_isOrUnder 5 = .ok (.bipush 6, 2) := by decide +kernel
theorem dX6_isOrUnder_7 : decode cX6_isOrUnder 7 = .ok (.if_icmp .ge 29, 3) := by decide +kernel
theorem dX6_isOrUnder_10 : decode cX6_isOrUnder 10 = .ok (.iload_n 2, 1) := by decide +kernel
theorem dX6_isOrUnder_11 : decode cX6_isOrUnder 11 = .ok (.invokestatic 107, 3) := by decide +kernel
theorem dX6_isOrUnder_14 : decode cX6_isOrUnder 14 = .ok (.ifCond .eq 22, 3) := by decide +kernel
theorem dX6_isOrUnder_17 : decode cX6_isOrUnder 17 = .ok (.iload_n 2, 1) := by decide +kernel
theorem dX6_isOrUnder_18 : decode cX6_isOrUnder 18 = .ok (.iload_n 1, 1) := by decide +kernel
theorem dX6_isOrUnder_19 : decode cX6_isOrUnder 19 = .ok (.if_icmp .ne 5, 3) := by decide +kernel
theorem dX6_isOrUnder_22 : decode cX6_isOrUnder 22 = .ok (.iconst 1, 1) := by decide +kernel
theorem dX6_isOrUnder_23 : decode cX6_isOrUnder 23 = .ok (.ireturn, 1) := by decide +kernel
theorem dX6_isOrUnder_24 : decode cX6_isOrUnder 24 = .ok (.getstatic 314, 3) := by decide +kernel
theorem dX6_isOrUnder_27 : decode cX6_isOrUnder 27 = .ok (.iload_n 2, 1) := by decide +kernel
theorem dX6_isOrUnder_28 : decode cX6_isOrUnder 28 = .ok (.iaload, 1) := by decide +kernel
theorem dX6_isOrUnder_29 : decode cX6_isOrUnder 29 = .ok (.istore_n 2, 1) := by decide +kernel
theorem dX6_isOrUnder_30 : decode cX6_isOrUnder 30 = .ok (.iinc 3 1, 3) := by decide +kernel
theorem dX6_isOrUnder_33 : decode cX6_isOrUnder 33 = .ok (.goto (-29), 3) := by decide +kernel
theorem dX6_isOrUnder_36 : decode cX6_isOrUnder 36 = .ok (.iconst 0, 1) := by decide +kernel
theorem dX6_isOrUnder_37 : decode cX6_isOrUnder 37 = .ok (.ireturn, 1) := by decide +kernel
theorem dX6_isEasel_0 : decode cX6_isEasel 0 = .ok (.iload_n 0, 1) := by decide +kernel
theorem dX6_isEasel_1 : decode cX6_isEasel 1 = .ok (.ifCond .lt 13, 3) := by decide +kernel
theorem dX6_isEasel_4 : decode cX6_isEasel 4 = .ok (.iload_n 0, 1) := by decide +kernel
theorem dX6_isEasel_5 : decode cX6_isEasel 5 = .ok (.bipush 11, 2) := by decide +kernel
theorem dX6_isEasel_7 : decode cX6_isEasel 7 = .ok (.if_icmp .ge 7, 3) := by decide +kernel
theorem dX6_isEasel_10 : decode cX6_isEasel 10 = .ok (.iconst 1, 1) := by decide +kernel
theorem dX6_isEasel_11 : decode cX6_isEasel 11 = .ok (.goto 4, 3) := by decide +kernel
theorem dX6_isEasel_14 : decode cX6_isEasel 14 = .ok (.iconst 0, 1) := by decide +kernel
theorem dX6_isEasel_15 : decode cX6_isEasel 15 = .ok (.ireturn, 1) := by decide +kernel
theorem dX6_isKind_0 : decode cX6_isKind 0 = .ok (.iload_n 0, 1) := by decide +kernel
theorem dX6_isKind_1 : decode cX6_isKind 1 = .ok (.ifCond .lt 13, 3) := by decide +kernel
theorem dX6_isKind_4 : decode cX6_isKind 4 = .ok (.iload_n 0, 1) := by decide +kernel
theorem dX6_isKind_5 : decode cX6_isKind 5 = .ok (.bipush 6, 2) := by decide +kernel
theorem dX6_isKind_7 : decode cX6_isKind 7 = .ok (.if_icmp .ge 7, 3) := by decide +kernel
theorem dX6_isKind_10 : decode cX6_isKind 10 = .ok (.iconst 1, 1) := by decide +kernel
theorem dX6_isKind_11 : decode cX6_isKind 11 = .ok (.goto 4, 3) := by decide +kernel
theorem dX6_isKind_14 : decode cX6_isKind 14 = .ok (.iconst 0, 1) := by decide +kernel
theorem dX6_isKind_15 : decode cX6_isKind 15 = .ok (.ireturn, 1) := by decide +kernel
theorem dX6_isSheet_0 : decode cX6_isSheet 0 = .ok (.iload_n 0, 1) := by decide +kernel
theorem dX6_isSheet_1 : decode cX6_isSheet 1 = .ok (.ifCond .lt 12, 3) := by decide +kernel
theorem dX6_isSheet_4 : decode cX6_isSheet 4 = .ok (.iload_n 0, 1) := by decide +kernel
theorem dX6_isSheet_5 : decode cX6_isSheet 5 = .ok (.iconst 4, 1) := by decide +kernel
theorem dX6_isSheet_6 : decode cX6_isSheet 6 = .ok (.if_icmp .ge 7, 3) := by decide +kernel
theorem dX6_isSheet_9 : decode cX6_isSheet 9 = .ok (.iconst 1, 1) := by decide +kernel
theorem dX6_isSheet_10 : decode cX6_isSheet 10 = .ok (.goto 4, 3) := by decide +kernel
theorem dX6_isSheet_13 : decode cX6_isSheet 13 = .ok (.iconst 0, 1) := by decide +kernel
theorem dX6_isSheet_14 : decode cX6_isSheet 14 = .ok (.ireturn, 1) := by decide +kernel
theorem dX6_isSort_0 : decode cX6_isSort 0 = .ok (.iload_n 0, 1) := by decide +kernel
theorem dX6_isSort_1 : decode cX6_isSort 1 = .ok (.ifCond .lt 12, 3) := by decide +kernel
theorem dX6_isSort_4 : decode cX6_isSort 4 = .ok (.iload_n 0, 1) := by decide +kernel
theorem dX6_isSort_5 : decode cX6_isSort 5 = .ok (.iconst 2, 1) := by decide +kernel
theorem dX6_isSort_6 : decode cX6_isSort 6 = .ok (.if_icmp .gt 7, 3) := by decide +kernel
theorem dX6_isSort_9 : decode cX6_isSort 9 = .ok (.iconst 1, 1) := by decide +kernel
theorem dX6_isSort_10 : decode cX6_isSort 10 = .ok (.goto 4, 3) := by decide +kernel
theorem dX6_isSort_13 : decode cX6_isSort 13 = .ok (.iconst 0, 1) := by decide +kernel
theorem dX6_isSort_14 : decode cX6_isSort 14 = .ok (.ireturn, 1) := by decide +kernel
theorem dX6_isPart_0 : decode cX6_isPart 0 = .ok (.iload_n 0, 1) := by decide +kernel
theorem dX6_isPart_1 : decode cX6_isPart 1 = .ok (.ifCond .eq 8, 3) := by decide +kernel
theorem dX6_isPart_4 : decode cX6_isPart 4 = .ok (.iload_n 0, 1) := by decide +kernel
theorem dX6_isPart_5 : decode cX6_isPart 5 = .ok (.iconst 1, 1) := by decide +kernel
theorem dX6_isPart_6 : decode cX6_isPart 6 = .ok (.if_icmp .ne 7, 3) := by decide +kernel
theorem dX6_isPart_9 : decode cX6_isPart 9 = .ok (.iconst 1, 1) := by decide +kernel
theorem dX6_isPart_10 : decode cX6_isPart 10 = .ok (.goto 4, 3) := by decide +kernel
theorem dX6_isPart_13 : decode cX6_isPart 13 = .ok (.iconst 0, 1) := by decide +kernel
theorem dX6_isPart_14 : decode cX6_isPart 14 = .ok (.ireturn, 1) := by decide +kernel
theorem dX6_isPoses_0 : decode cX6_isPoses 0 = .ok (.iload_n 0, 1) := by decide +kernel
theorem dX6_isPoses_1 : decode cX6_isPoses 1 = .ok (.ifCond .lt 13, 3) := by decide +kernel
theorem dX6_isPoses_4 : decode cX6_isPoses 4 = .ok (.iload_n 0, 1) := by decide +kernel
theorem dX6_isPoses_5 : decode cX6_isPoses 5 = .ok (.bipush 40, 2) := by decide +kernel
theorem dX6_isPoses_7 : decode cX6_isPoses 7 = .ok (.if_icmp .gt 7, 3) := by decide +kernel
theorem dX6_isPoses_10 : decode cX6_isPoses 10 = .ok (.iconst 1, 1) := by decide +kernel
theorem dX6_isPoses_11 : decode cX6_isPoses 11 = .ok (.goto 4, 3) := by decide +kernel
theorem dX6_isPoses_14 : decode cX6_isPoses 14 = .ok (.iconst 0, 1) := by decide +kernel
theorem dX6_isPoses_15 : decode cX6_isPoses 15 = .ok (.ireturn, 1) := by decide +kernel
theorem dX6_isTurnStep_0 : decode cX6_isTurnStep 0 = .ok (.iload_n 0, 1) := by decide +kernel
theorem dX6_isTurnStep_1 : decode cX6_isTurnStep 1 = .ok (.ifCond .lt 25, 3) := by decide +kernel
theorem dX6_isTurnStep_4 : decode cX6_isTurnStep 4 = .ok (.iload_n 0, 1) := by decide +kernel
theorem dX6_isTurnStep_5 : decode cX6_isTurnStep 5 = .ok (.bipush 100, 2) := by decide +kernel
theorem dX6_isTurnStep_7 : decode cX6_isTurnStep 7 = .ok (.idiv, 1) := by decide +kernel
theorem dX6_isTurnStep_8 : decode cX6_isTurnStep 8 = .ok (.bipush 11, 2) := by decide +kernel
theorem dX6_isTurnStep_10 : decode cX6_isTurnStep 10 = .ok (.if_icmp .ge 16, 3) := by decide +kernel
theorem dX6_isTurnStep_13 : decode cX6_isTurnStep 13 = .ok (.iload_n 0, 1) := by decide +kernel
theorem dX6_isTurnStep_14 : decode cX6_isTurnStep 14 = .ok (.bipush 100, 2) := by decide +kernel
theorem dX6_isTurnStep_16 : decode cX6_isTurnStep 16 = .ok (.irem, 1) := by decide +kernel
theorem dX6_isTurnStep_17 : decode cX6_isTurnStep 17 = .ok (.bipush 11, 2) := by decide +kernel
theorem dX6_isTurnStep_19 : decode cX6_isTurnStep 19 = .ok (.if_icmp .ge 7, 3) := by decide +kernel
theorem dX6_isTurnStep_22 : decode cX6_isTurnStep 22 = .ok (.iconst 1, 1) := by decide +kernel
theorem dX6_isTurnStep_23 : decode cX6_isTurnStep 23 = .ok (.goto 4, 3) := by decide +kernel
theorem dX6_isTurnStep_26 : decode cX6_isTurnStep 26 = .ok (.iconst 0, 1) := by decide +kernel
theorem dX6_isTurnStep_27 : decode cX6_isTurnStep 27 = .ok (.ireturn, 1) := by decide +kernel
theorem dX6_within_0 : decode cX6_within 0 = .ok (.iload_n 0, 1) := by decide +kernel
theorem dX6_within_1 : decode cX6_within 1 = .ok (.iload_n 1, 1) := by decide +kernel
theorem dX6_within_2 : decode cX6_within 2 = .ok (.iload_n 2, 1) := by decide +kernel
theorem dX6_within_3 : decode cX6_within 3 = .ok (.invokestatic 317, 3) := by decide +kernel
theorem dX6_within_6 : decode cX6_within 6 = .ok (.invokestatic 322, 3) := by decide +kernel
theorem dX6_within_9 : decode cX6_within 9 = .ok (.ireturn, 1) := by decide +kernel
theorem dX6_lowest_0 : decode cX6_lowest 0 = .ok (.iload_n 1, 1) := by decide +kernel
theorem dX6_lowest_1 : decode cX6_lowest 1 = .ok (.istore_n 3, 1) := by decide +kernel
theorem dX6_lowest_2 : decode cX6_lowest 2 = .ok (.iload_n 0, 1) := by decide +kernel
theorem dX6_lowest_3 : decode cX6_lowest 3 = .ok (.invokestatic 325, 3) := by decide +kernel
theorem dX6_lowest_6 : decode cX6_lowest 6 = .ok (.istore 4, 2) := by decide +kernel
theorem dX6_lowest_8 : decode cX6_lowest 8 = .ok (.iconst 0, 1) := by decide +kernel
theorem dX6_lowest_9 : decode cX6_lowest 9 = .ok (.istore 5, 2) := by decide +kernel
theorem dX6_lowest_11 : decode cX6_lowest 11 = .ok (.iload 5, 2) := by decide +kernel
theorem dX6_lowest_13 : decode cX6_lowest 13 = .ok (.bipush 100, 2) := by decide +kernel
theorem dX6_lowest_15 : decode cX6_lowest 15 = .ok (.if_icmp .ge 27, 3) := by decide +kernel
theorem dX6_lowest_18 : decode cX6_lowest 18 = .ok (.iload 4, 2) := by decide +kernel
theorem dX6_lowest_20 : decode cX6_lowest 20 = .ok (.ifCond .eq 22, 3) := by decide +kernel
theorem dX6_lowest_23 : decode cX6_lowest 23 = .ok (.iload_n 3, 1) := by decide +kernel
theorem dX6_lowest_24 : decode cX6_lowest 24 = .ok (.iload 4, 2) := by decide +kernel
theorem dX6_lowest_26 : decode cX6_lowest 26 = .ok (.irem, 1) := by decide +kernel
theorem dX6_lowest_27 : decode cX6_lowest 27 = .ok (.istore 6, 2) := by decide +kernel
theorem dX6_lowest_29 : decode cX6_lowest 29 = .ok (.iload 4, 2) := by decide +kernel
theorem dX6_lowest_31 : decode cX6_lowest 31 = .ok (.istore_n 3, 1) := by decide +kernel
theorem dX6_lowest_32 : decode cX6_lowest 32 = .ok (.iload 6, 2) := by decide +kernel
theorem dX6_lowest_34 : decode cX6_lowest 34 = .ok (.istore 4, 2) := by decide +kernel
theorem dX6_lowest_36 : decode cX6_lowest 36 = .ok (.iinc 5 1, 3) := by decide +kernel
theorem dX6_lowest_39 : decode cX6_lowest 39 = .ok (.goto (-28), 3) := by decide +kernel
theorem dX6_lowest_42 : decode cX6_lowest 42 = .ok (.iload_n 3, 1) := by decide +kernel
theorem dX6_lowest_43 : decode cX6_lowest 43 = .ok (.ifCond .ne 7, 3) := by decide +kernel
theorem dX6_lowest_46 : decode cX6_lowest 46 = .ok (.ldc2_w 227, 3) := by decide +kernel
theorem dX6_lowest_49 : decode cX6_lowest 49 = .ok (.lreturn, 1) := by decide +kernel
theorem dX6_lowest_50 : decode cX6_lowest 50 = .ok (.iload_n 2, 1) := by decide +kernel
theorem dX6_lowest_51 : decode cX6_lowest 51 = .ok (.ifCond .ne 10, 3) := by decide +kernel
theorem dX6_lowest_54 : decode cX6_lowest 54 = .ok (.iload_n 0, 1) := by decide +kernel
theorem dX6_lowest_55 : decode cX6_lowest 55 = .ok (.iload_n 3, 1) := by decide +kernel
theorem dX6_lowest_56 : decode cX6_lowest 56 = .ok (.idiv, 1) := by decide +kernel
theorem dX6_lowest_57 : decode cX6_lowest 57 = .ok (.i2l, 1) := by decide +kernel
theorem dX6_lowest_58 : decode cX6_lowest 58 = .ok (.goto 7, 3) := by decide +kernel
theorem dX6_lowest_61 : decode cX6_lowest 61 = .ok (.iload_n 1, 1) := by decide +kernel
theorem dX6_lowest_62 : decode cX6_lowest 62 = .ok (.iload_n 3, 1) := by decide +kernel
theorem dX6_lowest_63 : decode cX6_lowest 63 = .ok (.idiv, 1) := by decide +kernel
theorem dX6_lowest_64 : decode cX6_lowest 64 = .ok (.i2l, 1) := by decide +kernel
theorem dX6_lowest_65 : decode cX6_lowest 65 = .ok (.lreturn, 1) := by decide +kernel
theorem dX6_pleasedBy_0 : decode cX6_pleasedBy 0 = .ok (.aload_n 0, 1) := by decide +kernel
theorem dX6_pleasedBy_1 : decode cX6_pleasedBy 1 = .ok (.getfield 46, 3) := by decide +kernel
theorem dX6_pleasedBy_4 : decode cX6_pleasedBy 4 = .ok (.aload_n 1, 1) := by decide +kernel
theorem dX6_pleasedBy_5 : decode cX6_pleasedBy 5 = .ok (.iload_n 2, 1) := by decide +kernel
theorem dX6_pleasedBy_6 : decode cX6_pleasedBy 6 = .ok (.aload_n 0, 1) := by decide +kernel
theorem dX6_pleasedBy_7 : decode cX6_pleasedBy 7 = .ok (.getfield 35, 3) := by decide +kernel
theorem dX6_pleasedBy_10 : decode cX6_pleasedBy 10 = .ok (.invokevirtual 123, 3) := by decide +kernel
theorem dX6_pleasedBy_13 : decode cX6_pleasedBy 13 = .ok (.aload_n 1, 1) := by decide +kernel
theorem dX6_pleasedBy_14 : decode cX6_pleasedBy 14 = .ok (.getfield 127, 3) := by decide +kernel
theorem dX6_pleasedBy_17 : decode cX6_pleasedBy 17 = .ok (.iload_n 2, 1) := by decide +kernel
theorem dX6_pleasedBy_18 : decode cX6_pleasedBy 18 = .ok (.iaload, 1) := by decide +kernel
theorem dX6_pleasedBy_19 : decode cX6_pleasedBy 19 = .ok (.istore_n 3, 1) := by decide +kernel
theorem dX6_pleasedBy_20 : decode cX6_pleasedBy 20 = .ok (.aload_n 0, 1) := by decide +kernel
theorem dX6_pleasedBy_21 : decode cX6_pleasedBy 21 = .ok (.getfield 46, 3) := by decide +kernel
theorem dX6_pleasedBy_24 : decode cX6_pleasedBy 24 = .ok (.iload_n 3, 1) := by decide +kernel
theorem dX6_pleasedBy_25 : decode cX6_pleasedBy 25 = .ok (.invokevirtual 131, 3) := by decide +kernel
theorem dX6_pleasedBy_28 : decode cX6_pleasedBy 28 = .ok (.aload_n 0, 1) := by decide +kernel
theorem dX6_pleasedBy_29 : decode cX6_pleasedBy 29 = .ok (.getfield 46, 3) := by decide +kernel
theorem dX6_pleasedBy_32 : decode cX6_pleasedBy 32 = .ok (.iload_n 3, 1) := by decide +kernel
theorem dX6_pleasedBy_33 : decode cX6_pleasedBy 33 = .ok (.invokevirtual 135, 3) := by decide +kernel
theorem dX6_pleasedBy_36 : decode cX6_pleasedBy 36 = .ok (.iadd, 1) := by decide +kernel
theorem dX6_pleasedBy_37 : decode cX6_pleasedBy 37 = .ok (.aload_n 0, 1) := by decide +kernel
theorem dX6_pleasedBy_38 : decode cX6_pleasedBy 38 = .ok (.getfield 46, 3) := by decide +kernel
theorem dX6_pleasedBy_41 : decode cX6_pleasedBy 41 = .ok (.iload_n 3, 1) := by decide +kernel
theorem dX6_pleasedBy_42 : decode cX6_pleasedBy 42 = .ok (.invokevirtual 138, 3) := by decide +kernel
theorem dX6_pleasedBy_45 : decode cX6_pleasedBy 45 = .ok (.isub, 1) := by decide +kernel
theorem dX6_pleasedBy_46 : decode cX6_pleasedBy 46 = .ok (.ireturn, 1) := by decide +kernel
theorem dX6_wholeOf_0 : decode cX6_wholeOf 0 = .ok (.iconst 0, 1) := by decide +kernel
theorem dX6_wholeOf_1 : decode cX6_wholeOf 1 = .ok (.istore_n 2, 1) := by decide +kernel
theorem dX6_wholeOf_2 : decode cX6_wholeOf 2 = .ok (.iconst 0, 1) := by decide +kernel
theorem dX6_wholeOf_3 : decode cX6_wholeOf 3 = .ok (.istore_n 3, 1) := by decide +kernel
theorem dX6_wholeOf_4 : decode cX6_wholeOf 4 = .ok (.iload_n 3, 1) := by decide +kernel
theorem dX6_wholeOf_5 : decode cX6_wholeOf 5 = .ok (.aload_n 1, 1) := by decide +kernel
theorem dX6_wholeOf_6 : decode cX6_wholeOf 6 = .ok (.getfield 113, 3) := by decide +kernel
theorem dX6_wholeOf_9 : decode cX6_wholeOf 9 = .ok (.if_icmp .ge 18, 3) := by decide +kernel
theorem dX6_wholeOf_12 : decode cX6_wholeOf 12 = .ok (.iload_n 2, 1) := by decide +kernel
theorem dX6_wholeOf_13 : decode cX6_wholeOf 13 = .ok (.aload_n 0, 1) := by decide +kernel
theorem dX6_wholeOf_14 : decode cX6_wholeOf 14 = .ok (.aload_n 1, 1) := by decide +kernel
theorem dX6_wholeOf_15 : decode cX6_wholeOf 15 = .ok (.iload_n 3, 1) := by decide +kernel
theorem dX6_wholeOf_16 : decode cX6_wholeOf 16 = .ok (.invokevirtual 141, 3) := by decide +kernel
theorem dX6_wholeOf_19 : decode cX6_wholeOf 19 = .ok (.iadd, 1) := by decide +kernel
theorem dX6_wholeOf_20 : decode cX6_wholeOf 20 = .ok (.istore_n 2, 1) := by decide +kernel
theorem dX6_wholeOf_21 : decode cX6_wholeOf 21 = .ok (.iinc 3 1, 3) := by decide +kernel
theorem dX6_wholeOf_24 : decode cX6_wholeOf 24 = .ok (.goto (-20), 3) := by decide +kernel
theorem dX6_wholeOf_27 : decode cX6_wholeOf 27 = .ok (.iload_n 2, 1) := by decide +kernel
theorem dX6_wholeOf_28 : decode cX6_wholeOf 28 = .ok (.ireturn, 1) := by decide +kernel
theorem dX6_pass_0 : decode cX6_pass 0 = .ok (.iconst 0, 1) := by decide +kernel
theorem dX6_pass_1 : decode cX6_pass 1 = .ok (.istore 4, 2) := by decide +kernel
theorem dX6_pass_3 : decode cX6_pass 3 = .ok (.iload 4, 2) := by decide +kernel
theorem dX6_pass_5 : decode cX6_pass 5 = .ok (.aload_n 1, 1) := by decide +kernel
theorem dX6_pass_6 : decode cX6_pass 6 = .ok (.getfield 113, 3) := by decide +kernel
theorem dX6_pass_9 : decode cX6_pass 9 = .ok (.if_icmp .ge 22, 3) := by decide +kernel
theorem dX6_pass_12 : decode cX6_pass 12 = .ok (.aload_n 1, 1) := by decide +kernel
theorem dX6_pass_13 : decode cX6_pass 13 = .ok (.iload 4, 2) := by decide +kernel
theorem dX6_pass_15 : decode cX6_pass 15 = .ok (.aload_n 0, 1) := by decide +kernel
theorem dX6_pass_16 : decode cX6_pass 16 = .ok (.aload_n 1, 1) := by decide +kernel
theorem dX6_pass_17 : decode cX6_pass 17 = .ok (.iload 4, 2) := by decide +kernel
theorem dX6_pass_19 : decode cX6_pass 19 = .ok (.invokevirtual 141, 3) := by decide +kernel
theorem dX6_pass_22 : decode cX6_pass 22 = .ok (.invokevirtual 328, 3) := by decide +kernel
theorem dX6_pass_25 : decode cX6_pass 25 = .ok (.iinc 4 1, 3) := by decide +kernel
theorem dX6_pass_28 : decode cX6_pass 28 = .ok (.goto (-25), 3) := by decide +kernel
theorem dX6_pass_31 : decode cX6_pass 31 = .ok (.aload_n 1, 1) := by decide +kernel
theorem dX6_pass_32 : decode cX6_pass 32 = .ok (.invokevirtual 251, 3) := by decide +kernel
theorem dX6_pass_35 : decode cX6_pass 35 = .ok (.aload_n 1, 1) := by decide +kernel
theorem dX6_pass_36 : decode cX6_pass 36 = .ok (.iload_n 2, 1) := by decide +kernel
theorem dX6_pass_37 : decode cX6_pass 37 = .ok (.iload_n 3, 1) := by decide +kernel
theorem dX6_pass_38 : decode cX6_pass 38 = .ok (.invokevirtual 254, 3) := by decide +kernel
theorem dX6_pass_41 : decode cX6_pass 41 = .ok (.return_, 1) := by decide +kernel
theorem dX6_beginThought_0 : decode cX6_beginThought 0 = .ok (.aload_n 0, 1) := by decide +kernel
theorem dX6_beginThought_1 : decode cX6_beginThought 1 = .ok (.getfield 16, 3) := by decide +kernel
theorem dX6_beginThought_4 : decode cX6_beginThought 4 = .ok (.aload_n 0, 1) := by decide +kernel
theorem dX6_beginThought_5 : decode cX6_beginThought 5 = .ok (.getfield 12, 3) := by decide +kernel
theorem dX6_beginThought_8 : decode cX6_beginThought 8 = .ok (.invokevirtual 217, 3) := by decide +kernel
theorem dX6_beginThought_11 : decode cX6_beginThought 11 = .ok (.aload_n 0, 1) := by decide +kernel
theorem dX6_beginThought_12 : decode cX6_beginThought 12 = .ok (.getfield 16, 3) := by decide +kernel
theorem dX6_beginThought_15 : decode cX6_beginThought 15 = .ok (.getfield 192, 3) := by decide +kernel
theorem dX6_beginThought_18 : decode cX6_beginThought 18 = .ok (.iconst 0, 1) := by decide +kernel
theorem dX6_beginThought_19 : decode cX6_beginThought 19 = .ok (.invokestatic 331, 3) := by decide +kernel
theorem dX6_beginThought_22 : decode cX6_beginThought 22 = .ok (.return_, 1) := by decide +kernel
theorem dX6_think_0 : decode cX6_think 0 = .ok (.aload_n 0, 1) := by decide +kernel
theorem dX6_think_1 : decode cX6_think 1 = .ok (.invokevirtual 286, 3) := by decide +kernel
theorem dX6_think_4 : decode cX6_think 4 = .ok (.iconst 0, 1) := by decide +kernel
theorem dX6_think_5 : decode cX6_think 5 = .ok (.istore 4, 2) := by decide +kernel
theorem dX6_think_7 : decode cX6_think 7 = .ok (.iload 4, 2) := by decide +kernel
theorem dX6_think_9 : decode cX6_think 9 = .ok (.iload_n 1, 1) := by decide +kernel
theorem dX6_think_10 : decode cX6_think 10 = .ok (.if_icmp .ge 19, 3) := by decide +kernel
theorem dX6_think_13 : decode cX6_think 13 = .ok (.aload_n 0, 1) := by decide +kernel
theorem dX6_think_14 : decode cX6_think 14 = .ok (.aload_n 0, 1) := by decide +kernel
theorem dX6_think_15 : decode cX6_think 15 = .ok (.getfield 16, 3) := by decide +kernel
theorem dX6_think_18 : decode cX6_think 18 = .ok (.iload_n 2, 1) := by decide +kernel
theorem dX6_think_19 : decode cX6_think 19 = .ok (.iload_n 3, 1) := by decide +kernel
theorem dX6_think_20 : decode cX6_think 20 = .ok (.invokevirtual 167, 3) := by decide +kernel
theorem dX6_think_23 : decode cX6_think 23 = .ok (.iinc 4 1, 3) := by decide +kernel
theorem dX6_think_26 : decode cX6_think 26 = .ok (.goto (-19), 3) := by decide +kernel
theorem dX6_think_29 : decode cX6_think 29 = .ok (.return_, 1) := by decide +kernel
theorem dX7_in_0 : decode cX7_in 0 = .ok (.lload_n 0, 1) := by decide +kernel
theorem dX7_in_1 : decode cX7_in 1 = .ok (.lload_n 2, 1) := by decide +kernel
theorem dX7_in_2 : decode cX7_in 2 = .ok (.lcmp, 1) := by decide +kernel
theorem dX7_in_3 : decode cX7_in 3 = .ok (.ifCond .lt 14, 3) := by decide +kernel
theorem dX7_in_6 : decode cX7_in 6 = .ok (.lload_n 0, 1) := by decide +kernel
theorem dX7_in_7 : decode cX7_in 7 = .ok (.lload 4, 2) := by decide +kernel
theorem dX7_in_9 : decode cX7_in 9 = .ok (.lcmp, 1) := by decide +kernel
theorem dX7_in_10 : decode cX7_in 10 = .ok (.ifCond .gt 7, 3) := by decide +kernel
theorem dX7_in_13 : decode cX7_in 13 = .ok (.iconst 1, 1) := by decide +kernel
theorem dX7_in_14 : decode cX7_in 14 = .ok (.goto 4, 3) := by decide +kernel
theorem dX7_in_17 : decode cX7_in 17 = .ok (.iconst 0, 1) := by decide +kernel
theorem dX7_in_18 : decode cX7_in 18 = .ok (.ireturn, 1) := by decide +kernel
theorem dX7_within_0 : decode cX7_within 0 = .ok (.iload_n 0, 1) := by decide +kernel
theorem dX7_within_1 : decode cX7_within 1 = .ok (.iload_n 1, 1) := by decide +kernel
theorem dX7_within_2 : decode cX7_within 2 = .ok (.if_icmp .ge 7, 3) := by decide +kernel
theorem dX7_within_5 : decode cX7_within 5 = .ok (.iload_n 1, 1) := by decide +kernel
theorem dX7_within_6 : decode cX7_within 6 = .ok (.goto 13, 3) := by decide +kernel
theorem dX7_within_9 : decode cX7_within 9 = .ok (.iload_n 0, 1) := by decide +kernel
theorem dX7_within_10 : decode cX7_within 10 = .ok (.iload_n 2, 1) := by decide +kernel
theorem dX7_within_11 : decode cX7_within 11 = .ok (.if_icmp .le 7, 3) := by decide +kernel
theorem dX7_within_14 : decode cX7_within 14 = .ok (.iload_n 2, 1) := by decide +kernel
theorem dX7_within_15 : decode cX7_within 15 = .ok (.goto 4, 3) := by decide +kernel
theorem dX7_within_18 : decode cX7_within 18 = .ok (.iload_n 0, 1) := by decide +kernel
theorem dX7_within_19 : decode cX7_within 19 = .ok (.ireturn, 1) := by decide +kernel
theorem dX7_init_0 : decode cX7_init 0 = .ok (.aload_n 0, 1) := by decide +kernel
theorem dX7_init_1 : decode cX7_init 1 = .ok (.invokespecial 7, 3) := by decide +kernel
theorem dX7_init_4 : decode cX7_init 4 = .ok (.aload_n 0, 1) := by decide +kernel
theorem dX7_init_5 : decode cX7_init 5 = .ok (.sipush 960, 3) := by decide +kernel
theorem dX7_init_8 : decode cX7_init 8 = .ok (.newarray .int, 2) := by decide +kernel
theorem dX7_init_10 : decode cX7_init 10 = .ok (.putfield 13, 3) := by decide +kernel
theorem dX7_init_13 : decode cX7_init 13 = .ok (.aload_n 0, 1) := by decide +kernel
theorem dX7_init_14 : decode cX7_init 14 = .ok (.bipush 6, 2) := by decide +kernel
theorem dX7_init_16 : decode cX7_init 16 = .ok (.newarray .int, 2) := by decide +kernel
theorem dX7_init_18 : decode cX7_init 18 = .ok (.putfield 17, 3) := by decide +kernel
theorem dX7_init_21 : decode cX7_init 21 = .ok (.aload_n 0, 1) := by decide +kernel
theorem dX7_init_22 : decode cX7_init 22 = .ok (.sipush 160, 3) := by decide +kernel
theorem dX7_init_25 : decode cX7_init 25 = .ok (.newarray .int, 2) := by decide +kernel
theorem dX7_init_27 : decode cX7_init 27 = .ok (.putfield 20, 3) := by decide +kernel
theorem dX7_init_30 : decode cX7_init 30 = .ok (.aload_n 0, 1) := by decide +kernel
theorem dX7_init_31 : decode cX7_init 31 = .ok (.iconst 4, 1) := by decide +kernel
theorem dX7_init_32 : decode cX7_init 32 = .ok (.newarray .int, 2) := by decide +kernel
theorem dX7_init_34 : decode cX7_init 34 = .ok (.putfield 23, 3) := by decide +kernel
theorem dX7_init_37 : decode cX7_init 37 = .ok (.aload_n 0, 1) := by decide +kernel
theorem dX7_init_38 : decode cX7_init 38 = .ok (.bipush 6, 2) := by decide +kernel
theorem dX7_init_40 : decode cX7_init 40 = .ok (.newarray .int, 2) := by decide +kernel
theorem dX7_init_42 : decode cX7_init 42 = .ok (.putfield 26, 3) := by decide +kernel
theorem dX7_init_45 : decode cX7_init 45 = .ok (.aload_n 0, 1) := by decide +kernel
theorem dX7_init_46 : decode cX7_init 46 = .ok (.bipush 24, 2) := by decide +kernel
theorem dX7_init_48 : decode cX7_init 48 = .ok (.newarray .int, 2) := by decide +kernel
theorem dX7_init_50 : decode cX7_init 50 = .ok (.putfield 29, 3) := by decide +kernel
theorem dX7_init_53 : decode cX7_init 53 = .ok (.aload_n 0, 1) := by decide +kernel
theorem dX7_init_54 : decode cX7_init 54 = .ok (.bipush 6, 2) := by decide +kernel
theorem dX7_init_56 : decode cX7_init 56 = .ok (.newarray .int, 2) := by decide +kernel
theorem dX7_init_58 : decode cX7_init 58 = .ok (.putfield 32, 3) := by decide +kernel
theorem dX7_init_61 : decode cX7_init 61 = .ok (.aload_n 0, 1) := by decide +kernel
theorem dX7_init_62 : decode cX7_init 62 = .ok (.bipush 6, 2) := by decide +kernel
theorem dX7_init_64 : decode cX7_init 64 = .ok (.newarray .int, 2) := by decide +kernel
theorem dX7_init_66 : decode cX7_init 66 = .ok (.putfield 35, 3) := by decide +kernel
theorem dX7_init_69 : decode cX7_init 69 = .ok (.aload_n 0, 1) := by decide +kernel
theorem dX7_init_70 : decode cX7_init 70 = .ok (.bipush 24, 2) := by decide +kernel
theorem dX7_init_72 : decode cX7_init 72 = .ok (.newarray .int, 2) := by decide +kernel
theorem dX7_init_74 : decode cX7_init 74 = .ok (.putfield 38, 3) := by decide +kernel
theorem dX7_init_77 : decode cX7_init 77 = .ok (.aload_n 0, 1) := by decide +kernel
theorem dX7_init_78 : decode cX7_init 78 = .ok (.iconst 4, 1) := by decide +kernel
theorem dX7_init_79 : decode cX7_init 79 = .ok (.newarray .int, 2) := by decide +kernel
theorem dX7_init_81 : decode cX7_init 81 = .ok (.putfield 41, 3) := by decide +kernel
theorem dX7_init_84 : decode cX7_init 84 = .ok (.aload_n 0, 1) := by decide +kernel
theorem dX7_init_85 : decode cX7_init 85 = .ok (.bipush 24, 2) := by decide +kernel
theorem dX7_init_87 : decode cX7_init 87 = .ok (.newarray .int, 2) := by decide +kernel
theorem dX7_init_89 : decode cX7_init 89 = .ok (.putfield 44, 3) := by decide +kernel
theorem dX7_init_92 : decode cX7_init 92 = .ok (.aload_n 0, 1) := by decide +kernel
theorem dX7_init_93 : decode cX7_init 93 = .ok (.iconst (-1), 1) := by decide +kernel
theorem dX7_init_94 : decode cX7_init 94 = .ok (.putfield 47, 3) := by decide +kernel
theorem dX7_init_97 : decode cX7_init 97 = .ok (.aload_n 0, 1) := by decide +kernel
theorem dX7_init_98 : decode cX7_init 98 = .ok (.iconst 4, 1) := by decide +kernel
theorem dX7_init_99 : decode cX7_init 99 = .ok (.newarray .boolean, 2) := by decide +kernel
theorem dX7_init_101 : decode cX7_init 101 = .ok (.putfield 50, 3) := by decide +kernel
theorem dX7_init_104 : decode cX7_init 104 = .ok (.aload_n 0, 1) := by decide +kernel
theorem dX7_init_105 : decode cX7_init 105 = .ok (.iconst 4, 1) := by decide +kernel
theorem dX7_init_106 : decode cX7_init 106 = .ok (.newarray .int, 2) := by decide +kernel
theorem dX7_init_108 : decode cX7_init 108 = .ok (.putfield 54, 3) := by decide +kernel
theorem dX7_init_111 : decode cX7_init 111 = .ok (.aload_n 0, 1) := by decide +kernel
theorem dX7_init_112 : decode cX7_init 112 = .ok (.iconst 4, 1) := by decide +kernel
theorem dX7_init_113 : decode cX7_init 113 = .ok (.newarray .int, 2) := by decide +kernel
theorem dX7_init_115 : decode cX7_init 115 = .ok (.putfield 57, 3) := by decide +kernel
theorem dX7_init_118 : decode cX7_init 118 = .ok (.aload_n 0, 1) := by decide +kernel
theorem dX7_init_119 : decode cX7_init 119 = .ok (.sipush 160, 3) := by decide +kernel
theorem dX7_init_122 : decode cX7_init 122 = .ok (.newarray .int, 2) := by decide +kernel
theorem dX7_init_124 : decode cX7_init 124 = .ok (.putfield 60, 3) := by decide +kernel
theorem dX7_init_127 : decode cX7_init 127 = .ok (.aload_n 0, 1) := by decide +kernel
theorem dX7_init_128 : decode cX7_init 128 = .ok (.getfield 23, 3) := by decide +kernel
theorem dX7_init_131 : decode cX7_init 131 = .ok (.iconst 2, 1) := by decide +kernel
theorem dX7_init_132 : decode cX7_init 132 = .ok (.iconst 5, 1) := by decide +kernel
theorem dX7_init_133 : decode cX7_init 133 = .ok (.iastore, 1) := by decide +kernel
theorem dX7_init_134 : decode cX7_init 134 = .ok (.aload_n 0, 1) := by decide +kernel
theorem dX7_init_135 : decode cX7_init 135 = .ok (.iconst 0, 1) := by decide +kernel
theorem dX7_init_136 : decode cX7_init 136 = .ok (.bipush 118, 2) := by decide +kernel
theorem dX7_init_138 : decode cX7_init 138 = .ok (.bipush 105, 2) := by decide +kernel
theorem dX7_init_140 : decode cX7_init 140 = .ok (.bipush 101, 2) := by decide +kernel
theorem dX7_init_142 : decode cX7_init 142 = .ok (.bipush 119, 2) := by decide +kernel
theorem dX7_init_144 : decode cX7_init 144 = .ok (.bipush 115, 2) := by decide +kernel
theorem dX7_init_146 : decode cX7_init 146 = .ok (.bipush 32, 2) := by decide +kernel
theorem dX7_init_148 : decode cX7_init 148 = .ok (.bipush 49, 2) := by decide +kernel
theorem dX7_init_150 : decode cX7_init 150 = .ok (.bipush 48, 2) := by decide +kernel
theorem dX7_init_152 : decode cX7_init 152 = .ok (.invokevirtual 63, 3) := by decide +kernel
theorem dX7_init_155 : decode cX7_init 155 = .ok (.aload_n 0, 1) := by decide +kernel
theorem dX7_init_156 : decode cX7_init 156 = .ok (.bipush 8, 2) := by decide +kernel
theorem dX7_init_158 : decode cX7_init 158 = .ok (.bipush 32, 2) := by decide +kernel
theorem dX7_init_160 : decode cX7_init 160 = .ok (.bipush 45, 2) := by decide +kernel
theorem dX7_init_162 : decode cX7_init 162 = .ok (.bipush 32, 2) := by decide +kernel
theorem dX7_init_164 : decode cX7_init 164 = .ok (.bipush 115, 2) := by decide +kernel
theorem dX7_init_166 : decode cX7_init 166 = .ok (.bipush 105, 2) := by decide +kernel
theorem dX7_init_168 : decode cX7_init 168 = .ok (.bipush 100, 2) := by decide +kernel
theorem dX7_init_170 : decode cX7_init 170 = .ok (.bipush 101, 2) := by decide +kernel
theorem dX7_init_172 : decode cX7_init 172 = .ok (.bipush 32, 2) := by decide +kernel
theorem dX7_init_174 : decode cX7_init 174 = .ok (.invokevirtual 63, 3) := by decide +kernel
theorem dX7_init_177 : decode cX7_init 177 = .ok (.aload_n 0, 1) := by decide +kernel
theorem dX7_init_178 : decode cX7_init 178 = .ok (.bipush 16, 2) := by decide +kernel
theorem dX7_init_180 : decode cX7_init 180 = .ok (.bipush 59, 2) := by decide +kernel
theorem dX7_init_182 : decode cX7_init 182 = .ok (.bipush 32, 2) := by decide +kernel
theorem dX7_init_184 : decode cX7_init 184 = .ok (.bipush 119, 2) := by decide +kernel
theorem dX7_init_186 : decode cX7_init 186 = .ok (.bipush 97, 2) := by decide +kernel
theorem dX7_init_188 : decode cX7_init 188 = .ok (.bipush 114, 2) := by decide +kernel
theorem dX7_init_190 : decode cX7_init 190 = .ok (.bipush 109, 2) := by decide +kernel
theorem dX7_init_192 : decode cX7_init 192 = .ok (.bipush 115, 2) := by decide +kernel
theorem dX7_init_194 : decode cX7_init 194 = .ok (.bipush 32, 2) := by decide +kernel
theorem dX7_init_196 : decode cX7_init 196 = .ok (.invokevirtual 63, 3) := by decide +kernel
theorem dX7_init_199 : decode cX7_init 199 = .ok (.aload_n 0, 1) := by decide +kernel
theorem dX7_init_200 : decode cX7_init 200 = .ok (.bipush 24, 2) := by decide +kernel
theorem dX7_init_202 : decode cX7_init 202 = .ok (.bipush 53, 2) := by decide +kernel
theorem dX7_init_204 : decode cX7_init 204 = .ok (.bipush 32, 2) := by decide +kernel
theorem dX7_init_206 : decode cX7_init 206 = .ok (.bipush 45, 2) := by decide +kernel
theorem dX7_init_208 : decode cX7_init 208 = .ok (.bipush 32, 2) := by decide +kernel
theorem dX7_init_210 : decode cX7_init 210 = .ok (.bipush 115, 2) := by decide +kernel
theorem dX7_init_212 : decode cX7_init 212 = .ok (.bipush 116, 2) := by decide +kernel
theorem dX7_init_214 : decode cX7_init 214 = .ok (.bipush 111, 2) := by decide +kernel
theorem dX7_init_216 : decode cX7_init 216 = .ok (.bipush 118, 2) := by decide +kernel
theorem dX7_init_218 : decode cX7_init 218 = .ok (.invokevirtual 63, 3) := by decide +kernel
theorem dX7_init_221 : decode cX7_init 221 = .ok (.aload_n 0, 1) := by decide +kernel
theorem dX7_init_222 : decode cX7_init 222 = .ok (.bipush 32, 2) := by decide +kernel
theorem dX7_init_224 : decode cX7_init 224 = .ok (.bipush 101, 2) := by decide +kernel
theorem dX7_init_226 : decode cX7_init 226 = .ok (.bipush 32, 2) := by decide +kernel
theorem dX7_init_228 : decode cX7_init 228 = .ok (.bipush 59, 2) := by decide +kernel
theorem dX7_init_230 : decode cX7_init 230 = .ok (.bipush 32, 2) := by decide +kernel
theorem dX7_init_232 : decode cX7_init 232 = .ok (.bipush 109, 2) := by decide +kernel
theorem dX7_init_234 : decode cX7_init 234 = .ok (.bipush 105, 2) := by decide +kernel
theorem dX7_init_236 : decode cX7_init 236 = .ok (.bipush 110, 2) := by decide +kernel
theorem dX7_init_238 : decode cX7_init 238 = .ok (.bipush 100, 2) := by decide +kernel
theorem dX7_init_240 : decode cX7_init 240 = .ok (.invokevirtual 63, 3) := by decide +kernel
theorem dX7_init_243 : decode cX7_init 243 = .ok (.aload_n 0, 1) := by decide +kernel
theorem dX7_init_244 : decode cX7_init 244 = .ok (.bipush 40, 2) := by decide +kernel
theorem dX7_init_246 : decode cX7_init 246 = .ok (.bipush 115, 2) := by decide +kernel
theorem dX7_init_248 : decode cX7_init 248 = .ok (.bipush 32, 2) := by decide +kernel
theorem dX7_init_250 : decode cX7_init 250 = .ok (.bipush 110, 2) := by decide +kernel
theorem dX7_init_252 : decode cX7_init 252 = .ok (.bipush 101, 2) := by decide +kernel
theorem dX7_init_254 : decode cX7_init 254 = .ok (.bipush 97, 2) := by decide +kernel
theorem dX7_init_256 : decode cX7_init 256 = .ok (.bipush 114, 2) := by decide +kernel
theorem dX7_init_258 : decode cX7_init 258 = .ok (.bipush 32, 2) := by decide +kernel
theorem dX7_init_260 : decode cX7_init 260 = .ok (.bipush 59, 2) := by decide +kernel
theorem dX7_init_262 : decode cX7_init 262 = .ok (.invokevirtual 63, 3) := by decide +kernel
theorem dX7_init_265 : decode cX7_init 265 = .ok (.aload_n 0, 1) := by decide +kernel
theorem dX7_init_266 : decode cX7_init 266 = .ok (.getfield 17, 3) := by decide +kernel
theorem dX7_init_269 : decode cX7_init 269 = .ok (.iconst 0, 1) := by decide +kernel
theorem dX7_init_270 : decode cX7_init 270 = .ok (.bipush 48, 2) := by decide +kernel
theorem dX7_init_272 : decode cX7_init 272 = .ok (.iastore, 1) := by decide +kernel
theorem dX7_init_273 : decode cX7_init 273 = .ok (.aload_n 0, 1) := by decide +kernel
theorem dX7_init_274 : decode cX7_init 274 = .ok (.iconst 1, 1) := by decide +kernel
theorem dX7_init_275 : decode cX7_init 275 = .ok (.putfield 67, 3) := by decide +kernel
theorem dX7_init_278 : decode cX7_init 278 = .ok (.return_, 1) := by decide +kernel
theorem dX7_spell_0 : decode cX7_spell 0 = .ok (.aload_n 0, 1) := by decide +kernel
theorem dX7_spell_1 : decode cX7_spell 1 = .ok (.getfield 13, 3) := by decide +kernel
theorem dX7_spell_4 : decode cX7_spell 4 = .ok (.iload_n 1, 1) := by decide +kernel
theorem dX7_spell_5 : decode cX7_spell 5 = .ok (.iload_n 2, 1) := by decide +kernel
theorem dX7_spell_6 : decode cX7_spell 6 = .ok (.iastore, 1) := by decide +kernel
theorem dX7_spell_7 : decode cX7_spell 7 = .ok (.aload_n 0, 1) := by decide +kernel
theorem dX7_spell_8 : decode cX7_spell 8 = .ok (.getfield 13, 3) := by decide +kernel
theorem dX7_spell_11 : decode cX7_spell 11 = .ok (.iload_n 1, 1) := by decide +kernel
theorem dX7_spell_12 : decode cX7_spell 12 = .ok (.iconst 1, 1) := by decide +kernel
theorem dX7_spell_13 : decode cX7_spell 13 = .ok (.iadd, 1) := by decide +kernel
theorem dX7_spell_14 : decode cX7_spell 14 = .ok (.iload_n 3, 1) := by decide +kernel
theorem dX7_spell_15 : decode cX7_spell 15 = .ok (.iastore, 1) := by decide +kernel
theorem dX7_spell_16 : decode cX7_spell 16 = .ok (.aload_n 0, 1) := by decide +kernel
theorem dX7_spell_17 : decode cX7_spell 17 = .ok (.getfield 13, 3) := by decide +kernel
theorem dX7_spell_20 : decode cX7_spell 20 = .ok (.iload_n 1, 1) := by decide +kernel
theorem dX7_spell_21 : decode cX7_spell 21 = .ok (.iconst 2, 1) := by decide +kernel
theorem dX7_spell_22 : decode cX7_spell 22 = .ok (.iadd, 1) := by decide +kernel
theorem dX7_spell_23 : decode cX7_spell 23 = .ok (.iload 4, 2) := by decide +kernel
theorem dX7_spell_25 : decode cX7_spell 25 = .ok (.iastore, 1) := by decide +kernel
theorem dX7_spell_26 : decode cX7_spell 26 = .ok (.aload_n 0, 1) := by decide +kernel
theorem dX7_spell_27 : decode cX7_spell 27 = .ok (.getfield 13, 3) := by decide +kernel
theorem dX7_spell_30 : decode cX7_spell 30 = .ok (.iload_n 1, 1) := by decide +kernel
theorem dX7_spell_31 : decode cX7_spell 31 = .ok (.iconst 3, 1) := by decide +kernel
theorem dX7_spell_32 : decode cX7_spell 32 = .ok (.iadd, 1) := by decide +kernel
theorem dX7_spell_33 : decode cX7_spell 33 = .ok (.iload 5, 2) := by decide +kernel
theorem dX7_spell_35 : decode cX7_spell 35 = .ok (.iastore, 1) := by decide +kernel
theorem dX7_spell_36 : decode cX7_spell 36 = .ok (.aload_n 0, 1) := by decide +kernel
theorem dX7_spell_37 : decode cX7_spell 37 = .ok (.getfield 13, 3) := by decide +kernel
theorem dX7_spell_40 : decode cX7_spell 40 = .ok (.iload_n 1, 1) := by decide +kernel
theorem dX7_spell_41 : decode cX7_spell 41 = .ok (.iconst 4, 1) := by decide +kernel
theorem dX7_spell_42 : decode cX7_spell 42 = .ok (.iadd, 1) := by decide +kernel
theorem dX7_spell_43 : decode cX7_spell 43 = .ok (.iload 6, 2) := by decide +kernel
theorem dX7_spell_45 : decode cX7_spell 45 = .ok (.iastore, 1) := by decide +kernel
theorem dX7_spell_46 : decode cX7_spell 46 = .ok (.aload_n 0, 1) := by decide +kernel
theorem dX7_spell_47 : decode cX7_spell 47 = .ok (.getfield 13, 3) := by decide +kernel
theorem dX7_spell_50 : decode cX7_spell 50 = .ok (.iload_n 1, 1) := by decide +kernel
theorem dX7_spell_51 : decode cX7_spell 51 = .ok (.iconst 5, 1) := by decide +kernel
theorem dX7_spell_52 : decode cX7_spell 52 = .ok (.iadd, 1) := by decide +kernel
theorem dX7_spell_53 : decode cX7_spell 53 = .ok (.iload 7, 2) := by decide +kernel
theorem dX7_spell_55 : decode cX7_spell 55 = .ok (.iastore, 1) := by decide +kernel
theorem dX7_spell_56 : decode cX7_spell 56 = .ok (.aload_n 0, 1) := by decide +kernel
theorem dX7_spell_57 : decode cX7_spell 57 = .ok (.getfield 13, 3) := by decide +kernel
theorem dX7_spell_60 : decode cX7_spell 60 = .ok (.iload_n 1, 1) := by decide +kernel
theorem dX7_spell_61 : decode cX7_spell 61 = .ok (.bipush 6, 2) := by decide +kernel
theorem dX7_spell_63 : decode cX7_spell 63 = .ok (.iadd, 1) := by decide +kernel
theorem dX7_spell_64 : decode cX7_spell 64 = .ok (.iload 8, 2) := by decide +kernel
theorem dX7_spell_66 : decode cX7_spell 66 = .ok (.iastore, 1) := by decide +kernel
theorem dX7_spell_67 : decode cX7_spell 67 = .ok (.aload_n 0, 1) := by decide +kernel
theorem dX7_spell_68 : decode cX7_spell 68 = .ok (.getfield 13, 3) := by decide +kernel
theorem dX7_spell_71 : decode cX7_spell 71 = .ok (.iload_n 1, 1) := by decide +kernel
theorem dX7_spell_72 : decode cX7_spell 72 = .ok (.bipush 7, 2) := by decide +kernel
theorem dX7_spell_74 : decode cX7_spell 74 = .ok (.iadd, 1) := by decide +kernel
theorem dX7_spell_75 : decode cX7_spell 75 = .ok (.iload 9, 2) := by decide +kernel
theorem dX7_spell_77 : decode cX7_spell 77 = .ok (.iastore, 1) := by decide +kernel
theorem dX7_spell_78 : decode cX7_spell 78 = .ok (.return_, 1) := by decide +kernel
theorem dX7_isOne_0 : decode cX7_isOne 0 = .ok (.iload_n 1, 1) := by decide +kernel
theorem dX7_isOne_1 : decode cX7_isOne 1 = .ok (.i2l, 1) := by decide +kernel
theorem dX7_isOne_2 : decode cX7_isOne 2 = .ok (.lconst 0, 1) := by decide +kernel
theorem dX7_isOne_3 : decode cX7_isOne 3 = .ok (.aload_n 0, 1) := by decide +kernel
theorem dX7_isOne_4 : decode cX7_isOne 4 = .ok (.getfield 70, 3) := by decide +kernel
theorem dX7_isOne_7 : decode cX7_isOne 7 = .ok (.iconst 1, 1) := by decide +kernel
theorem dX7_isOne_8 : decode cX7_isOne 8 = .ok (.isub, 1) := by decide +kernel
theorem dX7_isOne_9 : decode cX7_isOne 9 = .ok (.i2l, 1) := by decide +kernel
theorem dX7_isOne_10 : decode cX7_isOne 10 = .ok (.invokestatic 73, 3) := by decide +kernel
theorem dX7_isOne_13 : decode cX7_isOne 13 = .ok (.ireturn, 1) := by decide +kernel
theorem dX7_isEasel_0 : decode cX7_isEasel 0 = .ok (.iload_n 0, 1) := by decide +kernel
theorem dX7_isEasel_1 : decode cX7_isEasel 1 = .ok (.i2l, 1) := by decide +kernel
theorem dX7_isEasel_2 : decode cX7_isEasel 2 = .ok (.lconst 0, 1) := by decide +kernel
theorem dX7_isEasel_3 : decode cX7_isEasel 3 = .ok (.ldc2_w 77, 3) := by decide +kernel
theorem dX7_isEasel_6 : decode cX7_isEasel 6 = .ok (.invokestatic 73, 3) := by decide +kernel
theorem dX7_isEasel_9 : decode cX7_isEasel 9 = .ok (.ireturn, 1) := by decide +kernel
theorem dX7_round1_0 : decode cX7_round1 0 = .ok (.iload_n 0, 1) := by decide +kernel
theorem dX7_round1_1 : decode cX7_round1 1 = .ok (.bipush 11, 2) := by decide +kernel
theorem dX7_round1_3 : decode cX7_round1 3 = .ok (.irem, 1) := by decide +kernel
theorem dX7_round1_4 : decode cX7_round1 4 = .ok (.ireturn, 1) := by decide +kernel
theorem dX7_away_0 : decode cX7_away 0 = .ok (.iload_n 0, 1) := by decide +kernel
theorem dX7_away_1 : decode cX7_away 1 = .ok (.iload_n 1, 1) := by decide +kernel
theorem dX7_away_2 : decode cX7_away 2 = .ok (.if_icmp .le 9, 3) := by decide +kernel
theorem dX7_away_5 : decode cX7_away 5 = .ok (.iload_n 0, 1) := by decide +kernel
theorem dX7_away_6 : decode cX7_away 6 = .ok (.iload_n 1, 1) := by decide +kernel
theorem dX7_away_7 : decode cX7_away 7 = .ok (.isub, 1) := by decide +kernel
theorem dX7_away_8 : decode cX7_away 8 = .ok (.goto 6, 3) := by decide +kernel
theorem dX7_away_11 : decode cX7_away 11 = .ok (.iload_n 1, 1) := by decide +kernel
theorem dX7_away_12 : decode cX7_away 12 = .ok (.iload_n 0, 1) := by decide +kernel
theorem dX7_away_13 : decode cX7_away 13 = .ok (.isub, 1) := by decide +kernel
theorem dX7_away_14 : decode cX7_away 14 = .ok (.istore_n 2, 1) := by decide +kernel
theorem dX7_away_15 : decode cX7_away 15 = .ok (.iload_n 2, 1) := by decide +kernel
theorem dX7_away_16 : decode cX7_away 16 = .ok (.bipush 11, 2) := by decide +kernel
theorem dX7_away_18 : decode cX7_away 18 = .ok (.iload_n 2, 1) := by decide +kernel
theorem dX7_away_19 : decode cX7_away 19 = .ok (.isub, 1) := by decide +kernel
theorem dX7_away_20 : decode cX7_away 20 = .ok (.if_icmp .le 10, 3) := by decide +kernel
theorem dX7_away_23 : decode cX7_away 23 = .ok (.bipush 11, 2) := by decide +kernel
theorem dX7_away_25 : decode cX7_away 25 = .ok (.iload_n 2, 1) := by decide +kernel
theorem dX7_away_26 : decode cX7_away 26 = .ok (.isub, 1) := by decide +kernel
theorem dX7_away_27 : decode cX7_away 27 = .ok (.goto 4, 3) := by decide +kernel
theorem dX7_away_30 : decode cX7_away 30 = .ok (.iload_n 2, 1) := by decide +kernel
theorem dX7_away_31 : decode cX7_away 31 = .ok (.ireturn, 1) := by decide +kernel
theorem dX7_whoAt_0 : decode cX7_whoAt 0 = .ok (.iconst 0, 1) := by decide +kernel
theorem dX7_whoAt_1 : decode cX7_whoAt 1 = .ok (.istore_n 2, 1) := by decide +kernel
theorem dX7_whoAt_2 : decode cX7_whoAt 2 = .ok (.iload_n 2, 1) := by decide +kernel
theorem dX7_whoAt_3 : decode cX7_whoAt 3 = .ok (.aload_n 0, 1) := by decide +kernel
theorem dX7_whoAt_4 : decode cX7_whoAt 4 = .ok (.getfield 70, 3) := by decide +kernel
theorem dX7_whoAt_7 : decode cX7_whoAt 7 = .ok (.if_icmp .ge 25, 3) := by decide +kernel
theorem dX7_whoAt_10 : decode cX7_whoAt 10 = .ok (.aload_n 0, 1) := by decide +kernel
theorem dX7_whoAt_11 : decode cX7_whoAt 11 = .ok (.getfield 29, 3) := by decide +kernel
theorem dX7_whoAt_14 : decode cX7_whoAt 14 = .ok (.iconst 4, 1) := by decide +kernel
theorem dX7_whoAt_15 : decode cX7_whoAt 15 = .ok (.iload_n 2, 1) := by decide +kernel
theorem dX7_whoAt_16 : decode cX7_whoAt 16 = .ok (.imul, 1) := by decide +kernel
theorem dX7_whoAt_17 : decode cX7_whoAt 17 = .ok (.iconst 1, 1) := by decide +kernel
theorem dX7_whoAt_18 : decode cX7_whoAt 18 = .ok (.iadd, 1) := by decide +kernel
theorem dX7_whoAt_19 : decode cX7_whoAt 19 = .ok (.iaload, 1) := by decide +kernel
theorem dX7_whoAt_20 : decode cX7_whoAt 20 = .ok (.iload_n 1, 1) := by decide +kernel
theorem dX7_whoAt_21 : decode cX7_whoAt 21 = .ok (.if_icmp .ne 5, 3) := by decide +kernel
theorem dX7_whoAt_24 : decode cX7_whoAt 24 = .ok (.iload_n 2, 1) := by decide +kernel
theorem dX7_whoAt_25 : decode cX7_whoAt 25 = .ok (.ireturn, 1) := by decide +kernel
theorem dX7_whoAt_26 : decode cX7_whoAt 26 = .ok (.iinc 2 1, 3) := by decide +kernel
theorem dX7_whoAt_29 : decode cX7_whoAt 29 = .ok (.goto (-27), 3) := by decide +kernel
theorem dX7_whoAt_32 : decode cX7_whoAt 32 = .ok (.iconst (-1), 1) := by decide +kernel
theorem dX7_whoAt_33 : decode cX7_whoAt 33 = .ok (.ireturn, 1) := by decide +kernel
theorem dX7_isFreeFor_0 : decode cX7_isFreeFor 0 = .ok (.iload_n 1, 1) := by decide +kernel
theorem dX7_isFreeFor_1 : decode cX7_isFreeFor 1 = .ok (.invokestatic 79, 3) := by decide +kernel
theorem dX7_isFreeFor_4 : decode cX7_isFreeFor 4 = .ok (.ifCond .eq 25, 3) := by decide +kernel
theorem dX7_isFreeFor_7 : decode cX7_isFreeFor 7 = .ok (.aload_n 0, 1) := by decide +kernel
theorem dX7_isFreeFor_8 : decode cX7_isFreeFor 8 = .ok (.iload_n 1, 1) := by decide +kernel
theorem dX7_isFreeFor_9 : decode cX7_isFreeFor 9 = .ok (.invokevirtual 83, 3) := by decide +kernel
theorem dX7_isFreeFor_12 : decode cX7_isFreeFor 12 = .ok (.iconst (-1), 1) := by decide +kernel
theorem dX7_isFreeFor_13 : decode cX7_isFreeFor 13 = .ok (.if_icmp .eq 12, 3) := by decide +kernel
theorem dX7_isFreeFor_16 : decode cX7_isFreeFor 16 = .ok (.aload_n 0, 1) := by decide +kernel
theorem dX7_isFreeFor_17 : decode cX7_isFreeFor 17 = .ok (.iload_n 1, 1) := by decide +kernel
theorem dX7_isFreeFor_18 : decode cX7_isFreeFor 18 = .ok (.invokevirtual 83, 3) := by decide +kernel
theorem dX7_isFreeFor_21 : decode cX7_isFreeFor 21 = .ok (.iload_n 2, 1) := by decide +kernel
theorem dX7_isFreeFor_22 : decode cX7_isFreeFor 22 = .ok (.if_icmp .ne 7, 3) := by decide +kernel
theorem dX7_isFreeFor_25 : decode cX7_isFreeFor 25 = .ok (.iconst 1, 1) := by decide +kernel
theorem dX7_isFreeFor_26 : decode cX7_isFreeFor 26 = .ok (.goto 4, 3) := by decide +kernel
theorem dX7_isFreeFor_29 : decode cX7_isFreeFor 29 = .ok (.iconst 0, 1) := by decide +kernel
theorem dX7_isFreeFor_30 : decode cX7_isFreeFor 30 = .ok (.ireturn, 1) := by decide +kernel
theorem dX7_isValue_0 : decode cX7_isValue 0 = .ok (.iload_n 1, 1) := by decide +kernel
theorem dX7_isValue_1 : decode cX7_isValue 1 = .ok (.iconst 5, 1) := by decide +kernel
theorem dX7_isValue_2 : decode cX7_isValue 2 = .ok (.if_icmp .ne 10, 3) := by decide +kernel
theorem dX7_isValue_5 : decode cX7_isValue 5 = .ok (.aload_n 0, 1) := by decide +kernel
theorem dX7_isValue_6 : decode cX7_isValue 6 = .ok (.iload_n 3, 1) := by decide +kernel
theorem dX7_isValue_7 : decode cX7_isValue 7 = .ok (.iload_n 2, 1) := by decide +kernel
theorem dX7_isValue_8 : decode cX7_isValue 8 = .ok (.invokevirtual 87, 3) := by decide +kernel
theorem dX7_isValue_11 : decode cX7_isValue 11 = .ok (.ireturn, 1) := by decide +kernel
theorem dX7_isValue_12 : decode cX7_isValue 12 = .ok (.iload_n 3, 1) := by decide +kernel
theorem dX7_isValue_13 : decode cX7_isValue 13 = .ok (.i2l, 1) := by decide +kernel
theorem dX7_isValue_14 : decode cX7_isValue 14 = .ok (.lconst 0, 1) := by decide +kernel
theorem dX7_isValue_15 : decode cX7_isValue 15 = .ok (.iload_n 1, 1) := by decide +kernel
theorem dX7_isValue_16 : decode cX7_isValue 16 = .ok (.iconst 3, 1) := by decide +kernel
theorem dX7_isValue_17 : decode cX7_isValue 17 = .ok (.if_icmp .ge 9, 3) := by decide +kernel
theorem dX7_isValue_20 : decode cX7_isValue 20 = .ok (.ldc2_w 77, 3) := by decide +kernel
theorem dX7_isValue_23 : decode cX7_isValue 23 = .ok (.goto 17, 3) := by decide +kernel
theorem dX7_isValue_26 : decode cX7_isValue 26 = .ok (.iload_n 1, 1) := by decide +kernel
theorem dX7_isValue_27 : decode cX7_isValue 27 = .ok (.iconst 3, 1) := by decide +kernel
theorem dX7_isValue_28 : decode cX7_isValue 28 = .ok (.if_icmp .ne 9, 3) := by decide +kernel
theorem dX7_isValue_31 : decode cX7_isValue 31 = .ok (.ldc2_w 91, 3) := by decide +kernel
theorem dX7_isValue_34 : decode cX7_isValue 34 = .ok (.goto 6, 3) := by decide +kernel
theorem dX7_isValue_37 : decode cX7_isValue 37 = .ok (.ldc2_w 93, 3) := by decide +kernel
theorem dX7_isValue_40 : decode cX7_isValue 40 = .ok (.invokestatic 73, 3) := by decide +kernel
theorem dX7_isValue_43 : decode cX7_isValue 43 = .ok (.ireturn, 1) := by decide +kernel
theorem dX7_set_0 : decode cX7_set 0 = .ok (.iload_n 1, 1) := by decide +kernel
theorem dX7_set_1 : decode cX7_set 1 = .ok (.i2l, 1) := by decide +kernel
theorem dX7_set_2 : decode cX7_set 2 = .ok (.lconst 0, 1) := by decide +kernel
theorem dX7_set_3 : decode cX7_set 3 = .ok (.ldc2_w 95, 3) := by decide +kernel
theorem dX7_set_6 : decode cX7_set 6 = .ok (.invokestatic 73, 3) := by decide +kernel
theorem dX7_set_9 : decode cX7_set 9 = .ok (.ifCond .eq 26, 3) := by decide +kernel
theorem dX7_set_12 : decode cX7_set 12 = .ok (.iload_n 1, 1) := by decide +kernel
theorem dX7_set_13 : decode cX7_set 13 = .ok (.iconst 3, 1) := by decide +kernel
theorem dX7_set_14 : decode cX7_set 14 = .ok (.if_icmp .le 11, 3) := by decide +kernel
theorem dX7_set_17 : decode cX7_set 17 = .ok (.aload_n 0, 1) := by decide +kernel
theorem dX7_set_18 : decode cX7_set 18 = .ok (.iload_n 2, 1) := by decide +kernel
theorem dX7_set_19 : decode cX7_set 19 = .ok (.invokevirtual 97, 3) := by decide +kernel
theorem dX7_set_22 : decode cX7_set 22 = .ok (.ifCond .eq 13, 3) := by decide +kernel
theorem dX7_set_25 : decode cX7_set 25 = .ok (.aload_n 0, 1) := by decide +kernel
theorem dX7_set_26 : decode cX7_set 26 = .ok (.iload_n 1, 1) := by decide +kernel
theorem dX7_set_27 : decode cX7_set 27 = .ok (.iload_n 2, 1) := by decide +kernel
theorem dX7_set_28 : decode cX7_set 28 = .ok (.iload_n 3, 1) := by decide +kernel
theorem dX7_set_29 : decode cX7_set 29 = .ok (.invokevirtual 100, 3) := by decide +kernel
theorem dX7_set_32 : decode cX7_set 32 = .ok (.ifCond .ne 6, 3) := by decide +kernel
theorem dX7_set_35 : decode cX7_set 35 = .ok (.bipush (-2), 2) := by decide +kernel
theorem dX7_set_37 : decode cX7_set 37 = .ok (.ireturn, 1) := by decide +kernel
theorem dX7_set_38 : decode cX7_set 38 = .ok (.aload_n 0, 1) := by decide +kernel
theorem dX7_set_39 : decode cX7_set 39 = .ok (.iload_n 2, 1) := by decide +kernel
theorem dX7_set_40 : decode cX7_set 40 = .ok (.iload_n 1, 1) := by decide +kernel
theorem dX7_set_41 : decode cX7_set 41 = .ok (.invokevirtual 104, 3) := by decide +kernel
theorem dX7_set_44 : decode cX7_set 44 = .ok (.istore 4, 2) := by decide +kernel
theorem dX7_set_46 : decode cX7_set 46 = .ok (.aload_n 0, 1) := by decide +kernel
theorem dX7_set_47 : decode cX7_set 47 = .ok (.iload_n 1, 1) := by decide +kernel
theorem dX7_set_48 : decode cX7_set 48 = .ok (.iload_n 2, 1) := by decide +kernel
theorem dX7_set_49 : decode cX7_set 49 = .ok (.iload_n 3, 1) := by decide +kernel
theorem dX7_set_50 : decode cX7_set 50 = .ok (.invokevirtual 108, 3) := by decide +kernel
theorem dX7_set_53 : decode cX7_set 53 = .ok (.iload 4, 2) := by decide +kernel
theorem dX7_set_55 : decode cX7_set 55 = .ok (.ireturn, 1) := by decide +kernel
theorem dX7_lays_0 : decode cX7_lays 0 = .ok (.iload_n 1, 1) := by decide +kernel
theorem dX7_lays_1 : decode cX7_lays 1 = .ok (.iconst 4, 1) := by decide +kernel
theorem dX7_lays_2 : decode cX7_lays 2 = .ok (.if_icmp .ge 13, 3) := by decide +kernel
theorem dX7_lays_5 : decode cX7_lays 5 = .ok (.aload_n 0, 1) := by decide +kernel
theorem dX7_lays_6 : decode cX7_lays 6 = .ok (.getfield 23, 3) := by decide +kernel
theorem dX7_lays_9 : decode cX7_lays 9 = .ok (.iload_n 1, 1) := by decide +kernel
theorem dX7_lays_10 : decode cX7_lays 10 = .ok (.iload_n 3, 1) := by decide +kernel
theorem dX7_lays_11 : decode cX7_lays 11 = .ok (.iastore, 1) := by decide +kernel
theorem dX7_lays_12 : decode cX7_lays 12 = .ok (.goto 46, 3) := by decide +kernel
theorem dX7_lays_15 : decode cX7_lays 15 = .ok (.iload_n 1, 1) := by decide +kernel
theorem dX7_lays_16 : decode cX7_lays 16 = .ok (.bipush 6, 2) := by decide +kernel
theorem dX7_lays_18 : decode cX7_lays 18 = .ok (.if_icmp .ge 19, 3) := by decide +kernel
theorem dX7_lays_21 : decode cX7_lays 21 = .ok (.aload_n 0, 1) := by decide +kernel
theorem dX7_lays_22 : decode cX7_lays 22 = .ok (.getfield 29, 3) := by decide +kernel
theorem dX7_lays_25 : decode cX7_lays 25 = .ok (.iconst 4, 1) := by decide +kernel
theorem dX7_lays_26 : decode cX7_lays 26 = .ok (.iload_n 2, 1) := by decide +kernel
theorem dX7_lays_27 : decode cX7_lays 27 = .ok (.imul, 1) := by decide +kernel
theorem dX7_lays_28 : decode cX7_lays 28 = .ok (.iload_n 1, 1) := by decide +kernel
theorem dX7_lays_29 : decode cX7_lays 29 = .ok (.iadd, 1) := by decide +kernel
theorem dX7_lays_30 : decode cX7_lays 30 = .ok (.iconst 4, 1) := by decide +kernel
theorem dX7_lays_31 : decode cX7_lays 31 = .ok (.isub, 1) := by decide +kernel
theorem dX7_lays_32 : decode cX7_lays 32 = .ok (.iload_n 3, 1) := by decide +kernel
theorem dX7_lays_33 : decode cX7_lays 33 = .ok (.iastore, 1) := by decide +kernel
theorem dX7_lays_34 : decode cX7_lays 34 = .ok (.goto 24, 3) := by decide +kernel
theorem dX7_lays_37 : decode cX7_lays 37 = .ok (.iload_n 1, 1) := by decide +kernel
theorem dX7_lays_38 : decode cX7_lays 38 = .ok (.bipush 6, 2) := by decide +kernel
theorem dX7_lays_40 : decode cX7_lays 40 = .ok (.if_icmp .ne 13, 3) := by decide +kernel
theorem dX7_lays_43 : decode cX7_lays 43 = .ok (.aload_n 0, 1) := by decide +kernel
theorem dX7_lays_44 : decode cX7_lays 44 = .ok (.getfield 26, 3) := by decide +kernel
theorem dX7_lays_47 : decode cX7_lays 47 = .ok (.iload_n 2, 1) := by decide +kernel
theorem dX7_lays_48 : decode cX7_lays 48 = .ok (.iload_n 3, 1) := by decide +kernel
theorem dX7_lays_49 : decode cX7_lays 49 = .ok (.iastore, 1) := by decide +kernel
theorem dX7_lays_50 : decode cX7_lays 50 = .ok (.goto 8, 3) := by decide +kernel
theorem dX7_lays_53 : decode cX7_lays 53 = .ok (.aload_n 0, 1) := by decide +kernel
theorem dX7_lays_54 : decode cX7_lays 54 = .ok (.iload_n 3, 1) := by decide +kernel
theorem dX7_lays_55 : decode cX7_lays 55 = .ok (.putfield 112, 3) := by decide +kernel
theorem dX7_lays_58 : decode cX7_lays 58 = .ok (.return_, 1) := by decide +kernel
