theorem dX0_init_0 : decode cX0_init 0 = .ok (.aload_n 0, 1) := by decide +kernel
theorem dX0_init_1 : decode cX0_init 1 = .ok (.invokespecial 3, 3) := by decide +kernel
theorem dX0_init_4 : decode cX0_init 4 = .ok (.aload_n 0, 1) := by decide +kernel
theorem dX0_init_5 : decode cX0_init 5 = .ok (.iconst (-1), 1) := by decide +kernel
theorem dX0_init_6 : decode cX0_init 6 = .ok (.putfield 9, 3) := by decide +kernel
theorem dX0_init_9 : decode cX0_init 9 = .ok (.aload_n 0, 1) := by decide +kernel
theorem dX0_init_10 : decode cX0_init 10 = .ok (.iconst 0, 1) := by decide +kernel
theorem dX0_init_11 : decode cX0_init 11 = .ok (.putfield 15, 3) := by decide +kernel
theorem dX0_init_14 : decode cX0_init 14 = .ok (.aload_n 0, 1) := by decide +kernel
theorem dX0_init_15 : decode cX0_init 15 = .ok (.iconst 0, 1) := by decide +kernel
theorem dX0_init_16 : decode cX0_init 16 = .ok (.putfield 18, 3) := by decide +kernel
theorem dX0_init_19 : decode cX0_init 19 = .ok (.return_, 1) := by decide +kernel
theorem dX0_clear_0 : decode cX0_clear 0 = .ok (.aload_n 0, 1) := by decide +kernel
theorem dX0_clear_1 : decode cX0_clear 1 = .ok (.iconst (-1), 1) := by decide +kernel
theorem dX0_clear_2 : decode cX0_clear 2 = .ok (.putfield 9, 3) := by decide +kernel
theorem dX0_clear_5 : decode cX0_clear 5 = .ok (.aload_n 0, 1) := by decide +kernel
theorem dX0_clear_6 : decode cX0_clear 6 = .ok (.iconst 0, 1) := by decide +kernel
theorem dX0_clear_7 : decode cX0_clear 7 = .ok (.putfield 15, 3) := by decide +kernel
theorem dX0_clear_10 : decode cX0_clear 10 = .ok (.aload_n 0, 1) := by decide +kernel
theorem dX0_clear_11 : decode cX0_clear 11 = .ok (.iconst 0, 1) := by decide +kernel
theorem dX0_clear_12 : decode cX0_clear 12 = .ok (.putfield 18, 3) := by decide +kernel
theorem dX0_clear_15 : decode cX0_clear 15 = .ok (.return_, 1) := by decide +kernel
theorem dX0_offer_0 : decode cX0_offer 0 = .ok (.aload_n 0, 1) := by decide +kernel
theorem dX0_offer_1 : decode cX0_offer 1 = .ok (.getfield 18, 3) := by decide +kernel
theorem dX0_offer_4 : decode cX0_offer 4 = .ok (.ifCond .eq 11, 3) := by decide +kernel
theorem dX0_offer_7 : decode cX0_offer 7 = .ok (.iload_n 2, 1) := by decide +kernel
theorem dX0_offer_8 : decode cX0_offer 8 = .ok (.aload_n 0, 1) := by decide +kernel
theorem dX0_offer_9 : decode cX0_offer 9 = .ok (.getfield 15, 3) := by decide +kernel
theorem dX0_offer_12 : decode cX0_offer 12 = .ok (.if_icmp .le 18, 3) := by decide +kernel
theorem dX0_offer_15 : decode cX0_offer 15 = .ok (.aload_n 0, 1) := by decide +kernel
theorem dX0_offer_16 : decode cX0_offer 16 = .ok (.iload_n 1, 1) := by decide +kernel
theorem dX0_offer_17 : decode cX0_offer 17 = .ok (.putfield 9, 3) := by decide +kernel
theorem dX0_offer_20 : decode cX0_offer 20 = .ok (.aload_n 0, 1) := by decide +kernel
theorem dX0_offer_21 : decode cX0_offer 21 = .ok (.iload_n 2, 1) := by decide +kernel
theorem dX0_offer_22 : decode cX0_offer 22 = .ok (.putfield 15, 3) := by decide +kernel
theorem dX0_offer_25 : decode cX0_offer 25 = .ok (.aload_n 0, 1) := by decide +kernel
theorem dX0_offer_26 : decode cX0_offer 26 = .ok (.iconst 1, 1) := by decide +kernel
theorem dX0_offer_27 : decode cX0_offer 27 = .ok (.putfield 18, 3) := by decide +kernel
theorem dX0_offer_30 : decode cX0_offer 30 = .ok (.return_, 1) := by decide +kernel
theorem dX0_atOrValue_0 : decode cX0_atOrValue 0 = .ok (.iload_n 1, 1) := by decide +kernel
theorem dX0_atOrValue_1 : decode cX0_atOrValue 1 = .ok (.iconst 2, 1) := by decide +kernel
theorem dX0_atOrValue_2 : decode cX0_atOrValue 2 = .ok (.irem, 1) := by decide +kernel
theorem dX0_atOrValue_3 : decode cX0_atOrValue 3 = .ok (.ifCond .ne 10, 3) := by decide +kernel
theorem dX0_atOrValue_6 : decode cX0_atOrValue 6 = .ok (.aload_n 0, 1) := by decide +kernel
theorem dX0_atOrValue_7 : decode cX0_atOrValue 7 = .ok (.getfield 9, 3) := by decide +kernel
theorem dX0_atOrValue_10 : decode cX0_atOrValue 10 = .ok (.goto 7, 3) := by decide +kernel
theorem dX0_atOrValue_13 : decode cX0_atOrValue 13 = .ok (.aload_n 0, 1) := by decide +kernel
theorem dX0_atOrValue_14 : decode cX0_atOrValue 14 = .ok (.getfield 15, 3) := by decide +kernel
theorem dX0_atOrValue_17 : decode cX0_atOrValue 17 = .ok (.ireturn, 1) := by decide +kernel
theorem dX1_init_0 : decode cX1_init 0 = .ok (.aload_n 0, 1) := by decide +kernel
theorem dX1_init_1 : decode cX1_init 1 = .ok (.invokespecial 3, 3) := by decide +kernel
theorem dX1_init_4 : decode cX1_init 4 = .ok (.aload_n 0, 1) := by decide +kernel
theorem dX1_init_5 : decode cX1_init 5 = .ok (.iconst 0, 1) := by decide +kernel
theorem dX1_init_6 : decode cX1_init 6 = .ok (.putfield 9, 3) := by decide +kernel
theorem dX1_init_9 : decode cX1_init 9 = .ok (.aload_n 0, 1) := by decide +kernel
theorem dX1_init_10 : decode cX1_init 10 = .ok (.iconst (-1), 1) := by decide +kernel
theorem dX1_init_11 : decode cX1_init 11 = .ok (.putfield 15, 3) := by decide +kernel
theorem dX1_init_14 : decode cX1_init 14 = .ok (.aload_n 0, 1) := by decide +kernel
theorem dX1_init_15 : decode cX1_init 15 = .ok (.sipush 160, 3) := by decide +kernel
theorem dX1_init_18 : decode cX1_init 18 = .ok (.newarray .int, 2) := by decide +kernel
theorem dX1_init_20 : decode cX1_init 20 = .ok (.putfield 18, 3) := by decide +kernel
theorem dX1_init_23 : decode cX1_init 23 = .ok (.aload_n 0, 1) := by decide +kernel
theorem dX1_init_24 : decode cX1_init 24 = .ok (.iconst 0, 1) := by decide +kernel
theorem dX1_init_25 : decode cX1_init 25 = .ok (.putfield 22, 3) := by decide +kernel
theorem dX1_init_28 : decode cX1_init 28 = .ok (.aload_n 0, 1) := by decide +kernel
theorem dX1_init_29 : decode cX1_init 29 = .ok (.sipush 256, 3) := by decide +kernel
theorem dX1_init_32 : decode cX1_init 32 = .ok (.putfield 25, 3) := by decide +kernel
theorem dX1_init_35 : decode cX1_init 35 = .ok (.aload_n 0, 1) := by decide +kernel
theorem dX1_init_36 : decode cX1_init 36 = .ok (.iconst 0, 1) := by decide +kernel
theorem dX1_init_37 : decode cX1_init 37 = .ok (.putfield 28, 3) := by decide +kernel
theorem dX1_init_40 : decode cX1_init 40 = .ok (.aload_n 0, 1) := by decide +kernel
theorem dX1_init_41 : decode cX1_init 41 = .ok (.iconst 0, 1) := by decide +kernel
theorem dX1_init_42 : decode cX1_init 42 = .ok (.putfield 31, 3) := by decide +kernel
theorem dX1_init_45 : decode cX1_init 45 = .ok (.aload_n 0, 1) := by decide +kernel
theorem dX1_init_46 : decode cX1_init 46 = .ok (.sipush 160, 3) := by decide +kernel
theorem dX1_init_49 : decode cX1_init 49 = .ok (.newarray .int, 2) := by decide +kernel
theorem dX1_init_51 : decode cX1_init 51 = .ok (.putfield 34, 3) := by decide +kernel
theorem dX1_init_54 : decode cX1_init 54 = .ok (.aload_n 0, 1) := by decide +kernel
theorem dX1_init_55 : decode cX1_init 55 = .ok (.iconst 0, 1) := by decide +kernel
theorem dX1_init_56 : decode cX1_init 56 = .ok (.putfield 37, 3) := by decide +kernel
theorem dX1_init_59 : decode cX1_init 59 = .ok (.return_, 1) := by decide +kernel
theorem dX1_add_0 : decode cX1_add 0 = .ok (.aload_n 0, 1) := by decide +kernel
theorem dX1_add_1 : decode cX1_add 1 = .ok (.getfield 9, 3) := by decide +kernel
theorem dX1_add_4 : decode cX1_add 4 = .ok (.sipush 160, 3) := by decide +kernel
theorem dX1_add_7 : decode cX1_add 7 = .ok (.if_icmp .ge 23, 3) := by decide +kernel
theorem dX1_add_10 : decode cX1_add 10 = .ok (.aload_n 0, 1) := by decide +kernel
theorem dX1_add_11 : decode cX1_add 11 = .ok (.getfield 18, 3) := by decide +kernel
theorem dX1_add_14 : decode cX1_add 14 = .ok (.aload_n 0, 1) := by decide +kernel
theorem dX1_add_15 : decode cX1_add 15 = .ok (.getfield 9, 3) := by decide +kernel
theorem dX1_add_18 : decode cX1_add 18 = .ok (.iload_n 1, 1) := by decide +kernel
theorem dX1_add_19 : decode cX1_add 19 = .ok (.iastore, 1) := by decide +kernel
theorem dX1_add_20 : decode cX1_add 20 = .ok (.aload_n 0, 1) := by decide +kernel
theorem dX1_add_21 : decode cX1_add 21 = .ok (.dup, 1) := by decide +kernel
theorem dX1_add_22 : decode cX1_add 22 = .ok (.getfield 9, 3) := by decide +kernel
theorem dX1_add_25 : decode cX1_add 25 = .ok (.iconst 1, 1) := by decide +kernel
theorem dX1_add_26 : decode cX1_add 26 = .ok (.iadd, 1) := by decide +kernel
theorem dX1_add_27 : decode cX1_add 27 = .ok (.putfield 9, 3) := by decide +kernel
theorem dX1_add_30 : decode cX1_add 30 = .ok (.return_, 1) := by decide +kernel
theorem dX1_read_0 : decode cX1_read 0 = .ok (.aload_n 0, 1) := by decide +kernel
theorem dX1_read_1 : decode cX1_read 1 = .ok (.iconst 0, 1) := by decide +kernel
theorem dX1_read_2 : decode cX1_read 2 = .ok (.putfield 22, 3) := by decide +kernel
theorem dX1_read_5 : decode cX1_read 5 = .ok (.aload_n 0, 1) := by decide +kernel
theorem dX1_read_6 : decode cX1_read 6 = .ok (.iconst 0, 1) := by decide +kernel
theorem dX1_read_7 : decode cX1_read 7 = .ok (.putfield 37, 3) := by decide +kernel
theorem dX1_read_10 : decode cX1_read 10 = .ok (.aload_n 0, 1) := by decide +kernel
theorem dX1_read_11 : decode cX1_read 11 = .ok (.iconst (-1), 1) := by decide +kernel
theorem dX1_read_12 : decode cX1_read 12 = .ok (.putfield 15, 3) := by decide +kernel
theorem dX1_read_15 : decode cX1_read 15 = .ok (.iconst 3, 1) := by decide +kernel
theorem dX1_read_16 : decode cX1_read 16 = .ok (.newarray .int, 2) := by decide +kernel
theorem dX1_read_18 : decode cX1_read 18 = .ok (.astore_n 1, 1) := by decide +kernel
theorem dX1_read_19 : decode cX1_read 19 = .ok (.aload_n 0, 1) := by decide +kernel
theorem dX1_read_20 : decode cX1_read 20 = .ok (.invokevirtual 40, 3) := by decide +kernel
theorem dX1_read_23 : decode cX1_read 23 = .ok (.iconst 1, 1) := by decide +kernel
theorem dX1_read_24 : decode cX1_read 24 = .ok (.istore_n 2, 1) := by decide +kernel
theorem dX1_read_25 : decode cX1_read 25 = .ok (.iconst 0, 1) := by decide +kernel
theorem dX1_read_26 : decode cX1_read 26 = .ok (.istore_n 3, 1) := by decide +kernel
theorem dX1_read_27 : decode cX1_read 27 = .ok (.iload_n 3, 1) := by decide +kernel
theorem dX1_read_28 : decode cX1_read 28 = .ok (.iconst 3, 1) := by decide +kernel
theorem dX1_read_29 : decode cX1_read 29 = .ok (.if_icmp .ge 55, 3) := by decide +kernel
theorem dX1_read_32 : decode cX1_read 32 = .ok (.iload_n 2, 1) := by decide +kernel
theorem dX1_read_33 : decode cX1_read 33 = .ok (.ifCond .eq 51, 3) := by decide +kernel
theorem dX1_read_36 : decode cX1_read 36 = .ok (.aload_n 0, 1) := by decide +kernel
theorem dX1_read_37 : decode cX1_read 37 = .ok (.sipush 260, 3) := by decide +kernel
theorem dX1_read_40 : decode cX1_read 40 = .ok (.iload_n 3, 1) := by decide +kernel
theorem dX1_read_41 : decode cX1_read 41 = .ok (.iadd, 1) := by decide +kernel
theorem dX1_read_42 : decode cX1_read 42 = .ok (.invokevirtual 43, 3) := by decide +kernel
theorem dX1_read_45 : decode cX1_read 45 = .ok (.ifCond .eq 24, 3) := by decide +kernel
theorem dX1_read_48 : decode cX1_read 48 = .ok (.aload_n 0, 1) := by decide +kernel
theorem dX1_read_49 : decode cX1_read 49 = .ok (.iconst 0, 1) := by decide +kernel
theorem dX1_read_50 : decode cX1_read 50 = .ok (.invokevirtual 47, 3) := by decide +kernel
theorem dX1_read_53 : decode cX1_read 53 = .ok (.ifCond .eq 16, 3) := by decide +kernel
theorem dX1_read_56 : decode cX1_read 56 = .ok (.aload_n 0, 1) := by decide +kernel
theorem dX1_read_57 : decode cX1_read 57 = .ok (.bipush 59, 2) := by decide +kernel
theorem dX1_read_59 : decode cX1_read 59 = .ok (.invokevirtual 43, 3) := by decide +kernel
theorem dX1_read_62 : decode cX1_read 62 = .ok (.ifCond .eq 7, 3) := by decide +kernel
theorem dX1_read_65 : decode cX1_read 65 = .ok (.iconst 1, 1) := by decide +kernel
theorem dX1_read_66 : decode cX1_read 66 = .ok (.goto 4, 3) := by decide +kernel
theorem dX1_read_69 : decode cX1_read 69 = .ok (.iconst 0, 1) := by decide +kernel
theorem dX1_read_70 : decode cX1_read 70 = .ok (.istore_n 2, 1) := by decide +kernel
theorem dX1_read_71 : decode cX1_read 71 = .ok (.aload_n 1, 1) := by decide +kernel
theorem dX1_read_72 : decode cX1_read 72 = .ok (.iload_n 3, 1) := by decide +kernel
theorem dX1_read_73 : decode cX1_read 73 = .ok (.aload_n 0, 1) := by decide +kernel
theorem dX1_read_74 : decode cX1_read 74 = .ok (.getfield 37, 3) := by decide +kernel
theorem dX1_read_77 : decode cX1_read 77 = .ok (.iastore, 1) := by decide +kernel
theorem dX1_read_78 : decode cX1_read 78 = .ok (.iinc 3 1, 3) := by decide +kernel
theorem dX1_read_81 : decode cX1_read 81 = .ok (.goto (-54), 3) := by decide +kernel
theorem dX1_read_84 : decode cX1_read 84 = .ok (.iload_n 2, 1) := by decide +kernel
theorem dX1_read_85 : decode cX1_read 85 = .ok (.ifCond .eq 17, 3) := by decide +kernel
theorem dX1_read_88 : decode cX1_read 88 = .ok (.aload_n 0, 1) := by decide +kernel
theorem dX1_read_89 : decode cX1_read 89 = .ok (.sipush 256, 3) := by decide +kernel
theorem dX1_read_92 : decode cX1_read 92 = .ok (.invokevirtual 43, 3) := by decide +kernel
theorem dX1_read_95 : decode cX1_read 95 = .ok (.ifCond .eq 7, 3) := by decide +kernel
theorem dX1_read_98 : decode cX1_read 98 = .ok (.iconst 1, 1) := by decide +kernel
theorem dX1_read_99 : decode cX1_read 99 = .ok (.goto 4, 3) := by decide +kernel
theorem dX1_read_102 : decode cX1_read 102 = .ok (.iconst 0, 1) := by decide +kernel
theorem dX1_read_103 : decode cX1_read 103 = .ok (.istore_n 2, 1) := by decide +kernel
theorem dX1_read_104 : decode cX1_read 104 = .ok (.aload_n 0, 1) := by decide +kernel
theorem dX1_read_105 : decode cX1_read 105 = .ok (.iconst 0, 1) := by decide +kernel
theorem dX1_read_106 : decode cX1_read 106 = .ok (.putfield 9, 3) := by decide +kernel
theorem dX1_read_109 : decode cX1_read 109 = .ok (.iload_n 2, 1) := by decide +kernel
theorem dX1_read_110 : decode cX1_read 110 = .ok (.ifCond .eq 25, 3) := by decide +kernel
theorem dX1_read_113 : decode cX1_read 113 = .ok (.new 50, 3) := by decide +kernel
theorem dX1_read_116 : decode cX1_read 116 = .ok (.dup, 1) := by decide +kernel
theorem dX1_read_117 : decode cX1_read 117 = .ok (.aload_n 0, 1) := by decide +kernel
theorem dX1_read_118 : decode cX1_read 118 = .ok (.getfield 34, 3) := by decide +kernel
theorem dX1_read_121 : decode cX1_read 121 = .ok (.aload_n 0, 1) := by decide +kernel
theorem dX1_read_122 : decode cX1_read 122 = .ok (.getfield 37, 3) := by decide +kernel
theorem dX1_read_125 : decode cX1_read 125 = .ok (.invokestatic 52, 3) := by decide +kernel
theorem dX1_read_128 : decode cX1_read 128 = .ok (.aload_n 1, 1) := by decide +kernel
theorem dX1_read_129 : decode cX1_read 129 = .ok (.invokespecial 58, 3) := by decide +kernel
theorem dX1_read_132 : decode cX1_read 132 = .ok (.goto 4, 3) := by decide +kernel
theorem dX1_read_135 : decode cX1_read 135 = .ok (.aconst_null, 1) := by decide +kernel
theorem dX1_read_136 : decode cX1_read 136 = .ok (.areturn, 1) := by decide +kernel
theorem dX1_fail_0 : decode cX1_fail 0 = .ok (.aload_n 0, 1) := by decide +kernel
theorem dX1_fail_1 : decode cX1_fail 1 = .ok (.aload_n 0, 1) := by decide +kernel
theorem dX1_fail_2 : decode cX1_fail 2 = .ok (.getfield 28, 3) := by decide +kernel
theorem dX1_fail_5 : decode cX1_fail 5 = .ok (.putfield 15, 3) := by decide +kernel
theorem dX1_fail_8 : decode cX1_fail 8 = .ok (.iconst 0, 1) := by decide +kernel
theorem dX1_fail_9 : decode cX1_fail 9 = .ok (.ireturn, 1) := by decide +kernel
theorem dX1_expect_0 : decode cX1_expect 0 = .ok (.aload_n 0, 1) := by decide +kernel
theorem dX1_expect_1 : decode cX1_expect 1 = .ok (.getfield 25, 3) := by decide +kernel
theorem dX1_expect_4 : decode cX1_expect 4 = .ok (.iload_n 1, 1) := by decide +kernel
theorem dX1_expect_5 : decode cX1_expect 5 = .ok (.if_icmp .eq 8, 3) := by decide +kernel
theorem dX1_expect_8 : decode cX1_expect 8 = .ok (.aload_n 0, 1) := by decide +kernel
theorem dX1_expect_9 : decode cX1_expect 9 = .ok (.invokevirtual 61, 3) := by decide +kernel
theorem dX1_expect_12 : decode cX1_expect 12 = .ok (.ireturn, 1) := by decide +kernel
theorem dX1_expect_13 : decode cX1_expect 13 = .ok (.aload_n 0, 1) := by decide +kernel
theorem dX1_expect_14 : decode cX1_expect 14 = .ok (.invokevirtual 40, 3) := by decide +kernel
theorem dX1_expect_17 : decode cX1_expect 17 = .ok (.iconst 1, 1) := by decide +kernel
theorem dX1_expect_18 : decode cX1_expect 18 = .ok (.ireturn, 1) := by decide +kernel
theorem dX1_put_0 : decode cX1_put 0 = .ok (.aload_n 0, 1) := by decide +kernel
theorem dX1_put_1 : decode cX1_put 1 = .ok (.getfield 37, 3) := by decide +kernel
theorem dX1_put_4 : decode cX1_put 4 = .ok (.sipush 160, 3) := by decide +kernel
theorem dX1_put_7 : decode cX1_put 7 = .ok (.if_icmp .ge 23, 3) := by decide +kernel
theorem dX1_put_10 : decode cX1_put 10 = .ok (.aload_n 0, 1) := by decide +kernel
theorem dX1_put_11 : decode cX1_put 11 = .ok (.getfield 34, 3) := by decide +kernel
theorem dX1_put_14 : decode cX1_put 14 = .ok (.aload_n 0, 1) := by decide +kernel
theorem dX1_put_15 : decode cX1_put 15 = .ok (.getfield 37, 3) := by decide +kernel
theorem dX1_put_18 : decode cX1_put 18 = .ok (.iload_n 1, 1) := by decide +kernel
theorem dX1_put_19 : decode cX1_put 19 = .ok (.iastore, 1) := by decide +kernel
theorem dX1_put_20 : decode cX1_put 20 = .ok (.aload_n 0, 1) := by decide +kernel
theorem dX1_put_21 : decode cX1_put 21 = .ok (.dup, 1) := by decide +kernel
theorem dX1_put_22 : decode cX1_put 22 = .ok (.getfield 37, 3) := by decide +kernel
theorem dX1_put_25 : decode cX1_put 25 = .ok (.iconst 1, 1) := by decide +kernel
theorem dX1_put_26 : decode cX1_put 26 = .ok (.iadd, 1) := by decide +kernel
theorem dX1_put_27 : decode cX1_put 27 = .ok (.putfield 37, 3) := by decide +kernel
theorem dX1_put_30 : decode cX1_put 30 = .ok (.iconst 1, 1) := by decide +kernel
theorem dX1_put_31 : decode cX1_put 31 = .ok (.ireturn, 1) := by decide +kernel
theorem dX1_readEither_0 : decode cX1_readEither 0 = .ok (.aload_n 0, 1) := by decide +kernel
theorem dX1_readEither_1 : decode cX1_readEither 1 = .ok (.iload_n 1, 1) := by decide +kernel
theorem dX1_readEither_2 : decode cX1_readEither 2 = .ok (.invokevirtual 65, 3) := by decide +kernel
theorem dX1_readEither_5 : decode cX1_readEither 5 = .ok (.istore_n 2, 1) := by decide +kernel
theorem dX1_readEither_6 : decode cX1_readEither 6 = .ok (.iconst 0, 1) := by decide +kernel
theorem dX1_readEither_7 : decode cX1_readEither 7 = .ok (.istore_n 3, 1) := by decide +kernel
theorem dX1_readEither_8 : decode cX1_readEither 8 = .ok (.iload_n 3, 1) := by decide +kernel
theorem dX1_readEither_9 : decode cX1_readEither 9 = .ok (.sipush 160, 3) := by decide +kernel
theorem dX1_readEither_12 : decode cX1_readEither 12 = .ok (.if_icmp .ge 50, 3) := by decide +kernel
theorem dX1_readEither_15 : decode cX1_readEither 15 = .ok (.iload_n 2, 1) := by decide +kernel
theorem dX1_readEither_16 : decode cX1_readEither 16 = .ok (.ifCond .eq 46, 3) := by decide +kernel
theorem dX1_readEither_19 : decode cX1_readEither 19 = .ok (.aload_n 0, 1) := by decide +kernel
theorem dX1_readEither_20 : decode cX1_readEither 20 = .ok (.getfield 25, 3) := by decide +kernel
theorem dX1_readEither_23 : decode cX1_readEither 23 = .ok (.sipush 263, 3) := by decide +kernel
theorem dX1_readEither_26 : decode cX1_readEither 26 = .ok (.if_icmp .ne 36, 3) := by decide +kernel
theorem dX1_readEither_29 : decode cX1_readEither 29 = .ok (.aload_n 0, 1) := by decide +kernel
theorem dX1_readEither_30 : decode cX1_readEither 30 = .ok (.invokevirtual 40, 3) := by decide +kernel
theorem dX1_readEither_33 : decode cX1_readEither 33 = .ok (.aload_n 0, 1) := by decide +kernel
theorem dX1_readEither_34 : decode cX1_readEither 34 = .ok (.iload_n 1, 1) := by decide +kernel
theorem dX1_readEither_35 : decode cX1_readEither 35 = .ok (.invokevirtual 65, 3) := by decide +kernel
theorem dX1_readEither_38 : decode cX1_readEither 38 = .ok (.ifCond .eq 16, 3) := by decide +kernel
theorem dX1_readEither_41 : decode cX1_readEither 41 = .ok (.aload_n 0, 1) := by decide +kernel
theorem dX1_readEither_42 : decode cX1_readEither 42 = .ok (.bipush (-10), 2) := by decide +kernel
theorem dX1_readEither_44 : decode cX1_readEither 44 = .ok (.invokevirtual 68, 3) := by decide +kernel
theorem dX1_readEither_47 : decode cX1_readEither 47 = .ok (.ifCond .eq 7, 3) := by decide +kernel
theorem dX1_readEither_50 : decode cX1_readEither 50 = .ok (.iconst 1, 1) := by decide +kernel
theorem dX1_readEither_51 : decode cX1_readEither 51 = .ok (.goto 4, 3) := by decide +kernel
theorem dX1_readEither_54 : decode cX1_readEither 54 = .ok (.iconst 0, 1) := by decide +kernel
theorem dX1_readEither_55 : decode cX1_readEither 55 = .ok (.istore_n 2, 1) := by decide +kernel
theorem dX1_readEither_56 : decode cX1_readEither 56 = .ok (.iinc 3 1, 3) := by decide +kernel
theorem dX1_readEither_59 : decode cX1_readEither 59 = .ok (.goto (-51), 3) := by decide +kernel
theorem dX1_readEither_62 : decode cX1_readEither 62 = .ok (.iload_n 2, 1) := by decide +kernel
theorem dX1_readEither_63 : decode cX1_readEither 63 = .ok (.ireturn, 1) := by decide +kernel
theorem dX1_readBoth_0 : decode cX1_readBoth 0 = .ok (.aload_n 0, 1) := by decide +kernel
theorem dX1_readBoth_1 : decode cX1_readBoth 1 = .ok (.iload_n 1, 1) := by decide +kernel
theorem dX1_readBoth_2 : decode cX1_readBoth 2 = .ok (.invokevirtual 71, 3) := by decide +kernel
theorem dX1_readBoth_5 : decode cX1_readBoth 5 = .ok (.istore_n 2, 1) := by decide +kernel
theorem dX1_readBoth_6 : decode cX1_readBoth 6 = .ok (.iconst 0, 1) := by decide +kernel
theorem dX1_readBoth_7 : decode cX1_readBoth 7 = .ok (.istore_n 3, 1) := by decide +kernel
theorem dX1_readBoth_8 : decode cX1_readBoth 8 = .ok (.iload_n 3, 1) := by decide +kernel
theorem dX1_readBoth_9 : decode cX1_readBoth 9 = .ok (.sipush 160, 3) := by decide +kernel
theorem dX1_readBoth_12 : decode cX1_readBoth 12 = .ok (.if_icmp .ge 50, 3) := by decide +kernel
theorem dX1_readBoth_15 : decode cX1_readBoth 15 = .ok (.iload_n 2, 1) := by decide +kernel
theorem dX1_readBoth_16 : decode cX1_readBoth 16 = .ok (.ifCond .eq 46, 3) := by decide +kernel
theorem dX1_readBoth_19 : decode cX1_readBoth 19 = .ok (.aload_n 0, 1) := by decide +kernel
theorem dX1_readBoth_20 : decode cX1_readBoth 20 = .ok (.getfield 25, 3) := by decide +kernel
theorem dX1_readBoth_23 : decode cX1_readBoth 23 = .ok (.sipush 264, 3) := by decide +kernel
theorem dX1_readBoth_26 : decode cX1_readBoth 26 = .ok (.if_icmp .ne 36, 3) := by decide +kernel
theorem dX1_readBoth_29 : decode cX1_readBoth 29 = .ok (.aload_n 0, 1) := by decide +kernel
theorem dX1_readBoth_30 : decode cX1_readBoth 30 = .ok (.invokevirtual 40, 3) := by decide +kernel
theorem dX1_readBoth_33 : decode cX1_readBoth 33 = .ok (.aload_n 0, 1) := by decide +kernel
theorem dX1_readBoth_34 : decode cX1_readBoth 34 = .ok (.iload_n 1, 1) := by decide +kernel
theorem dX1_readBoth_35 : decode cX1_readBoth 35 = .ok (.invokevirtual 71, 3) := by decide +kernel
theorem dX1_readBoth_38 : decode cX1_readBoth 38 = .ok (.ifCond .eq 16, 3) := by decide +kernel
theorem dX1_readBoth_41 : decode cX1_readBoth 41 = .ok (.aload_n 0, 1) := by decide +kernel
theorem dX1_readBoth_42 : decode cX1_readBoth 42 = .ok (.bipush (-11), 2) := by decide +kernel
theorem dX1_readBoth_44 : decode cX1_readBoth 44 = .ok (.invokevirtual 68, 3) := by decide +kernel
theorem dX1_readBoth_47 : decode cX1_readBoth 47 = .ok (.ifCond .eq 7, 3) := by decide +kernel
theorem dX1_readBoth_50 : decode cX1_readBoth 50 = .ok (.iconst 1, 1) := by decide +kernel
theorem dX1_readBoth_51 : decode cX1_readBoth 51 = .ok (.goto 4, 3) := by decide +kernel
theorem dX1_readBoth_54 : decode cX1_readBoth 54 = .ok (.iconst 0, 1) := by decide +kernel
theorem dX1_readBoth_55 : decode cX1_readBoth 55 = .ok (.istore_n 2, 1) := by decide +kernel
theorem dX1_readBoth_56 : decode cX1_readBoth 56 = .ok (.iinc 3 1, 3) := by decide +kernel
theorem dX1_readBoth_59 : decode cX1_readBoth 59 = .ok (.goto (-51), 3) := by decide +kernel
theorem dX1_readBoth_62 : decode cX1_readBoth 62 = .ok (.iload_n 2, 1) := by decide +kernel
theorem dX1_readBoth_63 : decode cX1_readBoth 63 = .ok (.ireturn, 1) := by decide +kernel
theorem dX1_readNot_0 : decode cX1_readNot 0 = .ok (.aload_n 0, 1) := by decide +kernel
theorem dX1_readNot_1 : decode cX1_readNot 1 = .ok (.getfield 25, 3) := by decide +kernel
theorem dX1_readNot_4 : decode cX1_readNot 4 = .ok (.sipush 265, 3) := by decide +kernel
theorem dX1_readNot_7 : decode cX1_readNot 7 = .ok (.if_icmp .ne 42, 3) := by decide +kernel
theorem dX1_readNot_10 : decode cX1_readNot 10 = .ok (.iload_n 1, 1) := by decide +kernel
theorem dX1_readNot_11 : decode cX1_readNot 11 = .ok (.iconst 5, 1) := by decide +kernel
theorem dX1_readNot_12 : decode cX1_readNot 12 = .ok (.if_icmp .lt 8, 3) := by decide +kernel
theorem dX1_readNot_15 : decode cX1_readNot 15 = .ok (.aload_n 0, 1) := by decide +kernel
theorem dX1_readNot_16 : decode cX1_readNot 16 = .ok (.invokevirtual 61, 3) := by decide +kernel
theorem dX1_readNot_19 : decode cX1_readNot 19 = .ok (.ireturn, 1) := by decide +kernel
theorem dX1_readNot_20 : decode cX1_readNot 20 = .ok (.aload_n 0, 1) := by decide +kernel
theorem dX1_readNot_21 : decode cX1_readNot 21 = .ok (.invokevirtual 40, 3) := by decide +kernel
theorem dX1_readNot_24 : decode cX1_readNot 24 = .ok (.aload_n 0, 1) := by decide +kernel
theorem dX1_readNot_25 : decode cX1_readNot 25 = .ok (.iload_n 1, 1) := by decide +kernel
theorem dX1_readNot_26 : decode cX1_readNot 26 = .ok (.iconst 1, 1) := by decide +kernel
theorem dX1_readNot_27 : decode cX1_readNot 27 = .ok (.iadd, 1) := by decide +kernel
theorem dX1_readNot_28 : decode cX1_readNot 28 = .ok (.invokevirtual 71, 3) := by decide +kernel
theorem dX1_readNot_31 : decode cX1_readNot 31 = .ok (.ifCond .eq 16, 3) := by decide +kernel
theorem dX1_readNot_34 : decode cX1_readNot 34 = .ok (.aload_n 0, 1) := by decide +kernel
theorem dX1_readNot_35 : decode cX1_readNot 35 = .ok (.bipush (-12), 2) := by decide +kernel
theorem dX1_readNot_37 : decode cX1_readNot 37 = .ok (.invokevirtual 68, 3) := by decide +kernel
theorem dX1_readNot_40 : decode cX1_readNot 40 = .ok (.ifCond .eq 7, 3) := by decide +kernel
theorem dX1_readNot_43 : decode cX1_readNot 43 = .ok (.iconst 1, 1) := by decide +kernel
theorem dX1_readNot_44 : decode cX1_readNot 44 = .ok (.goto 4, 3) := by decide +kernel
theorem dX1_readNot_47 : decode cX1_readNot 47 = .ok (.iconst 0, 1) := by decide +kernel
theorem dX1_readNot_48 : decode cX1_readNot 48 = .ok (.ireturn, 1) := by decide +kernel
theorem dX1_readNot_49 : decode cX1_readNot 49 = .ok (.aload_n 0, 1) := by decide +kernel
theorem dX1_readNot_50 : decode cX1_readNot 50 = .ok (.iload_n 1, 1) := by decide +kernel
theorem dX1_readNot_51 : decode cX1_readNot 51 = .ok (.invokevirtual 74, 3) := by decide +kernel
theorem dX1_readNot_54 : decode cX1_readNot 54 = .ok (.ifCond .ne 5, 3) := by decide +kernel
theorem dX1_readNot_57 : decode cX1_readNot 57 = .ok (.iconst 0, 1) := by decide +kernel
theorem dX1_readNot_58 : decode cX1_readNot 58 = .ok (.ireturn, 1) := by decide +kernel
theorem dX1_readNot_59 : decode cX1_readNot 59 = .ok (.aload_n 0, 1) := by decide +kernel
theorem dX1_readNot_60 : decode cX1_readNot 60 = .ok (.getfield 25, 3) := by decide +kernel
theorem dX1_readNot_63 : decode cX1_readNot 63 = .ok (.bipush 60, 2) := by decide +kernel
theorem dX1_readNot_65 : decode cX1_readNot 65 = .ok (.if_icmp .eq 14, 3) := by decide +kernel
theorem dX1_readNot_68 : decode cX1_readNot 68 = .ok (.aload_n 0, 1) := by decide +kernel
theorem dX1_readNot_69 : decode cX1_readNot 69 = .ok (.getfield 25, 3) := by decide +kernel
theorem dX1_readNot_72 : decode cX1_readNot 72 = .ok (.bipush 61, 2) := by decide +kernel
theorem dX1_readNot_74 : decode cX1_readNot 74 = .ok (.if_icmp .eq 5, 3) := by decide +kernel
theorem dX1_readNot_77 : decode cX1_readNot 77 = .ok (.iconst 1, 1) := by decide +kernel
theorem dX1_readNot_78 : decode cX1_readNot 78 = .ok (.ireturn, 1) := by decide +kernel
theorem dX1_readNot_79 : decode cX1_readNot 79 = .ok (.aload_n 0, 1) := by decide +kernel
theorem dX1_readNot_80 : decode cX1_readNot 80 = .ok (.getfield 25, 3) := by decide +kernel
theorem dX1_readNot_83 : decode cX1_readNot 83 = .ok (.bipush 60, 2) := by decide +kernel
theorem dX1_readNot_85 : decode cX1_readNot 85 = .ok (.if_icmp .ne 8, 3) := by decide +kernel
theorem dX1_readNot_88 : decode cX1_readNot 88 = .ok (.bipush (-17), 2) := by decide +kernel
theorem dX1_readNot_90 : decode cX1_readNot 90 = .ok (.goto 5, 3) := by decide +kernel
theorem dX1_readNot_93 : decode cX1_readNot 93 = .ok (.bipush (-18), 2) := by decide +kernel
theorem dX1_readNot_95 : decode cX1_readNot 95 = .ok (.istore_n 2, 1) := by decide +kernel
theorem dX1_readNot_96 : decode cX1_readNot 96 = .ok (.aload_n 0, 1) := by decide +kernel
theorem dX1_readNot_97 : decode cX1_readNot 97 = .ok (.invokevirtual 40, 3) := by decide +kernel
theorem dX1_readNot_100 : decode cX1_readNot 100 = .ok (.aload_n 0, 1) := by decide +kernel
theorem dX1_readNot_101 : decode cX1_readNot 101 = .ok (.iload_n 1, 1) := by decide +kernel
theorem dX1_readNot_102 : decode cX1_readNot 102 = .ok (.invokevirtual 74, 3) := by decide +kernel
theorem dX1_readNot_105 : decode cX1_readNot 105 = .ok (.ifCond .eq 15, 3) := by decide +kernel
theorem dX1_readNot_108 : decode cX1_readNot 108 = .ok (.aload_n 0, 1) := by decide +kernel
theorem dX1_readNot_109 : decode cX1_readNot 109 = .ok (.iload_n 2, 1) := by decide +kernel
theorem dX1_readNot_110 : decode cX1_readNot 110 = .ok (.invokevirtual 68, 3) := by decide +kernel
theorem dX1_readNot_113 : decode cX1_readNot 113 = .ok (.ifCond .eq 7, 3) := by decide +kernel
theorem dX1_readNot_116 : decode cX1_readNot 116 = .ok (.iconst 1, 1) := by decide +kernel
theorem dX1_readNot_117 : decode cX1_readNot 117 = .ok (.goto 4, 3) := by decide +kernel
theorem dX1_readNot_120 : decode cX1_readNot 120 = .ok (.iconst 0, 1) := by decide +kernel
theorem dX1_readNot_121 : decode cX1_readNot 121 = .ok (.ireturn, 1) := by decide +kernel
theorem dX1_readSum_0 : decode cX1_readSum 0 = .ok (.aload_n 0, 1) := by decide +kernel
theorem dX1_readSum_1 : decode cX1_readSum 1 = .ok (.iload_n 1, 1) := by decide +kernel
theorem dX1_readSum_2 : decode cX1_readSum 2 = .ok (.invokevirtual 77, 3) := by decide +kernel
theorem dX1_readSum_5 : decode cX1_readSum 5 = .ok (.istore_n 2, 1) := by decide +kernel
theorem dX1_readSum_6 : decode cX1_readSum 6 = .ok (.iconst 0, 1) := by decide +kernel
theorem dX1_readSum_7 : decode cX1_readSum 7 = .ok (.istore_n 3, 1) := by decide +kernel
theorem dX1_readSum_8 : decode cX1_readSum 8 = .ok (.iload_n 3, 1) := by decide +kernel
theorem dX1_readSum_9 : decode cX1_readSum 9 = .ok (.sipush 160, 3) := by decide +kernel
theorem dX1_readSum_12 : decode cX1_readSum 12 = .ok (.if_icmp .ge 76, 3) := by decide +kernel
theorem dX1_readSum_15 : decode cX1_readSum 15 = .ok (.iload_n 2, 1) := by decide +kernel
theorem dX1_readSum_16 : decode cX1_readSum 16 = .ok (.ifCond .eq 72, 3) := by decide +kernel
theorem dX1_readSum_19 : decode cX1_readSum 19 = .ok (.aload_n 0, 1) := by decide +kernel
theorem dX1_readSum_20 : decode cX1_readSum 20 = .ok (.getfield 25, 3) := by decide +kernel
theorem dX1_readSum_23 : decode cX1_readSum 23 = .ok (.bipush 43, 2) := by decide +kernel
theorem dX1_readSum_25 : decode cX1_readSum 25 = .ok (.if_icmp .eq 12, 3) := by decide +kernel
theorem dX1_readSum_28 : decode cX1_readSum 28 = .ok (.aload_n 0, 1) := by decide +kernel
theorem dX1_readSum_29 : decode cX1_readSum 29 = .ok (.getfield 25, 3) := by decide +kernel
theorem dX1_readSum_32 : decode cX1_readSum 32 = .ok (.bipush 45, 2) := by decide +kernel
theorem dX1_readSum_34 : decode cX1_readSum 34 = .ok (.if_icmp .ne 54, 3) := by decide +kernel
theorem dX1_readSum_37 : decode cX1_readSum 37 = .ok (.aload_n 0, 1) := by decide +kernel
theorem dX1_readSum_38 : decode cX1_readSum 38 = .ok (.getfield 25, 3) := by decide +kernel
theorem dX1_readSum_41 : decode cX1_readSum 41 = .ok (.bipush 43, 2) := by decide +kernel
theorem dX1_readSum_43 : decode cX1_readSum 43 = .ok (.if_icmp .ne 8, 3) := by decide +kernel
theorem dX1_readSum_46 : decode cX1_readSum 46 = .ok (.bipush (-14), 2) := by decide +kernel
theorem dX1_readSum_48 : decode cX1_readSum 48 = .ok (.goto 5, 3) := by decide +kernel
theorem dX1_readSum_51 : decode cX1_readSum 51 = .ok (.bipush (-15), 2) := by decide +kernel
theorem dX1_readSum_53 : decode cX1_readSum 53 = .ok (.istore 4, 2) := by decide +kernel
theorem dX1_readSum_55 : decode cX1_readSum 55 = .ok (.aload_n 0, 1) := by decide +kernel
theorem dX1_readSum_56 : decode cX1_readSum 56 = .ok (.invokevirtual 40, 3) := by decide +kernel
theorem dX1_readSum_59 : decode cX1_readSum 59 = .ok (.aload_n 0, 1) := by decide +kernel
theorem dX1_readSum_60 : decode cX1_readSum 60 = .ok (.iload_n 1, 1) := by decide +kernel
theorem dX1_readSum_61 : decode cX1_readSum 61 = .ok (.invokevirtual 77, 3) := by decide +kernel
theorem dX1_readSum_64 : decode cX1_readSum 64 = .ok (.ifCond .eq 16, 3) := by decide +kernel
theorem dX1_readSum_67 : decode cX1_readSum 67 = .ok (.aload_n 0, 1) := by decide +kernel
theorem dX1_readSum_68 : decode cX1_readSum 68 = .ok (.iload 4, 2) := by decide +kernel
theorem dX1_readSum_70 : decode cX1_readSum 70 = .ok (.invokevirtual 68, 3) := by decide +kernel
theorem dX1_readSum_73 : decode cX1_readSum 73 = .ok (.ifCond .eq 7, 3) := by decide +kernel
theorem dX1_readSum_76 : decode cX1_readSum 76 = .ok (.iconst 1, 1) := by decide +kernel
theorem dX1_readSum_77 : decode cX1_readSum 77 = .ok (.goto 4, 3) := by decide +kernel
theorem dX1_readSum_80 : decode cX1_readSum 80 = .ok (.iconst 0, 1) := by decide +kernel
theorem dX1_readSum_81 : decode cX1_readSum 81 = .ok (.istore_n 2, 1) := by decide +kernel
theorem dX1_readSum_82 : decode cX1_readSum 82 = .ok (.iinc 3 1, 3) := by decide +kernel
theorem dX1_readSum_85 : decode cX1_readSum 85 = .ok (.goto (-77), 3) := by decide +kernel
theorem dX1_readSum_88 : decode cX1_readSum 88 = .ok (.iload_n 2, 1) := by decide +kernel
theorem dX1_readSum_89 : decode cX1_readSum 89 = .ok (.ireturn, 1) := by decide +kernel
theorem dX1_readTerm_0 : decode cX1_readTerm 0 = .ok (.aload_n 0, 1) := by decide +kernel
theorem dX1_readTerm_1 : decode cX1_readTerm 1 = .ok (.iload_n 1, 1) := by decide +kernel
theorem dX1_readTerm_2 : decode cX1_readTerm 2 = .ok (.invokevirtual 80, 3) := by decide +kernel
theorem dX1_readTerm_5 : decode cX1_readTerm 5 = .ok (.istore_n 2, 1) := by decide +kernel
theorem dX1_readTerm_6 : decode cX1_readTerm 6 = .ok (.iconst 0, 1) := by decide +kernel
theorem dX1_readTerm_7 : decode cX1_readTerm 7 = .ok (.istore_n 3, 1) := by decide +kernel
theorem dX1_readTerm_8 : decode cX1_readTerm 8 = .ok (.iload_n 3, 1) := by decide +kernel
theorem dX1_readTerm_9 : decode cX1_readTerm 9 = .ok (.sipush 160, 3) := by decide +kernel
theorem dX1_readTerm_12 : decode cX1_readTerm 12 = .ok (.if_icmp .ge 49, 3) := by decide +kernel
theorem dX1_readTerm_15 : decode cX1_readTerm 15 = .ok (.iload_n 2, 1) := by decide +kernel
theorem dX1_readTerm_16 : decode cX1_readTerm 16 = .ok (.ifCond .eq 45, 3) := by decide +kernel
theorem dX1_readTerm_19 : decode cX1_readTerm 19 = .ok (.aload_n 0, 1) := by decide +kernel
theorem dX1_readTerm_20 : decode cX1_readTerm 20 = .ok (.getfield 25, 3) := by decide +kernel
theorem dX1_readTerm_23 : decode cX1_readTerm 23 = .ok (.bipush 42, 2) := by decide +kernel
theorem dX1_readTerm_25 : decode cX1_readTerm 25 = .ok (.if_icmp .ne 36, 3) := by decide +kernel
theorem dX1_readTerm_28 : decode cX1_readTerm 28 = .ok (.aload_n 0, 1) := by decide +kernel
theorem dX1_readTerm_29 : decode cX1_readTerm 29 = .ok (.invokevirtual 40, 3) := by decide +kernel
theorem dX1_readTerm_32 : decode cX1_readTerm 32 = .ok (.aload_n 0, 1) := by decide +kernel
theorem dX1_readTerm_33 : decode cX1_readTerm 33 = .ok (.iload_n 1, 1) := by decide +kernel
theorem dX1_readTerm_34 : decode cX1_readTerm 34 = .ok (.invokevirtual 80, 3) := by decide +kernel
theorem dX1_readTerm_37 : decode cX1_readTerm 37 = .ok (.ifCond .eq 16, 3) := by decide +kernel
theorem dX1_readTerm_40 : decode cX1_readTerm 40 = .ok (.aload_n 0, 1) := by decide +kernel
theorem dX1_readTerm_41 : decode cX1_readTerm 41 = .ok (.bipush (-16), 2) := by decide +kernel
theorem dX1_readTerm_43 : decode cX1_readTerm 43 = .ok (.invokevirtual 68, 3) := by decide +kernel
theorem dX1_readTerm_46 : decode cX1_readTerm 46 = .ok (.ifCond .eq 7, 3) := by decide +kernel
theorem dX1_readTerm_49 : decode cX1_readTerm 49 = .ok (.iconst 1, 1) := by decide +kernel
theorem dX1_readTerm_50 : decode cX1_readTerm 50 = .ok (.goto 4, 3) := by decide +kernel
theorem dX1_readTerm_53 : decode cX1_readTerm 53 = .ok (.iconst 0, 1) := by decide +kernel
theorem dX1_readTerm_54 : decode cX1_readTerm 54 = .ok (.istore_n 2, 1) := by decide +kernel
theorem dX1_readTerm_55 : decode cX1_readTerm 55 = .ok (.iinc 3 1, 3) := by decide +kernel
theorem dX1_readTerm_58 : decode cX1_readTerm 58 = .ok (.goto (-50), 3) := by decide +kernel
theorem dX1_readTerm_61 : decode cX1_readTerm 61 = .ok (.iload_n 2, 1) := by decide +kernel
theorem dX1_readTerm_62 : decode cX1_readTerm 62 = .ok (.ireturn, 1) := by decide +kernel
theorem dX1_readOne_0 : decode cX1_readOne 0 = .ok (.aload_n 0, 1) := by decide +kernel
theorem dX1_readOne_1 : decode cX1_readOne 1 = .ok (.getfield 25, 3) := by decide +kernel
theorem dX1_readOne_4 : decode cX1_readOne 4 = .ok (.sipush 258, 3) := by decide +kernel
theorem dX1_readOne_7 : decode cX1_readOne 7 = .ok (.if_icmp .eq 13, 3) := by decide +kernel
theorem dX1_readOne_10 : decode cX1_readOne 10 = .ok (.aload_n 0, 1) := by decide +kernel
theorem dX1_readOne_11 : decode cX1_readOne 11 = .ok (.getfield 25, 3) := by decide +kernel
theorem dX1_readOne_14 : decode cX1_readOne 14 = .ok (.sipush 259, 3) := by decide +kernel
theorem dX1_readOne_17 : decode cX1_readOne 17 = .ok (.if_icmp .ne 18, 3) := by decide +kernel
theorem dX1_readOne_20 : decode cX1_readOne 20 = .ok (.aload_n 0, 1) := by decide +kernel
theorem dX1_readOne_21 : decode cX1_readOne 21 = .ok (.aload_n 0, 1) := by decide +kernel
theorem dX1_readOne_22 : decode cX1_readOne 22 = .ok (.getfield 31, 3) := by decide +kernel
theorem dX1_readOne_25 : decode cX1_readOne 25 = .ok (.invokevirtual 68, 3) := by decide +kernel
theorem dX1_readOne_28 : decode cX1_readOne 28 = .ok (.pop, 1) := by decide +kernel
theorem dX1_readOne_29 : decode cX1_readOne 29 = .ok (.aload_n 0, 1) := by decide +kernel
theorem dX1_readOne_30 : decode cX1_readOne 30 = .ok (.invokevirtual 40, 3) := by decide +kernel
theorem dX1_readOne_33 : decode cX1_readOne 33 = .ok (.iconst 1, 1) := by decide +kernel
theorem dX1_readOne_34 : decode cX1_readOne 34 = .ok (.ireturn, 1) := by decide +kernel
theorem dX1_readOne_35 : decode cX1_readOne 35 = .ok (.aload_n 0, 1) := by decide +kernel
theorem dX1_readOne_36 : decode cX1_readOne 36 = .ok (.getfield 25, 3) := by decide +kernel
theorem dX1_readOne_39 : decode cX1_readOne 39 = .ok (.bipush 45, 2) := by decide +kernel
theorem dX1_readOne_41 : decode cX1_readOne 41 = .ok (.if_icmp .eq 12, 3) := by decide +kernel
theorem dX1_readOne_44 : decode cX1_readOne 44 = .ok (.aload_n 0, 1) := by decide +kernel
theorem dX1_readOne_45 : decode cX1_readOne 45 = .ok (.getfield 25, 3) := by decide +kernel
theorem dX1_readOne_48 : decode cX1_readOne 48 = .ok (.bipush 40, 2) := by decide +kernel
theorem dX1_readOne_50 : decode cX1_readOne 50 = .ok (.if_icmp .ne 8, 3) := by decide +kernel
theorem dX1_readOne_53 : decode cX1_readOne 53 = .ok (.iload_n 1, 1) := by decide +kernel
theorem dX1_readOne_54 : decode cX1_readOne 54 = .ok (.iconst 5, 1) := by decide +kernel
theorem dX1_readOne_55 : decode cX1_readOne 55 = .ok (.if_icmp .lt 8, 3) := by decide +kernel
theorem dX1_readOne_58 : decode cX1_readOne 58 = .ok (.aload_n 0, 1) := by decide +kernel
theorem dX1_readOne_59 : decode cX1_readOne 59 = .ok (.invokevirtual 61, 3) := by decide +kernel
theorem dX1_readOne_62 : decode cX1_readOne 62 = .ok (.ireturn, 1) := by decide +kernel
theorem dX1_readOne_63 : decode cX1_readOne 63 = .ok (.aload_n 0, 1) := by decide +kernel
theorem dX1_readOne_64 : decode cX1_readOne 64 = .ok (.getfield 25, 3) := by decide +kernel
theorem dX1_readOne_67 : decode cX1_readOne 67 = .ok (.bipush 45, 2) := by decide +kernel
theorem dX1_readOne_69 : decode cX1_readOne 69 = .ok (.if_icmp .ne 7, 3) := by decide +kernel
theorem dX1_readOne_72 : decode cX1_readOne 72 = .ok (.iconst 1, 1) := by decide +kernel
theorem dX1_readOne_73 : decode cX1_readOne 73 = .ok (.goto 4, 3) := by decide +kernel
theorem dX1_readOne_76 : decode cX1_readOne 76 = .ok (.iconst 0, 1) := by decide +kernel
theorem dX1_readOne_77 : decode cX1_readOne 77 = .ok (.istore_n 2, 1) := by decide +kernel
theorem dX1_readOne_78 : decode cX1_readOne 78 = .ok (.aload_n 0, 1) := by decide +kernel
theorem dX1_readOne_79 : decode cX1_readOne 79 = .ok (.invokevirtual 40, 3) := by decide +kernel
theorem dX1_readOne_82 : decode cX1_readOne 82 = .ok (.iload_n 2, 1) := by decide +kernel
theorem dX1_readOne_83 : decode cX1_readOne 83 = .ok (.ifCond .eq 28, 3) := by decide +kernel
theorem dX1_readOne_86 : decode cX1_readOne 86 = .ok (.aload_n 0, 1) := by decide +kernel
theorem dX1_readOne_87 : decode cX1_readOne 87 = .ok (.iload_n 1, 1) := by decide +kernel
theorem dX1_readOne_88 : decode cX1_readOne 88 = .ok (.iconst 1, 1) := by decide +kernel
theorem dX1_readOne_89 : decode cX1_readOne 89 = .ok (.iadd, 1) := by decide +kernel
theorem dX1_readOne_90 : decode cX1_readOne 90 = .ok (.invokevirtual 80, 3) := by decide +kernel
theorem dX1_readOne_93 : decode cX1_readOne 93 = .ok (.ifCond .eq 16, 3) := by decide +kernel
theorem dX1_readOne_96 : decode cX1_readOne 96 = .ok (.aload_n 0, 1) := by decide +kernel
theorem dX1_readOne_97 : decode cX1_readOne 97 = .ok (.bipush (-13), 2) := by decide +kernel
theorem dX1_readOne_99 : decode cX1_readOne 99 = .ok (.invokevirtual 68, 3) := by decide +kernel
theorem dX1_readOne_102 : decode cX1_readOne 102 = .ok (.ifCond .eq 7, 3) := by decide +kernel
theorem dX1_readOne_105 : decode cX1_readOne 105 = .ok (.iconst 1, 1) := by decide +kernel
theorem dX1_readOne_106 : decode cX1_readOne 106 = .ok (.goto 4, 3) := by decide +kernel
theorem dX1_readOne_109 : decode cX1_readOne 109 = .ok (.iconst 0, 1) := by decide +kernel
theorem dX1_readOne_110 : decode cX1_readOne 110 = .ok (.ireturn, 1) := by decide +kernel
theorem dX1_readOne_111 : decode cX1_readOne 111 = .ok (.aload_n 0, 1) := by decide +kernel
theorem dX1_readOne_112 : decode cX1_readOne 112 = .ok (.iload_n 1, 1) := by decide +kernel
theorem dX1_readOne_113 : decode cX1_readOne 113 = .ok (.iconst 1, 1) := by decide +kernel
theorem dX1_readOne_114 : decode cX1_readOne 114 = .ok (.iadd, 1) := by decide +kernel
theorem dX1_readOne_115 : decode cX1_readOne 115 = .ok (.invokevirtual 47, 3) := by decide +kernel
theorem dX1_readOne_118 : decode cX1_readOne 118 = .ok (.ifCond .eq 16, 3) := by decide +kernel
theorem dX1_readOne_121 : decode cX1_readOne 121 = .ok (.aload_n 0, 1) := by decide +kernel
theorem dX1_readOne_122 : decode cX1_readOne 122 = .ok (.bipush 41, 2) := by decide +kernel
theorem dX1_readOne_124 : decode cX1_readOne 124 = .ok (.invokevirtual 43, 3) := by decide +kernel
theorem dX1_readOne_127 : decode cX1_readOne 127 = .ok (.ifCond .eq 7, 3) := by decide +kernel
theorem dX1_readOne_130 : decode cX1_readOne 130 = .ok (.iconst 1, 1) := by decide +kernel
theorem dX1_readOne_131 : decode cX1_readOne 131 = .ok (.goto 4, 3) := by decide +kernel
theorem dX1_readOne_134 : decode cX1_readOne 134 = .ok (.iconst 0, 1) := by decide +kernel
theorem dX1_readOne_135 : decode cX1_readOne 135 = .ok (.ireturn, 1) := by decide +kernel
theorem dX1_next_0 : decode cX1_next 0 = .ok (.iconst 0, 1) := by decide +kernel
theorem dX1_next_1 : decode cX1_next 1 = .ok (.istore_n 1, 1) := by decide +kernel
theorem dX1_next_2 : decode cX1_next 2 = .ok (.iload_n 1, 1) := by decide +kernel
theorem dX1_next_3 : decode cX1_next 3 = .ok (.sipush 160, 3) := by decide +kernel
theorem dX1_next_6 : decode cX1_next 6 = .ok (.if_icmp .ge 58, 3) := by decide +kernel
theorem dX1_next_9 : decode cX1_next 9 = .ok (.aload_n 0, 1) := by decide +kernel
theorem dX1_next_10 : decode cX1_next 10 = .ok (.getfield 22, 3) := by decide +kernel
theorem dX1_next_13 : decode cX1_next 13 = .ok (.aload_n 0, 1) := by decide +kernel
theorem dX1_next_14 : decode cX1_next 14 = .ok (.getfield 9, 3) := by decide +kernel
theorem dX1_next_17 : decode cX1_next 17 = .ok (.if_icmp .ge 47, 3) := by decide +kernel
theorem dX1_next_20 : decode cX1_next 20 = .ok (.aload_n 0, 1) := by decide +kernel
theorem dX1_next_21 : decode cX1_next 21 = .ok (.getfield 18, 3) := by decide +kernel
theorem dX1_next_24 : decode cX1_next 24 = .ok (.aload_n 0, 1) := by decide +kernel
theorem dX1_next_25 : decode cX1_next 25 = .ok (.getfield 22, 3) := by decide +kernel
theorem dX1_next_28 : decode cX1_next 28 = .ok (.iaload, 1) := by decide +kernel
theorem dX1_next_29 : decode cX1_next 29 = .ok (.bipush 32, 2) := by decide +kernel
theorem dX1_next_31 : decode cX1_next 31 = .ok (.if_icmp .eq 17, 3) := by decide +kernel
theorem dX1_next_34 : decode cX1_next 34 = .ok (.aload_n 0, 1) := by decide +kernel
theorem dX1_next_35 : decode cX1_next 35 = .ok (.getfield 18, 3) := by decide +kernel
theorem dX1_next_38 : decode cX1_next 38 = .ok (.aload_n 0, 1) := by decide +kernel
theorem dX1_next_39 : decode cX1_next 39 = .ok (.getfield 22, 3) := by decide +kernel
theorem dX1_next_42 : decode cX1_next 42 = .ok (.iaload, 1) := by decide +kernel
theorem dX1_next_43 : decode cX1_next 43 = .ok (.bipush 10, 2) := by decide +kernel
theorem dX1_next_45 : decode cX1_next 45 = .ok (.if_icmp .ne 19, 3) := by decide +kernel
theorem dX1_next_48 : decode cX1_next 48 = .ok (.aload_n 0, 1) := by decide +kernel
theorem dX1_next_49 : decode cX1_next 49 = .ok (.dup, 1) := by decide +kernel
theorem dX1_next_50 : decode cX1_next 50 = .ok (.getfield 22, 3) := by decide +kernel
theorem dX1_next_53 : decode cX1_next 53 = .ok (.iconst 1, 1) := by decide +kernel
theorem dX1_next_54 : decode cX1_next 54 = .ok (.iadd, 1) := by decide +kernel
theorem dX1_next_55 : decode cX1_next 55 = .ok (.putfield 22, 3) := by decide +kernel
theorem dX1_next_58 : decode cX1_next 58 = .ok (.iinc 1 1, 3) := by decide +kernel
theorem dX1_next_61 : decode cX1_next 61 = .ok (.goto (-59), 3) := by decide +kernel
theorem dX1_next_64 : decode cX1_next 64 = .ok (.aload_n 0, 1) := by decide +kernel
theorem dX1_next_65 : decode cX1_next 65 = .ok (.aload_n 0, 1) := by decide +kernel
theorem dX1_next_66 : decode cX1_next 66 = .ok (.getfield 22, 3) := by decide +kernel
theorem dX1_next_69 : decode cX1_next 69 = .ok (.putfield 28, 3) := by decide +kernel
theorem dX1_next_72 : decode cX1_next 72 = .ok (.aload_n 0, 1) := by decide +kernel
theorem dX1_next_73 : decode cX1_next 73 = .ok (.getfield 22, 3) := by decide +kernel
theorem dX1_next_76 : decode cX1_next 76 = .ok (.aload_n 0, 1) := by decide +kernel
theorem dX1_next_77 : decode cX1_next 77 = .ok (.getfield 9, 3) := by decide +kernel
theorem dX1_next_80 : decode cX1_next 80 = .ok (.if_icmp .lt 13, 3) := by decide +kernel
theorem dX1_next_83 : decode cX1_next 83 = .ok (.aload_n 0, 1) := by decide +kernel
theorem dX1_next_84 : decode cX1_next 84 = .ok (.sipush 256, 3) := by decide +kernel
theorem dX1_next_87 : decode cX1_next 87 = .ok (.putfield 25, 3) := by decide +kernel
theorem dX1_next_90 : decode cX1_next 90 = .ok (.goto 91, 3) := by decide +kernel
theorem dX1_next_93 : decode cX1_next 93 = .ok (.aload_n 0, 1) := by decide +kernel
theorem dX1_next_94 : decode cX1_next 94 = .ok (.getfield 18, 3) := by decide +kernel
theorem dX1_next_97 : decode cX1_next 97 = .ok (.aload_n 0, 1) := by decide +kernel
theorem dX1_next_98 : decode cX1_next 98 = .ok (.getfield 22, 3) := by decide +kernel
theorem dX1_next_101 : decode cX1_next 101 = .ok (.iaload, 1) := by decide +kernel
theorem dX1_next_102 : decode cX1_next 102 = .ok (.invokestatic 83, 3) := by decide +kernel
theorem dX1_next_105 : decode cX1_next 105 = .ok (.ifCond .eq 10, 3) := by decide +kernel
theorem dX1_next_108 : decode cX1_next 108 = .ok (.aload_n 0, 1) := by decide +kernel
theorem dX1_next_109 : decode cX1_next 109 = .ok (.invokevirtual 86, 3) := by decide +kernel
theorem dX1_next_112 : decode cX1_next 112 = .ok (.goto 69, 3) := by decide +kernel
theorem dX1_next_115 : decode cX1_next 115 = .ok (.aload_n 0, 1) := by decide +kernel
theorem dX1_next_116 : decode cX1_next 116 = .ok (.getfield 18, 3) := by decide +kernel
theorem dX1_next_119 : decode cX1_next 119 = .ok (.aload_n 0, 1) := by decide +kernel
theorem dX1_next_120 : decode cX1_next 120 = .ok (.getfield 22, 3) := by decide +kernel
theorem dX1_next_123 : decode cX1_next 123 = .ok (.iaload, 1) := by decide +kernel
theorem dX1_next_124 : decode cX1_next 124 = .ok (.invokestatic 89, 3) := by decide +kernel
theorem dX1_next_127 : decode cX1_next 127 = .ok (.ifCond .eq 10, 3) := by decide +kernel
theorem dX1_next_130 : decode cX1_next 130 = .ok (.aload_n 0, 1) := by decide +kernel
theorem dX1_next_131 : decode cX1_next 131 = .ok (.invokevirtual 92, 3) := by decide +kernel
theorem dX1_next_134 : decode cX1_next 134 = .ok (.goto 47, 3) := by decide +kernel
theorem dX1_next_137 : decode cX1_next 137 = .ok (.aload_n 0, 1) := by decide +kernel
theorem dX1_next_138 : decode cX1_next 138 = .ok (.aload_n 0, 1) := by decide +kernel
theorem dX1_next_139 : decode cX1_next 139 = .ok (.getfield 18, 3) := by decide +kernel
theorem dX1_next_142 : decode cX1_next 142 = .ok (.aload_n 0, 1) := by decide +kernel
theorem dX1_next_143 : decode cX1_next 143 = .ok (.getfield 22, 3) := by decide +kernel
theorem dX1_next_146 : decode cX1_next 146 = .ok (.iaload, 1) := by decide +kernel
theorem dX1_next_147 : decode cX1_next 147 = .ok (.invokestatic 95, 3) := by decide +kernel
theorem dX1_next_150 : decode cX1_next 150 = .ok (.ifCond .eq 15, 3) := by decide +kernel
theorem dX1_next_153 : decode cX1_next 153 = .ok (.aload_n 0, 1) := by decide +kernel
theorem dX1_next_154 : decode cX1_next 154 = .ok (.getfield 18, 3) := by decide +kernel
theorem dX1_next_157 : decode cX1_next 157 = .ok (.aload_n 0, 1) := by decide +kernel
theorem dX1_next_158 : decode cX1_next 158 = .ok (.getfield 22, 3) := by decide +kernel
theorem dX1_next_161 : decode cX1_next 161 = .ok (.iaload, 1) := by decide +kernel
theorem dX1_next_162 : decode cX1_next 162 = .ok (.goto 6, 3) := by decide +kernel
theorem dX1_next_165 : decode cX1_next 165 = .ok (.sipush 257, 3) := by decide +kernel
theorem dX1_next_168 : decode cX1_next 168 = .ok (.putfield 25, 3) := by decide +kernel
theorem dX1_next_171 : decode cX1_next 171 = .ok (.aload_n 0, 1) := by decide +kernel
theorem dX1_next_172 : decode cX1_next 172 = .ok (.dup, 1) := by decide +kernel
theorem dX1_next_173 : decode cX1_next 173 = .ok (.getfield 22, 3) := by decide +kernel
theorem dX1_next_176 : decode cX1_next 176 = .ok (.iconst 1, 1) := by decide +kernel
theorem dX1_next_177 : decode cX1_next 177 = .ok (.iadd, 1) := by decide +kernel
theorem dX1_next_178 : decode cX1_next 178 = .ok (.putfield 22, 3) := by decide +kernel
theorem dX1_next_181 : decode cX1_next 181 = .ok (.return_, 1) := by decide +kernel
theorem dX1_nextNumber_0 : decode cX1_nextNumber 0 = .ok (.aload_n 0, 1) := by decide +kernel
theorem dX1_nextNumber_1 : decode cX1_nextNumber 1 = .ok (.sipush 258, 3) := by decide +kernel
theorem dX1_nextNumber_4 : decode cX1_nextNumber 4 = .ok (.putfield 25, 3) := by decide +kernel
theorem dX1_nextNumber_7 : decode cX1_nextNumber 7 = .ok (.aload_n 0, 1) := by decide +kernel
theorem dX1_nextNumber_8 : decode cX1_nextNumber 8 = .ok (.iconst 0, 1) := by decide +kernel
theorem dX1_nextNumber_9 : decode cX1_nextNumber 9 = .ok (.putfield 31, 3) := by decide +kernel
theorem dX1_nextNumber_12 : decode cX1_nextNumber 12 = .ok (.iconst 0, 1) := by decide +kernel
theorem dX1_nextNumber_13 : decode cX1_nextNumber 13 = .ok (.istore_n 1, 1) := by decide +kernel
theorem dX1_nextNumber_14 : decode cX1_nextNumber 14 = .ok (.iload_n 1, 1) := by decide +kernel
theorem dX1_nextNumber_15 : decode cX1_nextNumber 15 = .ok (.sipush 160, 3) := by decide +kernel
theorem dX1_nextNumber_18 : decode cX1_nextNumber 18 = .ok (.if_icmp .ge 69, 3) := by decide +kernel
theorem dX1_nextNumber_21 : decode cX1_nextNumber 21 = .ok (.aload_n 0, 1) := by decide +kernel
theorem dX1_nextNumber_22 : decode cX1_nextNumber 22 = .ok (.getfield 22, 3) := by decide +kernel
theorem dX1_nextNumber_25 : decode cX1_nextNumber 25 = .ok (.aload_n 0, 1) := by decide +kernel
theorem dX1_nextNumber_26 : decode cX1_nextNumber 26 = .ok (.getfield 9, 3) := by decide +kernel
theorem dX1_nextNumber_29 : decode cX1_nextNumber 29 = .ok (.if_icmp .ge 58, 3) := by decide +kernel
theorem dX1_nextNumber_32 : decode cX1_nextNumber 32 = .ok (.aload_n 0, 1) := by decide +kernel
theorem dX1_nextNumber_33 : decode cX1_nextNumber 33 = .ok (.getfield 18, 3) := by decide +kernel
theorem dX1_nextNumber_36 : decode cX1_nextNumber 36 = .ok (.aload_n 0, 1) := by decide +kernel
theorem dX1_nextNumber_37 : decode cX1_nextNumber 37 = .ok (.getfield 22, 3) := by decide +kernel
theorem dX1_nextNumber_40 : decode cX1_nextNumber 40 = .ok (.iaload, 1) := by decide +kernel
theorem dX1_nextNumber_41 : decode cX1_nextNumber 41 = .ok (.invokestatic 89, 3) := by decide +kernel
theorem dX1_nextNumber_44 : decode cX1_nextNumber 44 = .ok (.ifCond .eq 43, 3) := by decide +kernel
theorem dX1_nextNumber_47 : decode cX1_nextNumber 47 = .ok (.aload_n 0, 1) := by decide +kernel
theorem dX1_nextNumber_48 : decode cX1_nextNumber 48 = .ok (.bipush 10, 2) := by decide +kernel
theorem dX1_nextNumber_50 : decode cX1_nextNumber 50 = .ok (.aload_n 0, 1) := by decide +kernel
theorem dX1_nextNumber_51 : decode cX1_nextNumber 51 = .ok (.getfield 31, 3) := by decide +kernel
theorem dX1_nextNumber_54 : decode cX1_nextNumber 54 = .ok (.imul, 1) := by decide +kernel
theorem dX1_nextNumber_55 : decode cX1_nextNumber 55 = .ok (.aload_n 0, 1) := by decide +kernel
theorem dX1_nextNumber_56 : decode cX1_nextNumber 56 = .ok (.getfield 18, 3) := by decide +kernel
theorem dX1_nextNumber_59 : decode cX1_nextNumber 59 = .ok (.aload_n 0, 1) := by decide +kernel
theorem dX1_nextNumber_60 : decode cX1_nextNumber 60 = .ok (.getfield 22, 3) := by decide +kernel
theorem dX1_nextNumber_63 : decode cX1_nextNumber 63 = .ok (.iaload, 1) := by decide +kernel
theorem dX1_nextNumber_64 : decode cX1_nextNumber 64 = .ok (.iadd, 1) := by decide +kernel
theorem dX1_nextNumber_65 : decode cX1_nextNumber 65 = .ok (.bipush 48, 2) := by decide +kernel
theorem dX1_nextNumber_67 : decode cX1_nextNumber 67 = .ok (.isub, 1) := by decide +kernel
theorem dX1_nextNumber_68 : decode cX1_nextNumber 68 = .ok (.putfield 31, 3) := by decide +kernel
theorem dX1_nextNumber_71 : decode cX1_nextNumber 71 = .ok (.aload_n 0, 1) := by decide +kernel
theorem dX1_nextNumber_72 : decode cX1_nextNumber 72 = .ok (.dup, 1) := by decide +kernel
theorem dX1_nextNumber_73 : decode cX1_nextNumber 73 = .ok (.getfield 22, 3) := by decide +kernel
theorem dX1_nextNumber_76 : decode cX1_nextNumber 76 = .ok (.iconst 1, 1) := by decide +kernel
theorem dX1_nextNumber_77 : decode cX1_nextNumber 77 = .ok (.iadd, 1) := by decide +kernel
theorem dX1_nextNumber_78 : decode cX1_nextNumber 78 = .ok (.putfield 22, 3) := by decide +kernel
theorem dX1_nextNumber_81 : decode cX1_nextNumber 81 = .ok (.iinc 1 1, 3) := by decide +kernel
theorem dX1_nextNumber_84 : decode cX1_nextNumber 84 = .ok (.goto (-70), 3) := by decide +kernel
theorem dX1_nextNumber_87 : decode cX1_nextNumber 87 = .ok (.aload_n 0, 1) := by decide +kernel
theorem dX1_nextNumber_88 : decode cX1_nextNumber 88 = .ok (.getfield 22, 3) := by decide +kernel
theorem dX1_nextNumber_91 : decode cX1_nextNumber 91 = .ok (.aload_n 0, 1) := by decide +kernel
theorem dX1_nextNumber_92 : decode cX1_nextNumber 92 = .ok (.getfield 28, 3) := by decide +kernel
theorem dX1_nextNumber_95 : decode cX1_nextNumber 95 = .ok (.isub, 1) := by decide +kernel
theorem dX1_nextNumber_96 : decode cX1_nextNumber 96 = .ok (.iconst 4, 1) := by decide +kernel
theorem dX1_nextNumber_97 : decode cX1_nextNumber 97 = .ok (.if_icmp .le 10, 3) := by decide +kernel
theorem dX1_nextNumber_100 : decode cX1_nextNumber 100 = .ok (.aload_n 0, 1) := by decide +kernel
theorem dX1_nextNumber_101 : decode cX1_nextNumber 101 = .ok (.sipush 257, 3) := by decide +kernel
theorem dX1_nextNumber_104 : decode cX1_nextNumber 104 = .ok (.putfield 25, 3) := by decide +kernel
theorem dX1_nextNumber_107 : decode cX1_nextNumber 107 = .ok (.return_, 1) := by decide +kernel
theorem dX1_nextWord_0 : decode cX1_nextWord 0 = .ok (.iconst 0, 1) := by decide +kernel
theorem dX1_nextWord_1 : decode cX1_nextWord 1 = .ok (.istore_n 1, 1) := by decide +kernel
theorem dX1_nextWord_2 : decode cX1_nextWord 2 = .ok (.iload_n 1, 1) := by decide +kernel
theorem dX1_nextWord_3 : decode cX1_nextWord 3 = .ok (.sipush 160, 3) := by decide +kernel
theorem dX1_nextWord_6 : decode cX1_nextWord 6 = .ok (.if_icmp .ge 45, 3) := by decide +kernel
theorem dX1_nextWord_9 : decode cX1_nextWord 9 = .ok (.aload_n 0, 1) := by decide +kernel
theorem dX1_nextWord_10 : decode cX1_nextWord 10 = .ok (.getfield 22, 3) := by decide +kernel
theorem dX1_nextWord_13 : decode cX1_nextWord 13 = .ok (.aload_n 0, 1) := by decide +kernel
theorem dX1_nextWord_14 : decode cX1_nextWord 14 = .ok (.getfield 9, 3) := by decide +kernel
theorem dX1_nextWord_17 : decode cX1_nextWord 17 = .ok (.if_icmp .ge 34, 3) := by decide +kernel
theorem dX1_nextWord_20 : decode cX1_nextWord 20 = .ok (.aload_n 0, 1) := by decide +kernel
theorem dX1_nextWord_21 : decode cX1_nextWord 21 = .ok (.getfield 18, 3) := by decide +kernel
theorem dX1_nextWord_24 : decode cX1_nextWord 24 = .ok (.aload_n 0, 1) := by decide +kernel
theorem dX1_nextWord_25 : decode cX1_nextWord 25 = .ok (.getfield 22, 3) := by decide +kernel
theorem dX1_nextWord_28 : decode cX1_nextWord 28 = .ok (.iaload, 1) := by decide +kernel
theorem dX1_nextWord_29 : decode cX1_nextWord 29 = .ok (.invokestatic 83, 3) := by decide +kernel
theorem dX1_nextWord_32 : decode cX1_nextWord 32 = .ok (.ifCond .eq 19, 3) := by decide +kernel
theorem dX1_nextWord_35 : decode cX1_nextWord 35 = .ok (.aload_n 0, 1) := by decide +kernel
theorem dX1_nextWord_36 : decode cX1_nextWord 36 = .ok (.dup, 1) := by decide +kernel
theorem dX1_nextWord_37 : decode cX1_nextWord 37 = .ok (.getfield 22, 3) := by decide +kernel
theorem dX1_nextWord_40 : decode cX1_nextWord 40 = .ok (.iconst 1, 1) := by decide +kernel
theorem dX1_nextWord_41 : decode cX1_nextWord 41 = .ok (.iadd, 1) := by decide +kernel
theorem dX1_nextWord_42 : decode cX1_nextWord 42 = .ok (.putfield 22, 3) := by decide +kernel
theorem dX1_nextWord_45 : decode cX1_nextWord 45 = .ok (.iinc 1 1, 3) := by decide +kernel
theorem dX1_nextWord_48 : decode cX1_nextWord 48 = .ok (.goto (-46), 3) := by decide +kernel
theorem dX1_nextWord_51 : decode cX1_nextWord 51 = .ok (.aload_n 0, 1) := by decide +kernel
theorem dX1_nextWord_52 : decode cX1_nextWord 52 = .ok (.sipush 257, 3) := by decide +kernel
theorem dX1_nextWord_55 : decode cX1_nextWord 55 = .ok (.putfield 25, 3) := by decide +kernel
theorem dX1_nextWord_58 : decode cX1_nextWord 58 = .ok (.aload_n 0, 1) := by decide +kernel
theorem dX1_nextWord_59 : decode cX1_nextWord 59 = .ok (.ldc 98, 2) := by decide +kernel
theorem dX1_nextWord_61 : decode cX1_nextWord 61 = .ok (.sipush 260, 3) := by decide +kernel
theorem dX1_nextWord_64 : decode cX1_nextWord 64 = .ok (.iconst 0, 1) := by decide +kernel
theorem dX1_nextWord_65 : decode cX1_nextWord 65 = .ok (.invokevirtual 100, 3) := by decide +kernel
theorem dX1_nextWord_68 : decode cX1_nextWord 68 = .ok (.aload_n 0, 1) := by decide +kernel
theorem dX1_nextWord_69 : decode cX1_nextWord 69 = .ok (.ldc 104, 2) := by decide +kernel
theorem dX1_nextWord_71 : decode cX1_nextWord 71 = .ok (.sipush 261, 3) := by decide +kernel
theorem dX1_nextWord_74 : decode cX1_nextWord 74 = .ok (.iconst 0, 1) := by decide +kernel
theorem dX1_nextWord_75 : decode cX1_nextWord 75 = .ok (.invokevirtual 100, 3) := by decide +kernel
theorem dX1_nextWord_78 : decode cX1_nextWord 78 = .ok (.aload_n 0, 1) := by decide +kernel
theorem dX1_nextWord_79 : decode cX1_nextWord 79 = .ok (.ldc 106, 2) := by decide +kernel
theorem dX1_nextWord_81 : decode cX1_nextWord 81 = .ok (.sipush 262, 3) := by decide +kernel
theorem dX1_nextWord_84 : decode cX1_nextWord 84 = .ok (.iconst 0, 1) := by decide +kernel
theorem dX1_nextWord_85 : decode cX1_nextWord 85 = .ok (.invokevirtual 100, 3) := by decide +kernel
theorem dX1_nextWord_88 : decode cX1_nextWord 88 = .ok (.aload_n 0, 1) := by decide +kernel
theorem dX1_nextWord_89 : decode cX1_nextWord 89 = .ok (.ldc 108, 2) := by decide +kernel
theorem dX1_nextWord_91 : decode cX1_nextWord 91 = .ok (.sipush 263, 3) := by decide +kernel
theorem dX1_nextWord_94 : decode cX1_nextWord 94 = .ok (.iconst 0, 1) := by decide +kernel
theorem dX1_nextWord_95 : decode cX1_nextWord 95 = .ok (.invokevirtual 100, 3) := by decide +kernel
theorem dX1_nextWord_98 : decode cX1_nextWord 98 = .ok (.aload_n 0, 1) := by decide +kernel
theorem dX1_nextWord_99 : decode cX1_nextWord 99 = .ok (.ldc 110, 2) := by decide +kernel
theorem dX1_nextWord_101 : decode cX1_nextWord 101 = .ok (.sipush 264, 3) := by decide +kernel
theorem dX1_nextWord_104 : decode cX1_nextWord 104 = .ok (.iconst 0, 1) := by decide +kernel
theorem dX1_nextWord_105 : decode cX1_nextWord 105 = .ok (.invokevirtual 100, 3) := by decide +kernel
theorem dX1_nextWord_108 : decode cX1_nextWord 108 = .ok (.aload_n 0, 1) := by decide +kernel
theorem dX1_nextWord_109 : decode cX1_nextWord 109 = .ok (.ldc 112, 2) := by decide +kernel
theorem dX1_nextWord_111 : decode cX1_nextWord 111 = .ok (.sipush 265, 3) := by decide +kernel
theorem dX1_nextWord_114 : decode cX1_nextWord 114 = .ok (.iconst 0, 1) := by decide +kernel
theorem dX1_nextWord_115 : decode cX1_nextWord 115 = .ok (.invokevirtual 100, 3) := by decide +kernel
theorem dX1_nextWord_118 : decode cX1_nextWord 118 = .ok (.aload_n 0, 1) := by decide +kernel
theorem dX1_nextWord_119 : decode cX1_nextWord 119 = .ok (.ldc 114, 2) := by decide +kernel
theorem dX1_nextWord_121 : decode cX1_nextWord 121 = .ok (.sipush 259, 3) := by decide +kernel
theorem dX1_nextWord_124 : decode cX1_nextWord 124 = .ok (.iconst (-1), 1) := by decide +kernel
theorem dX1_nextWord_125 : decode cX1_nextWord 125 = .ok (.invokevirtual 100, 3) := by decide +kernel
theorem dX1_nextWord_128 : decode cX1_nextWord 128 = .ok (.aload_n 0, 1) := by decide +kernel
theorem dX1_nextWord_129 : decode cX1_nextWord 129 = .ok (.ldc 116, 2) := by decide +kernel
theorem dX1_nextWord_131 : decode cX1_nextWord 131 = .ok (.sipush 259, 3) := by decide +kernel
theorem dX1_nextWord_134 : decode cX1_nextWord 134 = .ok (.bipush (-2), 2) := by decide +kernel
theorem dX1_nextWord_136 : decode cX1_nextWord 136 = .ok (.invokevirtual 100, 3) := by decide +kernel
theorem dX1_nextWord_139 : decode cX1_nextWord 139 = .ok (.aload_n 0, 1) := by decide +kernel
theorem dX1_nextWord_140 : decode cX1_nextWord 140 = .ok (.ldc 118, 2) := by decide +kernel
theorem dX1_nextWord_142 : decode cX1_nextWord 142 = .ok (.sipush 259, 3) := by decide +kernel
theorem dX1_nextWord_145 : decode cX1_nextWord 145 = .ok (.bipush (-3), 2) := by decide +kernel
theorem dX1_nextWord_147 : decode cX1_nextWord 147 = .ok (.invokevirtual 100, 3) := by decide +kernel
theorem dX1_nextWord_150 : decode cX1_nextWord 150 = .ok (.aload_n 0, 1) := by decide +kernel
theorem dX1_nextWord_151 : decode cX1_nextWord 151 = .ok (.ldc 120, 2) := by decide +kernel
theorem dX1_nextWord_153 : decode cX1_nextWord 153 = .ok (.sipush 259, 3) := by decide +kernel
theorem dX1_nextWord_156 : decode cX1_nextWord 156 = .ok (.bipush (-4), 2) := by decide +kernel
theorem dX1_nextWord_158 : decode cX1_nextWord 158 = .ok (.invokevirtual 100, 3) := by decide +kernel
theorem dX1_nextWord_161 : decode cX1_nextWord 161 = .ok (.aload_n 0, 1) := by decide +kernel
theorem dX1_nextWord_162 : decode cX1_nextWord 162 = .ok (.ldc 122, 2) := by decide +kernel
theorem dX1_nextWord_164 : decode cX1_nextWord 164 = .ok (.sipush 259, 3) := by decide +kernel
theorem dX1_nextWord_167 : decode cX1_nextWord 167 = .ok (.bipush (-5), 2) := by decide +kernel
theorem dX1_nextWord_169 : decode cX1_nextWord 169 = .ok (.invokevirtual 100, 3) := by decide +kernel
theorem dX1_nextWord_172 : decode cX1_nextWord 172 = .ok (.aload_n 0, 1) := by decide +kernel
theorem dX1_nextWord_173 : decode cX1_nextWord 173 = .ok (.ldc 124, 2) := by decide +kernel
theorem dX1_nextWord_175 : decode cX1_nextWord 175 = .ok (.sipush 259, 3) := by decide +kernel
theorem dX1_nextWord_178 : decode cX1_nextWord 178 = .ok (.bipush (-6), 2) := by decide +kernel
theorem dX1_nextWord_180 : decode cX1_nextWord 180 = .ok (.invokevirtual 100, 3) := by decide +kernel
theorem dX1_nextWord_183 : decode cX1_nextWord 183 = .ok (.return_, 1) := by decide +kernel
theorem dX1_mayBe_0 : decode cX1_mayBe 0 = .ok (.iconst 0, 1) := by decide +kernel
theorem dX1_mayBe_1 : decode cX1_mayBe 1 = .ok (.istore 4, 2) := by decide +kernel
theorem dX1_mayBe_3 : decode cX1_mayBe 3 = .ok (.iconst 0, 1) := by decide +kernel
theorem dX1_mayBe_4 : decode cX1_mayBe 4 = .ok (.istore 5, 2) := by decide +kernel
theorem dX1_mayBe_6 : decode cX1_mayBe 6 = .ok (.iload 5, 2) := by decide +kernel
theorem dX1_mayBe_8 : decode cX1_mayBe 8 = .ok (.aload_n 1, 1) := by decide +kernel
theorem dX1_mayBe_9 : decode cX1_mayBe 9 = .ok (.invokevirtual 126, 3) := by decide +kernel
theorem dX1_mayBe_12 : decode cX1_mayBe 12 = .ok (.if_icmp .ge 47, 3) := by decide +kernel
theorem dX1_mayBe_15 : decode cX1_mayBe 15 = .ok (.aload_n 0, 1) := by decide +kernel
theorem dX1_mayBe_16 : decode cX1_mayBe 16 = .ok (.getfield 28, 3) := by decide +kernel
theorem dX1_mayBe_19 : decode cX1_mayBe 19 = .ok (.iload 5, 2) := by decide +kernel
theorem dX1_mayBe_21 : decode cX1_mayBe 21 = .ok (.iadd, 1) := by decide +kernel
theorem dX1_mayBe_22 : decode cX1_mayBe 22 = .ok (.aload_n 0, 1) := by decide +kernel
theorem dX1_mayBe_23 : decode cX1_mayBe 23 = .ok (.getfield 22, 3) := by decide +kernel
theorem dX1_mayBe_26 : decode cX1_mayBe 26 = .ok (.if_icmp .ge 33, 3) := by decide +kernel
theorem dX1_mayBe_29 : decode cX1_mayBe 29 = .ok (.aload_n 0, 1) := by decide +kernel
theorem dX1_mayBe_30 : decode cX1_mayBe 30 = .ok (.getfield 18, 3) := by decide +kernel
theorem dX1_mayBe_33 : decode cX1_mayBe 33 = .ok (.aload_n 0, 1) := by decide +kernel
theorem dX1_mayBe_34 : decode cX1_mayBe 34 = .ok (.getfield 28, 3) := by decide +kernel
theorem dX1_mayBe_37 : decode cX1_mayBe 37 = .ok (.iload 5, 2) := by decide +kernel
theorem dX1_mayBe_39 : decode cX1_mayBe 39 = .ok (.iadd, 1) := by decide +kernel
theorem dX1_mayBe_40 : decode cX1_mayBe 40 = .ok (.iaload, 1) := by decide +kernel
theorem dX1_mayBe_41 : decode cX1_mayBe 41 = .ok (.aload_n 1, 1) := by decide +kernel
theorem dX1_mayBe_42 : decode cX1_mayBe 42 = .ok (.iload 5, 2) := by decide +kernel
theorem dX1_mayBe_44 : decode cX1_mayBe 44 = .ok (.invokevirtual 132, 3) := by decide +kernel
theorem dX1_mayBe_47 : decode cX1_mayBe 47 = .ok (.if_icmp .ne 6, 3) := by decide +kernel
theorem dX1_mayBe_50 : decode cX1_mayBe 50 = .ok (.iinc 4 1, 3) := by decide +kernel
theorem dX1_mayBe_53 : decode cX1_mayBe 53 = .ok (.iinc 5 1, 3) := by decide +kernel
theorem dX1_mayBe_56 : decode cX1_mayBe 56 = .ok (.goto (-50), 3) := by decide +kernel
theorem dX1_mayBe_59 : decode cX1_mayBe 59 = .ok (.iload 4, 2) := by decide +kernel
theorem dX1_mayBe_61 : decode cX1_mayBe 61 = .ok (.aload_n 1, 1) := by decide +kernel
theorem dX1_mayBe_62 : decode cX1_mayBe 62 = .ok (.invokevirtual 126, 3) := by decide +kernel
theorem dX1_mayBe_65 : decode cX1_mayBe 65 = .ok (.if_icmp .ne 27, 3) := by decide +kernel
theorem dX1_mayBe_68 : decode cX1_mayBe 68 = .ok (.aload_n 0, 1) := by decide +kernel
theorem dX1_mayBe_69 : decode cX1_mayBe 69 = .ok (.getfield 22, 3) := by decide +kernel
theorem dX1_mayBe_72 : decode cX1_mayBe 72 = .ok (.aload_n 0, 1) := by decide +kernel
theorem dX1_mayBe_73 : decode cX1_mayBe 73 = .ok (.getfield 28, 3) := by decide +kernel
theorem dX1_mayBe_76 : decode cX1_mayBe 76 = .ok (.isub, 1) := by decide +kernel
theorem dX1_mayBe_77 : decode cX1_mayBe 77 = .ok (.iload 4, 2) := by decide +kernel
theorem dX1_mayBe_79 : decode cX1_mayBe 79 = .ok (.if_icmp .ne 13, 3) := by decide +kernel
theorem dX1_mayBe_82 : decode cX1_mayBe 82 = .ok (.aload_n 0, 1) := by decide +kernel
theorem dX1_mayBe_83 : decode cX1_mayBe 83 = .ok (.iload_n 2, 1) := by decide +kernel
theorem dX1_mayBe_84 : decode cX1_mayBe 84 = .ok (.putfield 25, 3) := by decide +kernel
theorem dX1_mayBe_87 : decode cX1_mayBe 87 = .ok (.aload_n 0, 1) := by decide +kernel
theorem dX1_mayBe_88 : decode cX1_mayBe 88 = .ok (.iload_n 3, 1) := by decide +kernel
theorem dX1_mayBe_89 : decode cX1_mayBe 89 = .ok (.putfield 31, 3) := by decide +kernel
theorem dX1_mayBe_92 : decode cX1_mayBe 92 = .ok (.return_, 1) := by decide +kernel
theorem dX1_isLetter_0 : decode cX1_isLetter 0 = .ok (.iload_n 0, 1) := by decide +kernel
theorem dX1_isLetter_1 : decode cX1_isLetter 1 = .ok (.bipush 97, 2) := by decide +kernel
theorem dX1_isLetter_3 : decode cX1_isLetter 3 = .ok (.if_icmp .lt 13, 3) := by decide +kernel
theorem dX1_isLetter_6 : decode cX1_isLetter 6 = .ok (.iload_n 0, 1) := by decide +kernel
theorem dX1_isLetter_7 : decode cX1_isLetter 7 = .ok (.bipush 122, 2) := by decide +kernel
theorem dX1_isLetter_9 : decode cX1_isLetter 9 = .ok (.if_icmp .gt 7, 3) := by decide +kernel
theorem dX1_isLetter_12 : decode cX1_isLetter 12 = .ok (.iconst 1, 1) := by decide +kernel
theorem dX1_isLetter_13 : decode cX1_isLetter 13 = .ok (.goto 4, 3) := by decide +kernel
theorem dX1_isLetter_16 : decode cX1_isLetter 16 = .ok (.iconst 0, 1) := by decide +kernel
theorem dX1_isLetter_17 : decode cX1_isLetter 17 = .ok (.ireturn, 1) := by decide +kernel
theorem dX1_isDigit_0 : decode cX1_isDigit 0 = .ok (.iload_n 0, 1) := by decide +kernel
theorem dX1_isDigit_1 : decode cX1_isDigit 1 = .ok (.bipush 48, 2) := by decide +kernel
theorem dX1_isDigit_3 : decode cX1_isDigit 3 = .ok (.if_icmp .lt 13, 3) := by decide +kernel
theorem dX1_isDigit_6 : decode cX1_isDigit 6 = .ok (.iload_n 0, 1) := by decide +kernel
theorem dX1_isDigit_7 : decode cX1_isDigit 7 = .ok (.bipush 57, 2) := by decide +kernel
theorem dX1_isDigit_9 : decode cX1_isDigit 9 = .ok (.if_icmp .gt 7, 3) := by decide +kernel
theorem dX1_isDigit_12 : decode cX1_isDigit 12 = .ok (.iconst 1, 1) := by decide +kernel
theorem dX1_isDigit_13 : decode cX1_isDigit 13 = .ok (.goto 4, 3) := by decide +kernel
theorem dX1_isDigit_16 : decode cX1_isDigit 16 = .ok (.iconst 0, 1) := by decide +kernel
theorem dX1_isDigit_17 : decode cX1_isDigit 17 = .ok (.ireturn, 1) := by decide +kernel
theorem dX1_isSign_0 : decode cX1_isSign 0 = .ok (.iload_n 0, 1) := by decide +kernel
theorem dX1_isSign_1 : decode cX1_isSign 1 = .ok (.bipush 40, 2) := by decide +kernel
theorem dX1_isSign_3 : decode cX1_isSign 3 = .ok (.if_icmp .eq 45, 3) := by decide +kernel
theorem dX1_isSign_6 : decode cX1_isSign 6 = .ok (.iload_n 0, 1) := by decide +kernel
theorem dX1_isSign_7 : decode cX1_isSign 7 = .ok (.bipush 41, 2) := by decide +kernel
theorem dX1_isSign_9 : decode cX1_isSign 9 = .ok (.if_icmp .eq 39, 3) := by decide +kernel
theorem dX1_isSign_12 : decode cX1_isSign 12 = .ok (.iload_n 0, 1) := by decide +kernel
theorem dX1_isSign_13 : decode cX1_isSign 13 = .ok (.bipush 59, 2) := by decide +kernel
theorem dX1_isSign_15 : decode cX1_isSign 15 = .ok (.if_icmp .eq 33, 3) := by decide +kernel
theorem dX1_isSign_18 : decode cX1_isSign 18 = .ok (.iload_n 0, 1) := by decide +kernel
theorem dX1_isSign_19 : decode cX1_isSign 19 = .ok (.bipush 43, 2) := by decide +kernel
theorem dX1_isSign_21 : decode cX1_isSign 21 = .ok (.if_icmp .eq 27, 3) := by decide +kernel
theorem dX1_isSign_24 : decode cX1_isSign 24 = .ok (.iload_n 0, 1) := by decide +kernel
theorem dX1_isSign_25 : decode cX1_isSign 25 = .ok (.bipush 45, 2) := by decide +kernel
theorem dX1_isSign_27 : decode cX1_isSign 27 = .ok (.if_icmp .eq 21, 3) := by decide +kernel
theorem dX1_isSign_30 : decode cX1_isSign 30 = .ok (.iload_n 0, 1) := by decide +kernel
theorem dX1_isSign_31 : decode cX1_isSign 31 = .ok (.bipush 42, 2) := by decide +kernel
theorem dX1_isSign_33 : decode cX1_isSign 33 = .ok (.if_icmp .eq 15, 3) := by decide +kernel
theorem dX1_isSign_36 : decode cX1_isSign 36 = .ok (.iload_n 0, 1) := by decide +kernel
theorem dX1_isSign_37 : decode cX1_isSign 37 = .ok (.bipush 60, 2) := by decide +kernel
theorem dX1_isSign_39 : decode cX1_isSign 39 = .ok (.if_icmp .eq 9, 3) := by decide +kernel
theorem dX1_isSign_42 : decode cX1_isSign 42 = .ok (.iload_n 0, 1) := by decide +kernel
theorem dX1_isSign_43 : decode cX1_isSign 43 = .ok (.bipush 61, 2) := by decide +kernel
theorem dX1_isSign_45 : decode cX1_isSign 45 = .ok (.if_icmp .ne 7, 3) := by decide +kernel
theorem dX1_isSign_48 : decode cX1_isSign 48 = .ok (.iconst 1, 1) := by decide +kernel
theorem dX1_isSign_49 : decode cX1_isSign 49 = .ok (.goto 4, 3) := by decide +kernel
theorem dX1_isSign_52 : decode cX1_isSign 52 = .ok (.iconst 0, 1) := by decide +kernel
theorem dX1_isSign_53 : decode cX1_isSign 53 = .ok (.ireturn, 1) := by decide +kernel
theorem dX2_init_0 : decode cX2_init 0 = .ok (.aload_n 0, 1) := by decide +kernel
theorem dX2_init_1 : decode cX2_init 1 = .ok (.invokespecial 3, 3) := by decide +kernel
theorem dX2_init_4 : decode cX2_init 4 = .ok (.aload_n 0, 1) := by decide +kernel
theorem dX2_init_5 : decode cX2_init 5 = .ok (.iconst 0, 1) := by decide +kernel
theorem dX2_init_6 : decode cX2_init 6 = .ok (.putfield 9, 3) := by decide +kernel
theorem dX2_init_9 : decode cX2_init 9 = .ok (.aload_n 0, 1) := by decide +kernel
theorem dX2_init_10 : decode cX2_init 10 = .ok (.iconst 0, 1) := by decide +kernel
theorem dX2_init_11 : decode cX2_init 11 = .ok (.putfield 15, 3) := by decide +kernel
theorem dX2_init_14 : decode cX2_init 14 = .ok (.aload_n 0, 1) := by decide +kernel
theorem dX2_init_15 : decode cX2_init 15 = .ok (.iconst 5, 1) := by decide +kernel
theorem dX2_init_16 : decode cX2_init 16 = .ok (.putfield 18, 3) := by decide +kernel
theorem dX2_init_19 : decode cX2_init 19 = .ok (.aload_n 0, 1) := by decide +kernel
theorem dX2_init_20 : decode cX2_init 20 = .ok (.iconst 0, 1) := by decide +kernel
theorem dX2_init_21 : decode cX2_init 21 = .ok (.putfield 21, 3) := by decide +kernel
theorem dX2_init_24 : decode cX2_init 24 = .ok (.aload_n 0, 1) := by decide +kernel
theorem dX2_init_25 : decode cX2_init 25 = .ok (.iconst 0, 1) := by decide +kernel
theorem dX2_init_26 : decode cX2_init 26 = .ok (.putfield 24, 3) := by decide +kernel
theorem dX2_init_29 : decode cX2_init 29 = .ok (.aload_n 0, 1) := by decide +kernel
theorem dX2_init_30 : decode cX2_init 30 = .ok (.iconst 0, 1) := by decide +kernel
theorem dX2_init_31 : decode cX2_init 31 = .ok (.putfield 27, 3) := by decide +kernel
theorem dX2_init_34 : decode cX2_init 34 = .ok (.aload_n 0, 1) := by decide +kernel
theorem dX2_init_35 : decode cX2_init 35 = .ok (.bipush 6, 2) := by decide +kernel
theorem dX2_init_37 : decode cX2_init 37 = .ok (.newarray .int, 2) := by decide +kernel
theorem dX2_init_39 : decode cX2_init 39 = .ok (.putfield 30, 3) := by decide +kernel
theorem dX2_init_42 : decode cX2_init 42 = .ok (.aload_n 0, 1) := by decide +kernel
theorem dX2_init_43 : decode cX2_init 43 = .ok (.bipush 6, 2) := by decide +kernel
theorem dX2_init_45 : decode cX2_init 45 = .ok (.newarray .int, 2) := by decide +kernel
theorem dX2_init_47 : decode cX2_init 47 = .ok (.putfield 34, 3) := by decide +kernel
theorem dX2_init_50 : decode cX2_init 50 = .ok (.aload_n 0, 1) := by decide +kernel
theorem dX2_init_51 : decode cX2_init 51 = .ok (.bipush 6, 2) := by decide +kernel
theorem dX2_init_53 : decode cX2_init 53 = .ok (.newarray .int, 2) := by decide +kernel
theorem dX2_init_55 : decode cX2_init 55 = .ok (.putfield 37, 3) := by decide +kernel
theorem dX2_init_58 : decode cX2_init 58 = .ok (.aload_n 0, 1) := by decide +kernel
theorem dX2_init_59 : decode cX2_init 59 = .ok (.bipush 6, 2) := by decide +kernel
theorem dX2_init_61 : decode cX2_init 61 = .ok (.newarray .int, 2) := by decide +kernel
theorem dX2_init_63 : decode cX2_init 63 = .ok (.putfield 40, 3) := by decide +kernel
theorem dX2_init_66 : decode cX2_init 66 = .ok (.aload_n 0, 1) := by decide +kernel
theorem dX2_init_67 : decode cX2_init 67 = .ok (.bipush 6, 2) := by decide +kernel
theorem dX2_init_69 : decode cX2_init 69 = .ok (.newarray .int, 2) := by decide +kernel
theorem dX2_init_71 : decode cX2_init 71 = .ok (.putfield 43, 3) := by decide +kernel
theorem dX2_init_74 : decode cX2_init 74 = .ok (.return_, 1) := by decide +kernel
theorem dX2_take_0 : decode cX2_take 0 = .ok (.aload_n 0, 1) := by decide +kernel
theorem dX2_take_1 : decode cX2_take 1 = .ok (.aload_n 1, 1) := by decide +kernel
theorem dX2_take_2 : decode cX2_take 2 = .ok (.getfield 9, 3) := by decide +kernel
theorem dX2_take_5 : decode cX2_take 5 = .ok (.putfield 9, 3) := by decide +kernel
theorem dX2_take_8 : decode cX2_take 8 = .ok (.aload_n 0, 1) := by decide +kernel
theorem dX2_take_9 : decode cX2_take 9 = .ok (.aload_n 1, 1) := by decide +kernel
theorem dX2_take_10 : decode cX2_take 10 = .ok (.getfield 15, 3) := by decide +kernel
theorem dX2_take_13 : decode cX2_take 13 = .ok (.putfield 15, 3) := by decide +kernel
theorem dX2_take_16 : decode cX2_take 16 = .ok (.aload_n 0, 1) := by decide +kernel
theorem dX2_take_17 : decode cX2_take 17 = .ok (.aload_n 1, 1) := by decide +kernel
theorem dX2_take_18 : decode cX2_take 18 = .ok (.getfield 18, 3) := by decide +kernel
theorem dX2_take_21 : decode cX2_take 21 = .ok (.putfield 18, 3) := by decide +kernel
theorem dX2_take_24 : decode cX2_take 24 = .ok (.aload_n 0, 1) := by decide +kernel
theorem dX2_take_25 : decode cX2_take 25 = .ok (.aload_n 1, 1) := by decide +kernel
theorem dX2_take_26 : decode cX2_take 26 = .ok (.getfield 21, 3) := by decide +kernel
theorem dX2_take_29 : decode cX2_take 29 = .ok (.putfield 21, 3) := by decide +kernel
theorem dX2_take_32 : decode cX2_take 32 = .ok (.aload_n 0, 1) := by decide +kernel
theorem dX2_take_33 : decode cX2_take 33 = .ok (.aload_n 1, 1) := by decide +kernel
theorem dX2_take_34 : decode cX2_take 34 = .ok (.getfield 24, 3) := by decide +kernel
theorem dX2_take_37 : decode cX2_take 37 = .ok (.putfield 24, 3) := by decide +kernel
theorem dX2_take_40 : decode cX2_take 40 = .ok (.aload_n 0, 1) := by decide +kernel
theorem dX2_take_41 : decode cX2_take 41 = .ok (.aload_n 1, 1) := by decide +kernel
theorem dX2_take_42 : decode cX2_take 42 = .ok (.getfield 27, 3) := by decide +kernel
theorem dX2_take_45 : decode cX2_take 45 = .ok (.putfield 27, 3) := by decide +kernel
theorem dX2_take_48 : decode cX2_take 48 = .ok (.aload_n 1, 1) := by decide +kernel
theorem dX2_take_49 : decode cX2_take 49 = .ok (.getfield 30, 3) := by decide +kernel
theorem dX2_take_52 : decode cX2_take 52 = .ok (.iconst 0, 1) := by decide +kernel
theorem dX2_take_53 : decode cX2_take 53 = .ok (.aload_n 0, 1) := by decide +kernel
theorem dX2_take_54 : decode cX2_take 54 = .ok (.getfield 30, 3) := by decide +kernel
theorem dX2_take_57 : decode cX2_take 57 = .ok (.iconst 0, 1) := by decide +kernel
theorem dX2_take_58 : decode cX2_take 58 = .ok (.bipush 6, 2) := by decide +kernel
theorem dX2_take_60 : decode cX2_take 60 = .ok (.invokestatic 46, 3) := by decide +kernel
theorem dX2_take_63 : decode cX2_take 63 = .ok (.aload_n 1, 1) := by decide +kernel
theorem dX2_take_64 : decode cX2_take 64 = .ok (.getfield 34, 3) := by decide +kernel
theorem dX2_take_67 : decode cX2_take 67 = .ok (.iconst 0, 1) := by decide +kernel
theorem dX2_take_68 : decode cX2_take 68 = .ok (.aload_n 0, 1) := by decide +kernel
theorem dX2_take_69 : decode cX2_take 69 = .ok (.getfield 34, 3) := by decide +kernel
theorem dX2_take_72 : decode cX2_take 72 = .ok (.iconst 0, 1) := by decide +kernel
theorem dX2_take_73 : decode cX2_take 73 = .ok (.bipush 6, 2) := by decide +kernel
theorem dX2_take_75 : decode cX2_take 75 = .ok (.invokestatic 46, 3) := by decide +kernel
theorem dX2_take_78 : decode cX2_take 78 = .ok (.aload_n 1, 1) := by decide +kernel
theorem dX2_take_79 : decode cX2_take 79 = .ok (.getfield 37, 3) := by decide +kernel
theorem dX2_take_82 : decode cX2_take 82 = .ok (.iconst 0, 1) := by decide +kernel
theorem dX2_take_83 : decode cX2_take 83 = .ok (.aload_n 0, 1) := by decide +kernel
theorem dX2_take_84 : decode cX2_take 84 = .ok (.getfield 37, 3) := by decide +kernel
theorem dX2_take_87 : decode cX2_take 87 = .ok (.iconst 0, 1) := by decide +kernel
theorem dX2_take_88 : decode cX2_take 88 = .ok (.bipush 6, 2) := by decide +kernel
theorem dX2_take_90 : decode cX2_take 90 = .ok (.invokestatic 46, 3) := by decide +kernel
theorem dX2_take_93 : decode cX2_take 93 = .ok (.aload_n 1, 1) := by decide +kernel
theorem dX2_take_94 : decode cX2_take 94 = .ok (.getfield 40, 3) := by decide +kernel
theorem dX2_take_97 : decode cX2_take 97 = .ok (.iconst 0, 1) := by decide +kernel
theorem dX2_take_98 : decode cX2_take 98 = .ok (.aload_n 0, 1) := by decide +kernel
theorem dX2_take_99 : decode cX2_take 99 = .ok (.getfield 40, 3) := by decide +kernel
theorem dX2_take_102 : decode cX2_take 102 = .ok (.iconst 0, 1) := by decide +kernel
theorem dX2_take_103 : decode cX2_take 103 = .ok (.bipush 6, 2) := by decide +kernel
theorem dX2_take_105 : decode cX2_take 105 = .ok (.invokestatic 46, 3) := by decide +kernel
theorem dX2_take_108 : decode cX2_take 108 = .ok (.aload_n 1, 1) := by decide +kernel
theorem dX2_take_109 : decode cX2_take 109 = .ok (.getfield 43, 3) := by decide +kernel
theorem dX2_take_112 : decode cX2_take 112 = .ok (.iconst 0, 1) := by decide +kernel
theorem dX2_take_113 : decode cX2_take 113 = .ok (.aload_n 0, 1) := by decide +kernel
theorem dX2_take_114 : decode cX2_take 114 = .ok (.getfield 43, 3) := by decide +kernel
theorem dX2_take_117 : decode cX2_take 117 = .ok (.iconst 0, 1) := by decide +kernel
theorem dX2_take_118 : decode cX2_take 118 = .ok (.bipush 6, 2) := by decide +kernel
theorem dX2_take_120 : decode cX2_take 120 = .ok (.invokestatic 46, 3) := by decide +kernel
theorem dX2_take_123 : decode cX2_take 123 = .ok (.return_, 1) := by decide +kernel
theorem dX2_has_0 : decode cX2_has 0 = .ok (.iload_n 1, 1) := by decide +kernel
theorem dX2_has_1 : decode cX2_has 1 = .ok (.ifCond .lt 15, 3) := by decide +kernel
theorem dX2_has_4 : decode cX2_has 4 = .ok (.iload_n 1, 1) := by decide +kernel
theorem dX2_has_5 : decode cX2_has 5 = .ok (.aload_n 0, 1) := by decide +kernel
theorem dX2_has_6 : decode cX2_has 6 = .ok (.getfield 27, 3) := by decide +kernel
theorem dX2_has_9 : decode cX2_has 9 = .ok (.if_icmp .ge 7, 3) := by decide +kernel
theorem dX2_has_12 : decode cX2_has 12 = .ok (.iconst 1, 1) := by decide +kernel
theorem dX2_has_13 : decode cX2_has 13 = .ok (.goto 4, 3) := by decide +kernel
theorem dX2_has_16 : decode cX2_has 16 = .ok (.iconst 0, 1) := by decide +kernel
theorem dX2_has_17 : decode cX2_has 17 = .ok (.ireturn, 1) := by decide +kernel
theorem dX2_come_0 : decode cX2_come 0 = .ok (.aload_n 0, 1) := by decide +kernel
theorem dX2_come_1 : decode cX2_come 1 = .ok (.getfield 30, 3) := by decide +kernel
theorem dX2_come_4 : decode cX2_come 4 = .ok (.aload_n 0, 1) := by decide +kernel
theorem dX2_come_5 : decode cX2_come 5 = .ok (.getfield 27, 3) := by decide +kernel
theorem dX2_come_8 : decode cX2_come 8 = .ok (.iload_n 1, 1) := by decide +kernel
theorem dX2_come_9 : decode cX2_come 9 = .ok (.iastore, 1) := by decide +kernel
theorem dX2_come_10 : decode cX2_come 10 = .ok (.aload_n 0, 1) := by decide +kernel
theorem dX2_come_11 : decode cX2_come 11 = .ok (.getfield 34, 3) := by decide +kernel
theorem dX2_come_14 : decode cX2_come 14 = .ok (.aload_n 0, 1) := by decide +kernel
theorem dX2_come_15 : decode cX2_come 15 = .ok (.getfield 27, 3) := by decide +kernel
theorem dX2_come_18 : decode cX2_come 18 = .ok (.iload_n 2, 1) := by decide +kernel
theorem dX2_come_19 : decode cX2_come 19 = .ok (.iastore, 1) := by decide +kernel
theorem dX2_come_20 : decode cX2_come 20 = .ok (.aload_n 0, 1) := by decide +kernel
theorem dX2_come_21 : decode cX2_come 21 = .ok (.getfield 37, 3) := by decide +kernel
theorem dX2_come_24 : decode cX2_come 24 = .ok (.aload_n 0, 1) := by decide +kernel
theorem dX2_come_25 : decode cX2_come 25 = .ok (.getfield 27, 3) := by decide +kernel
theorem dX2_come_28 : decode cX2_come 28 = .ok (.iload_n 3, 1) := by decide +kernel
theorem dX2_come_29 : decode cX2_come 29 = .ok (.iastore, 1) := by decide +kernel
theorem dX2_come_30 : decode cX2_come 30 = .ok (.aload_n 0, 1) := by decide +kernel
theorem dX2_come_31 : decode cX2_come 31 = .ok (.getfield 40, 3) := by decide +kernel
theorem dX2_come_34 : decode cX2_come 34 = .ok (.aload_n 0, 1) := by decide +kernel
theorem dX2_come_35 : decode cX2_come 35 = .ok (.getfield 27, 3) := by decide +kernel
theorem dX2_come_38 : decode cX2_come 38 = .ok (.iconst 0, 1) := by decide +kernel
theorem dX2_come_39 : decode cX2_come 39 = .ok (.iastore, 1) := by decide +kernel
theorem dX2_come_40 : decode cX2_come 40 = .ok (.aload_n 0, 1) := by decide +kernel
theorem dX2_come_41 : decode cX2_come 41 = .ok (.getfield 43, 3) := by decide +kernel
theorem dX2_come_44 : decode cX2_come 44 = .ok (.aload_n 0, 1) := by decide +kernel
theorem dX2_come_45 : decode cX2_come 45 = .ok (.getfield 27, 3) := by decide +kernel
theorem dX2_come_48 : decode cX2_come 48 = .ok (.iconst 0, 1) := by decide +kernel
theorem dX2_come_49 : decode cX2_come 49 = .ok (.iastore, 1) := by decide +kernel
theorem dX2_come_50 : decode cX2_come 50 = .ok (.aload_n 0, 1) := by decide +kernel
theorem dX2_come_51 : decode cX2_come 51 = .ok (.dup, 1) := by decide +kernel
theorem dX2_come_52 : decode cX2_come 52 = .ok (.getfield 27, 3) := by decide +kernel
theorem dX2_come_55 : decode cX2_come 55 = .ok (.iconst 1, 1) := by decide +kernel
theorem dX2_come_56 : decode cX2_come 56 = .ok (.iadd, 1) := by decide +kernel
theorem dX2_come_57 : decode cX2_come 57 = .ok (.putfield 27, 3) := by decide +kernel
theorem dX2_come_60 : decode cX2_come 60 = .ok (.return_, 1) := by decide +kernel
theorem dX2_isFree_0 : decode cX2_isFree 0 = .ok (.iload_n 1, 1) := by decide +kernel
theorem dX2_isFree_1 : decode cX2_isFree 1 = .ok (.invokestatic 52, 3) := by decide +kernel
theorem dX2_isFree_4 : decode cX2_isFree 4 = .ok (.ifCond .eq 19, 3) := by decide +kernel
theorem dX2_isFree_7 : decode cX2_isFree 7 = .ok (.aload_n 0, 1) := by decide +kernel
theorem dX2_isFree_8 : decode cX2_isFree 8 = .ok (.invokevirtual 56, 3) := by decide +kernel
theorem dX2_isFree_11 : decode cX2_isFree 11 = .ok (.iload_n 1, 1) := by decide +kernel
theorem dX2_isFree_12 : decode cX2_isFree 12 = .ok (.ishr, 1) := by decide +kernel
theorem dX2_isFree_13 : decode cX2_isFree 13 = .ok (.iconst 1, 1) := by decide +kernel
theorem dX2_isFree_14 : decode cX2_isFree 14 = .ok (.iand, 1) := by decide +kernel
theorem dX2_isFree_15 : decode cX2_isFree 15 = .ok (.iconst 1, 1) := by decide +kernel
theorem dX2_isFree_16 : decode cX2_isFree 16 = .ok (.if_icmp .ne 7, 3) := by decide +kernel
theorem dX2_isFree_19 : decode cX2_isFree 19 = .ok (.iconst 1, 1) := by decide +kernel
theorem dX2_isFree_20 : decode cX2_isFree 20 = .ok (.goto 4, 3) := by decide +kernel
theorem dX2_isFree_23 : decode cX2_isFree 23 = .ok (.iconst 0, 1) := by decide +kernel
theorem dX2_isFree_24 : decode cX2_isFree 24 = .ok (.ireturn, 1) := by decide +kernel
theorem dX2_maySitAt_0 : decode cX2_maySitAt 0 = .ok (.aload_n 0, 1) := by decide +kernel
theorem dX2_maySitAt_1 : decode cX2_maySitAt 1 = .ok (.getfield 37, 3) := by decide +kernel
theorem dX2_maySitAt_4 : decode cX2_maySitAt 4 = .ok (.iload_n 1, 1) := by decide +kernel
theorem dX2_maySitAt_5 : decode cX2_maySitAt 5 = .ok (.iaload, 1) := by decide +kernel
theorem dX2_maySitAt_6 : decode cX2_maySitAt 6 = .ok (.iload_n 2, 1) := by decide +kernel
theorem dX2_maySitAt_7 : decode cX2_maySitAt 7 = .ok (.if_icmp .eq 11, 3) := by decide +kernel
theorem dX2_maySitAt_10 : decode cX2_maySitAt 10 = .ok (.aload_n 0, 1) := by decide +kernel
theorem dX2_maySitAt_11 : decode cX2_maySitAt 11 = .ok (.iload_n 2, 1) := by decide +kernel
theorem dX2_maySitAt_12 : decode cX2_maySitAt 12 = .ok (.invokevirtual 60, 3) := by decide +kernel
theorem dX2_maySitAt_15 : decode cX2_maySitAt 15 = .ok (.ifCond .eq 7, 3) := by decide +kernel
theorem dX2_maySitAt_18 : decode cX2_maySitAt 18 = .ok (.iconst 1, 1) := by decide +kernel
theorem dX2_maySitAt_19 : decode cX2_maySitAt 19 = .ok (.goto 4, 3) := by decide +kernel
theorem dX2_maySitAt_22 : decode cX2_maySitAt 22 = .ok (.iconst 0, 1) := by decide +kernel
theorem dX2_maySitAt_23 : decode cX2_maySitAt 23 = .ok (.ireturn, 1) := by decide +kernel
theorem dX2_freeEasels_0 : decode cX2_freeEasels 0 = .ok (.sipush 2047, 3) := by decide +kernel
theorem dX2_freeEasels_3 : decode cX2_freeEasels 3 = .ok (.istore_n 1, 1) := by decide +kernel
theorem dX2_freeEasels_4 : decode cX2_freeEasels 4 = .ok (.iconst 0, 1) := by decide +kernel
theorem dX2_freeEasels_5 : decode cX2_freeEasels 5 = .ok (.istore_n 2, 1) := by decide +kernel
theorem dX2_freeEasels_6 : decode cX2_freeEasels 6 = .ok (.iload_n 2, 1) := by decide +kernel
theorem dX2_freeEasels_7 : decode cX2_freeEasels 7 = .ok (.aload_n 0, 1) := by decide +kernel
theorem dX2_freeEasels_8 : decode cX2_freeEasels 8 = .ok (.getfield 27, 3) := by decide +kernel
theorem dX2_freeEasels_11 : decode cX2_freeEasels 11 = .ok (.if_icmp .ge 22, 3) := by decide +kernel
theorem dX2_freeEasels_14 : decode cX2_freeEasels 14 = .ok (.iload_n 1, 1) := by decide +kernel
theorem dX2_freeEasels_15 : decode cX2_freeEasels 15 = .ok (.iconst 1, 1) := by decide +kernel
theorem dX2_freeEasels_16 : decode cX2_freeEasels 16 = .ok (.aload_n 0, 1) := by decide +kernel
theorem dX2_freeEasels_17 : decode cX2_freeEasels 17 = .ok (.getfield 37, 3) := by decide +kernel
theorem dX2_freeEasels_20 : decode cX2_freeEasels 20 = .ok (.iload_n 2, 1) := by decide +kernel
theorem dX2_freeEasels_21 : decode cX2_freeEasels 21 = .ok (.iaload, 1) := by decide +kernel
theorem dX2_freeEasels_22 : decode cX2_freeEasels 22 = .ok (.ishl, 1) := by decide +kernel
theorem dX2_freeEasels_23 : decode cX2_freeEasels 23 = .ok (.iconst (-1), 1) := by decide +kernel
theorem dX2_freeEasels_24 : decode cX2_freeEasels 24 = .ok (.ixor, 1) := by decide +kernel
theorem dX2_freeEasels_25 : decode cX2_freeEasels 25 = .ok (.iand, 1) := by decide +kernel
theorem dX2_freeEasels_26 : decode cX2_freeEasels 26 = .ok (.istore_n 1, 1) := by decide +kernel
theorem dX2_freeEasels_27 : decode cX2_freeEasels 27 = .ok (.iinc 2 1, 3) := by decide +kernel
theorem dX2_freeEasels_30 : decode cX2_freeEasels 30 = .ok (.goto (-24), 3) := by decide +kernel
theorem dX2_freeEasels_33 : decode cX2_freeEasels 33 = .ok (.iload_n 1, 1) := by decide +kernel
theorem dX2_freeEasels_34 : decode cX2_freeEasels 34 = .ok (.ireturn, 1) := by decide +kernel
theorem dX2_sideOf_0 : decode cX2_sideOf 0 = .ok (.aload_n 0, 1) := by decide +kernel
theorem dX2_sideOf_1 : decode cX2_sideOf 1 = .ok (.getfield 37, 3) := by decide +kernel
theorem dX2_sideOf_4 : decode cX2_sideOf 4 = .ok (.iload_n 1, 1) := by decide +kernel
theorem dX2_sideOf_5 : decode cX2_sideOf 5 = .ok (.iaload, 1) := by decide +kernel
theorem dX2_sideOf_6 : decode cX2_sideOf 6 = .ok (.aload_n 0, 1) := by decide +kernel
theorem dX2_sideOf_7 : decode cX2_sideOf 7 = .ok (.getfield 9, 3) := by decide +kernel
theorem dX2_sideOf_10 : decode cX2_sideOf 10 = .ok (.isub, 1) := by decide +kernel
theorem dX2_sideOf_11 : decode cX2_sideOf 11 = .ok (.bipush 11, 2) := by decide +kernel
theorem dX2_sideOf_13 : decode cX2_sideOf 13 = .ok (.iadd, 1) := by decide +kernel
theorem dX2_sideOf_14 : decode cX2_sideOf 14 = .ok (.bipush 11, 2) := by decide +kernel
theorem dX2_sideOf_16 : decode cX2_sideOf 16 = .ok (.irem, 1) := by decide +kernel
theorem dX2_sideOf_17 : decode cX2_sideOf 17 = .ok (.ireturn, 1) := by decide +kernel
theorem dX2_nearOf_0 : decode cX2_nearOf 0 = .ok (.iconst 0, 1) := by decide +kernel
theorem dX2_nearOf_1 : decode cX2_nearOf 1 = .ok (.istore_n 2, 1) := by decide +kernel
theorem dX2_nearOf_2 : decode cX2_nearOf 2 = .ok (.iconst 0, 1) := by decide +kernel
theorem dX2_nearOf_3 : decode cX2_nearOf 3 = .ok (.istore_n 3, 1) := by decide +kernel
theorem dX2_nearOf_4 : decode cX2_nearOf 4 = .ok (.iload_n 3, 1) := by decide +kernel
theorem dX2_nearOf_5 : decode cX2_nearOf 5 = .ok (.aload_n 0, 1) := by decide +kernel
theorem dX2_nearOf_6 : decode cX2_nearOf 6 = .ok (.getfield 27, 3) := by decide +kernel
theorem dX2_nearOf_9 : decode cX2_nearOf 9 = .ok (.if_icmp .ge 31, 3) := by decide +kernel
theorem dX2_nearOf_12 : decode cX2_nearOf 12 = .ok (.aload_n 0, 1) := by decide +kernel
theorem dX2_nearOf_13 : decode cX2_nearOf 13 = .ok (.getfield 37, 3) := by decide +kernel
theorem dX2_nearOf_16 : decode cX2_nearOf 16 = .ok (.iload_n 1, 1) := by decide +kernel
theorem dX2_nearOf_17 : decode cX2_nearOf 17 = .ok (.iaload, 1) := by decide +kernel
theorem dX2_nearOf_18 : decode cX2_nearOf 18 = .ok (.aload_n 0, 1) := by decide +kernel
theorem dX2_nearOf_19 : decode cX2_nearOf 19 = .ok (.getfield 37, 3) := by decide +kernel
theorem dX2_nearOf_22 : decode cX2_nearOf 22 = .ok (.iload_n 3, 1) := by decide +kernel
theorem dX2_nearOf_23 : decode cX2_nearOf 23 = .ok (.iaload, 1) := by decide +kernel
theorem dX2_nearOf_24 : decode cX2_nearOf 24 = .ok (.invokestatic 63, 3) := by decide +kernel
theorem dX2_nearOf_27 : decode cX2_nearOf 27 = .ok (.iconst 1, 1) := by decide +kernel
theorem dX2_nearOf_28 : decode cX2_nearOf 28 = .ok (.if_icmp .ne 6, 3) := by decide +kernel
theorem dX2_nearOf_31 : decode cX2_nearOf 31 = .ok (.iinc 2 1, 3) := by decide +kernel
theorem dX2_nearOf_34 : decode cX2_nearOf 34 = .ok (.iinc 3 1, 3) := by decide +kernel
theorem dX2_nearOf_37 : decode cX2_nearOf 37 = .ok (.goto (-33), 3) := by decide +kernel
theorem dX2_nearOf_40 : decode cX2_nearOf 40 = .ok (.iload_n 2, 1) := by decide +kernel
theorem dX2_nearOf_41 : decode cX2_nearOf 41 = .ok (.ireturn, 1) := by decide +kernel
theorem dX2_awayOf_0 : decode cX2_awayOf 0 = .ok (.iload_n 0, 1) := by decide +kernel
theorem dX2_awayOf_1 : decode cX2_awayOf 1 = .ok (.iload_n 1, 1) := by decide +kernel
theorem dX2_awayOf_2 : decode cX2_awayOf 2 = .ok (.isub, 1) := by decide +kernel
theorem dX2_awayOf_3 : decode cX2_awayOf 3 = .ok (.invokestatic 67, 3) := by decide +kernel
theorem dX2_awayOf_6 : decode cX2_awayOf 6 = .ok (.istore_n 2, 1) := by decide +kernel
theorem dX2_awayOf_7 : decode cX2_awayOf 7 = .ok (.iload_n 2, 1) := by decide +kernel
theorem dX2_awayOf_8 : decode cX2_awayOf 8 = .ok (.bipush 11, 2) := by decide +kernel
theorem dX2_awayOf_10 : decode cX2_awayOf 10 = .ok (.iload_n 2, 1) := by decide +kernel
theorem dX2_awayOf_11 : decode cX2_awayOf 11 = .ok (.isub, 1) := by decide +kernel
theorem dX2_awayOf_12 : decode cX2_awayOf 12 = .ok (.invokestatic 73, 3) := by decide +kernel
theorem dX2_awayOf_15 : decode cX2_awayOf 15 = .ok (.ireturn, 1) := by decide +kernel
theorem dX2_toldPlain_0 : decode cX2_toldPlain 0 = .ok (.iload_n 2, 1) := by decide +kernel
theorem dX2_toldPlain_1 : decode cX2_toldPlain 1 = .ok (.tableswitch 106 0 8 #[51, 56, 61, 66, 71, 78, 85, 92, 99], 51) := by decide +kernel
theorem dX2_toldPlain_52 : decode cX2_toldPlain 52 = .ok (.aload_n 0, 1) := by decide +kernel
theorem dX2_toldPlain_53 : decode cX2_toldPlain 53 = .ok (.getfield 9, 3) := by decide +kernel
theorem dX2_toldPlain_56 : decode cX2_toldPlain 56 = .ok (.ireturn, 1) := by decide +kernel
theorem dX2_toldPlain_57 : decode cX2_toldPlain 57 = .ok (.aload_n 0, 1) := by decide +kernel
theorem dX2_toldPlain_58 : decode cX2_toldPlain 58 = .ok (.getfield 15, 3) := by decide +kernel
theorem dX2_toldPlain_61 : decode cX2_toldPlain 61 = .ok (.ireturn, 1) := by decide +kernel
theorem dX2_toldPlain_62 : decode cX2_toldPlain 62 = .ok (.aload_n 0, 1) := by decide +kernel
theorem dX2_toldPlain_63 : decode cX2_toldPlain 63 = .ok (.getfield 18, 3) := by decide +kernel
theorem dX2_toldPlain_66 : decode cX2_toldPlain 66 = .ok (.ireturn, 1) := by decide +kernel
theorem dX2_toldPlain_67 : decode cX2_toldPlain 67 = .ok (.aload_n 0, 1) := by decide +kernel
theorem dX2_toldPlain_68 : decode cX2_toldPlain 68 = .ok (.getfield 21, 3) := by decide +kernel
theorem dX2_toldPlain_71 : decode cX2_toldPlain 71 = .ok (.ireturn, 1) := by decide +kernel
theorem dX2_toldPlain_72 : decode cX2_toldPlain 72 = .ok (.aload_n 0, 1) := by decide +kernel
theorem dX2_toldPlain_73 : decode cX2_toldPlain 73 = .ok (.getfield 34, 3) := by decide +kernel
theorem dX2_toldPlain_76 : decode cX2_toldPlain 76 = .ok (.iload_n 1, 1) := by decide +kernel
theorem dX2_toldPlain_77 : decode cX2_toldPlain 77 = .ok (.iaload, 1) := by decide +kernel
theorem dX2_toldPlain_78 : decode cX2_toldPlain 78 = .ok (.ireturn, 1) := by decide +kernel
theorem dX2_toldPlain_79 : decode cX2_toldPlain 79 = .ok (.aload_n 0, 1) := by decide +kernel
theorem dX2_toldPlain_80 : decode cX2_toldPlain 80 = .ok (.getfield 37, 3) := by decide +kernel
theorem dX2_toldPlain_83 : decode cX2_toldPlain 83 = .ok (.iload_n 1, 1) := by decide +kernel
theorem dX2_toldPlain_84 : decode cX2_toldPlain 84 = .ok (.iaload, 1) := by decide +kernel
theorem dX2_toldPlain_85 : decode cX2_toldPlain 85 = .ok (.ireturn, 1) := by decide +kernel
theorem dX2_toldPlain_86 : decode cX2_toldPlain 86 = .ok (.aload_n 0, 1) := by decide +kernel
theorem dX2_toldPlain_87 : decode cX2_toldPlain 87 = .ok (.getfield 30, 3) := by decide +kernel
theorem dX2_toldPlain_90 : decode cX2_toldPlain 90 = .ok (.iload_n 1, 1) := by decide +kernel
theorem dX2_toldPlain_91 : decode cX2_toldPlain 91 = .ok (.iaload, 1) := by decide +kernel
theorem dX2_toldPlain_92 : decode cX2_toldPlain 92 = .ok (.ireturn, 1) := by decide +kernel
theorem dX2_toldPlain_93 : decode cX2_toldPlain 93 = .ok (.aload_n 0, 1) := by decide +kernel
theorem dX2_toldPlain_94 : decode cX2_toldPlain 94 = .ok (.getfield 40, 3) := by decide +kernel
theorem dX2_toldPlain_97 : decode cX2_toldPlain 97 = .ok (.iload_n 1, 1) := by decide +kernel
theorem dX2_toldPlain_98 : decode cX2_toldPlain 98 = .ok (.iaload, 1) := by decide +kernel
theorem dX2_toldPlain_99 : decode cX2_toldPlain 99 = .ok (.ireturn, 1) := by decide +kernel
theorem dX2_toldPlain_100 : decode cX2_toldPlain 100 = .ok (.aload_n 0, 1) := by decide +kernel
theorem dX2_toldPlain_101 : decode cX2_toldPlain 101 = .ok (.getfield 43, 3) := by decide +kernel
theorem dX2_toldPlain_104 : decode cX2_toldPlain 104 = .ok (.iload_n 1, 1) := by decide +kernel
theorem dX2_toldPlain_105 : decode cX2_toldPlain 105 = .ok (.iaload, 1) := by decide +kernel
theorem dX2_toldPlain_106 : decode cX2_toldPlain 106 = .ok (.ireturn, 1) := by decide +kernel
theorem dX2_toldPlain_107 : decode cX2_toldPlain 107 = .ok (.aload_n 0, 1) := by decide +kernel
theorem dX2_toldPlain_108 : decode cX2_toldPlain 108 = .ok (.iload_n 1, 1) := by decide +kernel
theorem dX2_toldPlain_109 : decode cX2_toldPlain 109 = .ok (.invokevirtual 76, 3) := by decide +kernel
theorem dX2_toldPlain_112 : decode cX2_toldPlain 112 = .ok (.ireturn, 1) := by decide +kernel
theorem dX2_put_0 : decode cX2_put 0 = .ok (.iload_n 1, 1) := by decide +kernel
theorem dX2_put_1 : decode cX2_put 1 = .ok (.tableswitch 77 0 4 #[35, 43, 51, 59, 67], 35) := by decide +kernel
theorem dX2_put_36 : decode cX2_put 36 = .ok (.aload_n 0, 1) := by decide +kernel
theorem dX2_put_37 : decode cX2_put 37 = .ok (.iload_n 3, 1) := by decide +kernel
theorem dX2_put_38 : decode cX2_put 38 = .ok (.putfield 9, 3) := by decide +kernel
theorem dX2_put_41 : decode cX2_put 41 = .ok (.goto 44, 3) := by decide +kernel
theorem dX2_put_44 : decode cX2_put 44 = .ok (.aload_n 0, 1) := by decide +kernel
theorem dX2_put_45 : decode cX2_put 45 = .ok (.iload_n 3, 1) := by decide +kernel
theorem dX2_put_46 : decode cX2_put 46 = .ok (.putfield 15, 3) := by decide +kernel
theorem dX2_put_49 : decode cX2_put 49 = .ok (.goto 36, 3) := by decide +kernel
theorem dX2_put_52 : decode cX2_put 52 = .ok (.aload_n 0, 1) := by decide +kernel
theorem dX2_put_53 : decode cX2_put 53 = .ok (.iload_n 3, 1) := by decide +kernel
theorem dX2_put_54 : decode cX2_put 54 = .ok (.putfield 18, 3) := by decide +kernel
theorem dX2_put_57 : decode cX2_put 57 = .ok (.goto 28, 3) := by decide +kernel
theorem dX2_put_60 : decode cX2_put 60 = .ok (.aload_n 0, 1) := by decide +kernel
theorem dX2_put_61 : decode cX2_put 61 = .ok (.iload_n 3, 1) := by decide +kernel
theorem dX2_put_62 : decode cX2_put 62 = .ok (.putfield 21, 3) := by decide +kernel
theorem dX2_put_65 : decode cX2_put 65 = .ok (.goto 20, 3) := by decide +kernel
theorem dX2_put_68 : decode cX2_put 68 = .ok (.aload_n 0, 1) := by decide +kernel
theorem dX2_put_69 : decode cX2_put 69 = .ok (.getfield 34, 3) := by decide +kernel
theorem dX2_put_72 : decode cX2_put 72 = .ok (.iload_n 2, 1) := by decide +kernel
theorem dX2_put_73 : decode cX2_put 73 = .ok (.iload_n 3, 1) := by decide +kernel
theorem dX2_put_74 : decode cX2_put 74 = .ok (.iastore, 1) := by decide +kernel
theorem dX2_put_75 : decode cX2_put 75 = .ok (.goto 10, 3) := by decide +kernel
theorem dX2_put_78 : decode cX2_put 78 = .ok (.aload_n 0, 1) := by decide +kernel
theorem dX2_put_79 : decode cX2_put 79 = .ok (.getfield 37, 3) := by decide +kernel
theorem dX2_put_82 : decode cX2_put 82 = .ok (.iload_n 2, 1) := by decide +kernel
theorem dX2_put_83 : decode cX2_put 83 = .ok (.iload_n 3, 1) := by decide +kernel
theorem dX2_put_84 : decode cX2_put 84 = .ok (.iastore, 1) := by decide +kernel
theorem dX2_put_85 : decode cX2_put 85 = .ok (.return_, 1) := by decide +kernel
theorem dX2_exchange_0 : decode cX2_exchange 0 = .ok (.aload_n 0, 1) := by decide +kernel
theorem dX2_exchange_1 : decode cX2_exchange 1 = .ok (.getfield 37, 3) := by decide +kernel
theorem dX2_exchange_4 : decode cX2_exchange 4 = .ok (.iload_n 1, 1) := by decide +kernel
theorem dX2_exchange_5 : decode cX2_exchange 5 = .ok (.iaload, 1) := by decide +kernel
theorem dX2_exchange_6 : decode cX2_exchange 6 = .ok (.istore_n 3, 1) := by decide +kernel
theorem dX2_exchange_7 : decode cX2_exchange 7 = .ok (.aload_n 0, 1) := by decide +kernel
theorem dX2_exchange_8 : decode cX2_exchange 8 = .ok (.getfield 37, 3) := by decide +kernel
theorem dX2_exchange_11 : decode cX2_exchange 11 = .ok (.iload_n 1, 1) := by decide +kernel
theorem dX2_exchange_12 : decode cX2_exchange 12 = .ok (.aload_n 0, 1) := by decide +kernel
theorem dX2_exchange_13 : decode cX2_exchange 13 = .ok (.getfield 37, 3) := by decide +kernel
theorem dX2_exchange_16 : decode cX2_exchange 16 = .ok (.iload_n 2, 1) := by decide +kernel
theorem dX2_exchange_17 : decode cX2_exchange 17 = .ok (.iaload, 1) := by decide +kernel
theorem dX2_exchange_18 : decode cX2_exchange 18 = .ok (.iastore, 1) := by decide +kernel
theorem dX2_exchange_19 : decode cX2_exchange 19 = .ok (.aload_n 0, 1) := by decide +kernel
theorem dX2_exchange_20 : decode cX2_exchange 20 = .ok (.getfield 37, 3) := by decide +kernel
theorem dX2_exchange_23 : decode cX2_exchange 23 = .ok (.iload_n 2, 1) := by decide +kernel
theorem dX2_exchange_24 : decode cX2_exchange 24 = .ok (.iload_n 3, 1) := by decide +kernel
theorem dX2_exchange_25 : decode cX2_exchange 25 = .ok (.iastore, 1) := by decide +kernel
theorem dX2_exchange_26 : decode cX2_exchange 26 = .ok (.return_, 1) := by decide +kernel
theorem dX2_please_0 : decode cX2_please 0 = .ok (.aload_n 0, 1) := by decide +kernel
theorem dX2_please_1 : decode cX2_please 1 = .ok (.getfield 43, 3) := by decide +kernel
theorem dX2_please_4 : decode cX2_please 4 = .ok (.iload_n 1, 1) := by decide +kernel
theorem dX2_please_5 : decode cX2_please 5 = .ok (.ldc 79, 2) := by decide +kernel
theorem dX2_please_7 : decode cX2_please 7 = .ok (.aload_n 0, 1) := by decide +kernel
theorem dX2_please_8 : decode cX2_please 8 = .ok (.getfield 43, 3) := by decide +kernel
theorem dX2_please_11 : decode cX2_please 11 = .ok (.iload_n 1, 1) := by decide +kernel
theorem dX2_please_12 : decode cX2_please 12 = .ok (.iaload, 1) := by decide +kernel
theorem dX2_please_13 : decode cX2_please 13 = .ok (.iload_n 2, 1) := by decide +kernel
theorem dX2_please_14 : decode cX2_please 14 = .ok (.iadd, 1) := by decide +kernel
theorem dX2_please_15 : decode cX2_please 15 = .ok (.ldc 80, 2) := by decide +kernel
theorem dX2_please_17 : decode cX2_please 17 = .ok (.invokestatic 81, 3) := by decide +kernel
theorem dX2_please_20 : decode cX2_please 20 = .ok (.iastore, 1) := by decide +kernel
theorem dX2_please_21 : decode cX2_please 21 = .ok (.return_, 1) := by decide +kernel
theorem dX2_haveSides_0 : decode cX2_haveSides 0 = .ok (.iconst 0, 1) := by decide +kernel
theorem dX2_haveSides_1 : decode cX2_haveSides 1 = .ok (.istore_n 1, 1) := by decide +kernel
theorem dX2_haveSides_2 : decode cX2_haveSides 2 = .ok (.iload_n 1, 1) := by decide +kernel
theorem dX2_haveSides_3 : decode cX2_haveSides 3 = .ok (.aload_n 0, 1) := by decide +kernel
theorem dX2_haveSides_4 : decode cX2_haveSides 4 = .ok (.getfield 27, 3) := by decide +kernel
theorem dX2_haveSides_7 : decode cX2_haveSides 7 = .ok (.if_icmp .ge 25, 3) := by decide +kernel
theorem dX2_haveSides_10 : decode cX2_haveSides 10 = .ok (.aload_n 0, 1) := by decide +kernel
theorem dX2_haveSides_11 : decode cX2_haveSides 11 = .ok (.getfield 40, 3) := by decide +kernel
theorem dX2_haveSides_14 : decode cX2_haveSides 14 = .ok (.iload_n 1, 1) := by decide +kernel
theorem dX2_haveSides_15 : decode cX2_haveSides 15 = .ok (.dup2, 1) := by decide +kernel
theorem dX2_haveSides_16 : decode cX2_haveSides 16 = .ok (.iaload, 1) := by decide +kernel
theorem dX2_haveSides_17 : decode cX2_haveSides 17 = .ok (.iconst 1, 1) := by decide +kernel
theorem dX2_haveSides_18 : decode cX2_haveSides 18 = .ok (.aload_n 0, 1) := by decide +kernel
theorem dX2_haveSides_19 : decode cX2_haveSides 19 = .ok (.iload_n 1, 1) := by decide +kernel
theorem dX2_haveSides_20 : decode cX2_haveSides 20 = .ok (.invokevirtual 76, 3) := by decide +kernel
theorem dX2_haveSides_23 : decode cX2_haveSides 23 = .ok (.ishl, 1) := by decide +kernel
theorem dX2_haveSides_24 : decode cX2_haveSides 24 = .ok (.ior, 1) := by decide +kernel
theorem dX2_haveSides_25 : decode cX2_haveSides 25 = .ok (.iastore, 1) := by decide +kernel
theorem dX2_haveSides_26 : decode cX2_haveSides 26 = .ok (.iinc 1 1, 3) := by decide +kernel
theorem dX2_haveSides_29 : decode cX2_haveSides 29 = .ok (.goto (-27), 3) := by decide +kernel
theorem dX2_haveSides_32 : decode cX2_haveSides 32 = .ok (.return_, 1) := by decide +kernel
theorem dX2_move_0 : decode cX2_move 0 = .ok (.aload_n 0, 1) := by decide +kernel
theorem dX2_move_1 : decode cX2_move 1 = .ok (.aload_n 0, 1) := by decide +kernel
theorem dX2_move_2 : decode cX2_move 2 = .ok (.getfield 9, 3) := by decide +kernel
theorem dX2_move_5 : decode cX2_move 5 = .ok (.iload_n 1, 1) := by decide +kernel
theorem dX2_move_6 : decode cX2_move 6 = .ok (.iadd, 1) := by decide +kernel
theorem dX2_move_7 : decode cX2_move 7 = .ok (.bipush 11, 2) := by decide +kernel
theorem dX2_move_9 : decode cX2_move 9 = .ok (.irem, 1) := by decide +kernel
theorem dX2_move_10 : decode cX2_move 10 = .ok (.putfield 9, 3) := by decide +kernel
theorem dX2_move_13 : decode cX2_move 13 = .ok (.iconst 0, 1) := by decide +kernel
theorem dX2_move_14 : decode cX2_move 14 = .ok (.istore_n 3, 1) := by decide +kernel
theorem dX2_move_15 : decode cX2_move 15 = .ok (.iload_n 3, 1) := by decide +kernel
theorem dX2_move_16 : decode cX2_move 16 = .ok (.aload_n 0, 1) := by decide +kernel
theorem dX2_move_17 : decode cX2_move 17 = .ok (.getfield 27, 3) := by decide +kernel
theorem dX2_move_20 : decode cX2_move 20 = .ok (.if_icmp .ge 26, 3) := by decide +kernel
theorem dX2_move_23 : decode cX2_move 23 = .ok (.aload_n 0, 1) := by decide +kernel
theorem dX2_move_24 : decode cX2_move 24 = .ok (.getfield 37, 3) := by decide +kernel
theorem dX2_move_27 : decode cX2_move 27 = .ok (.iload_n 3, 1) := by decide +kernel
theorem dX2_move_28 : decode cX2_move 28 = .ok (.aload_n 0, 1) := by decide +kernel
theorem dX2_move_29 : decode cX2_move 29 = .ok (.getfield 37, 3) := by decide +kernel
theorem dX2_move_32 : decode cX2_move 32 = .ok (.iload_n 3, 1) := by decide +kernel
theorem dX2_move_33 : decode cX2_move 33 = .ok (.iaload, 1) := by decide +kernel
theorem dX2_move_34 : decode cX2_move 34 = .ok (.iload_n 2, 1) := by decide +kernel
theorem dX2_move_35 : decode cX2_move 35 = .ok (.iadd, 1) := by decide +kernel
theorem dX2_move_36 : decode cX2_move 36 = .ok (.bipush 11, 2) := by decide +kernel
theorem dX2_move_38 : decode cX2_move 38 = .ok (.irem, 1) := by decide +kernel
theorem dX2_move_39 : decode cX2_move 39 = .ok (.iastore, 1) := by decide +kernel
theorem dX2_move_40 : decode cX2_move 40 = .ok (.iinc 3 1, 3) := by decide +kernel
theorem dX2_move_43 : decode cX2_move 43 = .ok (.goto (-28), 3) := by decide +kernel
theorem dX2_move_46 : decode cX2_move 46 = .ok (.aload_n 0, 1) := by decide +kernel
theorem dX2_move_47 : decode cX2_move 47 = .ok (.dup, 1) := by decide +kernel
theorem dX2_move_48 : decode cX2_move 48 = .ok (.getfield 21, 3) := by decide +kernel
theorem dX2_move_51 : decode cX2_move 51 = .ok (.iconst 1, 1) := by decide +kernel
theorem dX2_move_52 : decode cX2_move 52 = .ok (.iadd, 1) := by decide +kernel
theorem dX2_move_53 : decode cX2_move 53 = .ok (.putfield 21, 3) := by decide +kernel
theorem dX2_move_56 : decode cX2_move 56 = .ok (.return_, 1) := by decide +kernel
theorem dX2_sum_0 : decode cX2_sum 0 = .ok (.iconst 0, 1) := by decide +kernel
theorem dX2_sum_1 : decode cX2_sum 1 = .ok (.istore_n 1, 1) := by decide +kernel
theorem dX2_sum_2 : decode cX2_sum 2 = .ok (.iconst 0, 1) := by decide +kernel
theorem dX2_sum_3 : decode cX2_sum 3 = .ok (.istore_n 2, 1) := by decide +kernel
theorem dX2_sum_4 : decode cX2_sum 4 = .ok (.iload_n 2, 1) := by decide +kernel
theorem dX2_sum_5 : decode cX2_sum 5 = .ok (.aload_n 0, 1) := by decide +kernel
theorem dX2_sum_6 : decode cX2_sum 6 = .ok (.getfield 27, 3) := by decide +kernel
theorem dX2_sum_9 : decode cX2_sum 9 = .ok (.if_icmp .ge 18, 3) := by decide +kernel
theorem dX2_sum_12 : decode cX2_sum 12 = .ok (.iload_n 1, 1) := by decide +kernel
theorem dX2_sum_13 : decode cX2_sum 13 = .ok (.aload_n 0, 1) := by decide +kernel
theorem dX2_sum_14 : decode cX2_sum 14 = .ok (.getfield 43, 3) := by decide +kernel
theorem dX2_sum_17 : decode cX2_sum 17 = .ok (.iload_n 2, 1) := by decide +kernel
theorem dX2_sum_18 : decode cX2_sum 18 = .ok (.iaload, 1) := by decide +kernel
theorem dX2_sum_19 : decode cX2_sum 19 = .ok (.iadd, 1) := by decide +kernel
theorem dX2_sum_20 : decode cX2_sum 20 = .ok (.istore_n 1, 1) := by decide +kernel
theorem dX2_sum_21 : decode cX2_sum 21 = .ok (.iinc 2 1, 3) := by decide +kernel
theorem dX2_sum_24 : decode cX2_sum 24 = .ok (.goto (-20), 3) := by decide +kernel
theorem dX2_sum_27 : decode cX2_sum 27 = .ok (.iload_n 1, 1) := by decide +kernel
theorem dX2_sum_28 : decode cX2_sum 28 = .ok (.ireturn, 1) := by decide +kernel
theorem dX2_leastPleased_0 : decode cX2_leastPleased 0 = .ok (.iconst (-1), 1) := by decide +kernel
theorem dX2_leastPleased_1 : decode cX2_leastPleased 1 = .ok (.istore_n 1, 1) := by decide +kernel
theorem dX2_leastPleased_2 : decode cX2_leastPleased 2 = .ok (.iconst 0, 1) := by decide +kernel
theorem dX2_leastPleased_3 : decode cX2_leastPleased 3 = .ok (.istore_n 2, 1) := by decide +kernel
theorem dX2_leastPleased_4 : decode cX2_leastPleased 4 = .ok (.iload_n 2, 1) := by decide +kernel
theorem dX2_leastPleased_5 : decode cX2_leastPleased 5 = .ok (.aload_n 0, 1) := by decide +kernel
theorem dX2_leastPleased_6 : decode cX2_leastPleased 6 = .ok (.getfield 27, 3) := by decide +kernel
theorem dX2_leastPleased_9 : decode cX2_leastPleased 9 = .ok (.if_icmp .ge 31, 3) := by decide +kernel
theorem dX2_leastPleased_12 : decode cX2_leastPleased 12 = .ok (.iload_n 1, 1) := by decide +kernel
theorem dX2_leastPleased_13 : decode cX2_leastPleased 13 = .ok (.iconst (-1), 1) := by decide +kernel
theorem dX2_leastPleased_14 : decode cX2_leastPleased 14 = .ok (.if_icmp .eq 18, 3) := by decide +kernel
theorem dX2_leastPleased_17 : decode cX2_leastPleased 17 = .ok (.aload_n 0, 1) := by decide +kernel
theorem dX2_leastPleased_18 : decode cX2_leastPleased 18 = .ok (.getfield 43, 3) := by decide +kernel
theorem dX2_leastPleased_21 : decode cX2_leastPleased 21 = .ok (.iload_n 2, 1) := by decide +kernel
theorem dX2_leastPleased_22 : decode cX2_leastPleased 22 = .ok (.iaload, 1) := by decide +kernel
theorem dX2_leastPleased_23 : decode cX2_leastPleased 23 = .ok (.aload_n 0, 1) := by decide +kernel
theorem dX2_leastPleased_24 : decode cX2_leastPleased 24 = .ok (.getfield 43, 3) := by decide +kernel
theorem dX2_leastPleased_27 : decode cX2_leastPleased 27 = .ok (.iload_n 1, 1) := by decide +kernel
theorem dX2_leastPleased_28 : decode cX2_leastPleased 28 = .ok (.iaload, 1) := by decide +kernel
theorem dX2_leastPleased_29 : decode cX2_leastPleased 29 = .ok (.if_icmp .ge 5, 3) := by decide +kernel
theorem dX2_leastPleased_32 : decode cX2_leastPleased 32 = .ok (.iload_n 2, 1) := by decide +kernel
theorem dX2_leastPleased_33 : decode cX2_leastPleased 33 = .ok (.istore_n 1, 1) := by decide +kernel
theorem dX2_leastPleased_34 : decode cX2_leastPleased 34 = .ok (.iinc 2 1, 3) := by decide +kernel
theorem dX2_leastPleased_37 : decode cX2_leastPleased 37 = .ok (.goto (-33), 3) := by decide +kernel
theorem dX2_leastPleased_40 : decode cX2_leastPleased 40 = .ok (.iload_n 1, 1) := by decide +kernel
theorem dX2_leastPleased_41 : decode cX2_leastPleased 41 = .ok (.ireturn, 1) := by decide +kernel
theorem dX2_least_0 : decode cX2_least 0 = .ok (.aload_n 0, 1) := by decide +kernel
theorem dX2_least_1 : decode cX2_least 1 = .ok (.invokevirtual 85, 3) := by decide +kernel
theorem dX2_least_4 : decode cX2_least 4 = .ok (.istore_n 1, 1) := by decide +kernel
theorem dX2_least_5 : decode cX2_least 5 = .ok (.iload_n 1, 1) := by decide +kernel
theorem dX2_least_6 : decode cX2_least 6 = .ok (.iconst (-1), 1) := by decide +kernel
theorem dX2_least_7 : decode cX2_least 7 = .ok (.if_icmp .ne 7, 3) := by decide +kernel
theorem dX2_least_10 : decode cX2_least 10 = .ok (.iconst 0, 1) := by decide +kernel
theorem dX2_least_11 : decode cX2_least 11 = .ok (.goto 9, 3) := by decide +kernel
theorem dX2_least_14 : decode cX2_least 14 = .ok (.aload_n 0, 1) := by decide +kernel
theorem dX2_least_15 : decode cX2_least 15 = .ok (.getfield 43, 3) := by decide +kernel
theorem dX2_least_18 : decode cX2_least 18 = .ok (.iload_n 1, 1) := by decide +kernel
theorem dX2_least_19 : decode cX2_least 19 = .ok (.iaload, 1) := by decide +kernel
theorem dX2_least_20 : decode cX2_least 20 = .ok (.ireturn, 1) := by decide +kernel
theorem dX3_init_0 : decode cX3_init 0 = .ok (.aload_n 0, 1) := by decide +kernel
theorem dX3_init_1 : decode cX3_init 1 = .ok (.invokespecial 3, 3) := by decide +kernel
theorem dX3_init_4 : decode cX3_init 4 = .ok (.aload_n 0, 1) := by decide +kernel
theorem dX3_init_5 : decode cX3_init 5 = .ok (.iconst (-1), 1) := by decide +kernel
theorem dX3_init_6 : decode cX3_init 6 = .ok (.putfield 9, 3) := by decide +kernel
theorem dX3_init_9 : decode cX3_init 9 = .ok (.aload_n 0, 1) := by decide +kernel
theorem dX3_init_10 : decode cX3_init 10 = .ok (.iconst 0, 1) := by decide +kernel
theorem dX3_init_11 : decode cX3_init 11 = .ok (.putfield 15, 3) := by decide +kernel
theorem dX3_init_14 : decode cX3_init 14 = .ok (.aload_n 0, 1) := by decide +kernel
theorem dX3_init_15 : decode cX3_init 15 = .ok (.bipush 40, 2) := by decide +kernel
theorem dX3_init_17 : decode cX3_init 17 = .ok (.newarray .int, 2) := by decide +kernel
theorem dX3_init_19 : decode cX3_init 19 = .ok (.putfield 18, 3) := by decide +kernel
theorem dX3_init_22 : decode cX3_init 22 = .ok (.return_, 1) := by decide +kernel
theorem dX3_isMissing_0 : decode cX3_isMissing 0 = .ok (.aload_n 0, 1) := by decide +kernel
theorem dX3_isMissing_1 : decode cX3_isMissing 1 = .ok (.getfield 9, 3) := by decide +kernel
theorem dX3_isMissing_4 : decode cX3_isMissing 4 = .ok (.iconst (-1), 1) := by decide +kernel
theorem dX3_isMissing_5 : decode cX3_isMissing 5 = .ok (.if_icmp .ne 7, 3) := by decide +kernel
theorem dX3_isMissing_8 : decode cX3_isMissing 8 = .ok (.iconst 1, 1) := by decide +kernel
theorem dX3_isMissing_9 : decode cX3_isMissing 9 = .ok (.goto 4, 3) := by decide +kernel
theorem dX3_isMissing_12 : decode cX3_isMissing 12 = .ok (.iconst 0, 1) := by decide +kernel
theorem dX3_isMissing_13 : decode cX3_isMissing 13 = .ok (.ireturn, 1) := by decide +kernel
theorem dX3_become_0 : decode cX3_become 0 = .ok (.aload_n 0, 1) := by decide +kernel
theorem dX3_become_1 : decode cX3_become 1 = .ok (.iload_n 1, 1) := by decide +kernel
theorem dX3_become_2 : decode cX3_become 2 = .ok (.putfield 9, 3) := by decide +kernel
theorem dX3_become_5 : decode cX3_become 5 = .ok (.aload_n 0, 1) := by decide +kernel
theorem dX3_become_6 : decode cX3_become 6 = .ok (.iload_n 2, 1) := by decide +kernel
theorem dX3_become_7 : decode cX3_become 7 = .ok (.putfield 15, 3) := by decide +kernel
theorem dX3_become_10 : decode cX3_become 10 = .ok (.aload_n 0, 1) := by decide +kernel
theorem dX3_become_11 : decode cX3_become 11 = .ok (.getfield 18, 3) := by decide +kernel
theorem dX3_become_14 : decode cX3_become 14 = .ok (.iconst 0, 1) := by decide +kernel
theorem dX3_become_15 : decode cX3_become 15 = .ok (.invokestatic 22, 3) := by decide +kernel
theorem dX3_become_18 : decode cX3_become 18 = .ok (.return_, 1) := by decide +kernel
theorem dX3_hasItems_0 : decode cX3_hasItems 0 = .ok (.iload_n 1, 1) := by decide +kernel
theorem dX3_hasItems_1 : decode cX3_hasItems 1 = .ok (.ifCond .lt 29, 3) := by decide +kernel
theorem dX3_hasItems_4 : decode cX3_hasItems 4 = .ok (.iload_n 2, 1) := by decide +kernel
theorem dX3_hasItems_5 : decode cX3_hasItems 5 = .ok (.ifCond .lt 25, 3) := by decide +kernel
theorem dX3_hasItems_8 : decode cX3_hasItems 8 = .ok (.iload_n 1, 1) := by decide +kernel
theorem dX3_hasItems_9 : decode cX3_hasItems 9 = .ok (.aload_n 0, 1) := by decide +kernel
theorem dX3_hasItems_10 : decode cX3_hasItems 10 = .ok (.getfield 15, 3) := by decide +kernel
theorem dX3_hasItems_13 : decode cX3_hasItems 13 = .ok (.if_icmp .gt 17, 3) := by decide +kernel
theorem dX3_hasItems_16 : decode cX3_hasItems 16 = .ok (.iload_n 2, 1) := by decide +kernel
theorem dX3_hasItems_17 : decode cX3_hasItems 17 = .ok (.aload_n 0, 1) := by decide +kernel
theorem dX3_hasItems_18 : decode cX3_hasItems 18 = .ok (.getfield 15, 3) := by decide +kernel
theorem dX3_hasItems_21 : decode cX3_hasItems 21 = .ok (.iload_n 1, 1) := by decide +kernel
theorem dX3_hasItems_22 : decode cX3_hasItems 22 = .ok (.isub, 1) := by decide +kernel
theorem dX3_hasItems_23 : decode cX3_hasItems 23 = .ok (.if_icmp .gt 7, 3) := by decide +kernel
theorem dX3_hasItems_26 : decode cX3_hasItems 26 = .ok (.iconst 1, 1) := by decide +kernel
theorem dX3_hasItems_27 : decode cX3_hasItems 27 = .ok (.goto 4, 3) := by decide +kernel
theorem dX3_hasItems_30 : decode cX3_hasItems 30 = .ok (.iconst 0, 1) := by decide +kernel
theorem dX3_hasItems_31 : decode cX3_hasItems 31 = .ok (.ireturn, 1) := by decide +kernel
theorem dX3_put_0 : decode cX3_put 0 = .ok (.aload_n 0, 1) := by decide +kernel
theorem dX3_put_1 : decode cX3_put 1 = .ok (.getfield 9, 3) := by decide +kernel
theorem dX3_put_4 : decode cX3_put 4 = .ok (.ifCond .ne 14, 3) := by decide +kernel
theorem dX3_put_7 : decode cX3_put 7 = .ok (.aload_n 0, 1) := by decide +kernel
theorem dX3_put_8 : decode cX3_put 8 = .ok (.getfield 18, 3) := by decide +kernel
theorem dX3_put_11 : decode cX3_put 11 = .ok (.iload_n 1, 1) := by decide +kernel
theorem dX3_put_12 : decode cX3_put 12 = .ok (.iload_n 2, 1) := by decide +kernel
theorem dX3_put_13 : decode cX3_put 13 = .ok (.i2b, 1) := by decide +kernel
theorem dX3_put_14 : decode cX3_put 14 = .ok (.iastore, 1) := by decide +kernel
theorem dX3_put_15 : decode cX3_put 15 = .ok (.goto 29, 3) := by decide +kernel
theorem dX3_put_18 : decode cX3_put 18 = .ok (.aload_n 0, 1) := by decide +kernel
theorem dX3_put_19 : decode cX3_put 19 = .ok (.getfield 9, 3) := by decide +kernel
theorem dX3_put_22 : decode cX3_put 22 = .ok (.iconst 1, 1) := by decide +kernel
theorem dX3_put_23 : decode cX3_put 23 = .ok (.if_icmp .ne 14, 3) := by decide +kernel
theorem dX3_put_26 : decode cX3_put 26 = .ok (.aload_n 0, 1) := by decide +kernel
theorem dX3_put_27 : decode cX3_put 27 = .ok (.getfield 18, 3) := by decide +kernel
theorem dX3_put_30 : decode cX3_put 30 = .ok (.iload_n 1, 1) := by decide +kernel
theorem dX3_put_31 : decode cX3_put 31 = .ok (.iload_n 2, 1) := by decide +kernel
theorem dX3_put_32 : decode cX3_put 32 = .ok (.i2s, 1) := by decide +kernel
theorem dX3_put_33 : decode cX3_put 33 = .ok (.iastore, 1) := by decide +kernel
theorem dX3_put_34 : decode cX3_put 34 = .ok (.goto 10, 3) := by decide +kernel
theorem dX3_put_37 : decode cX3_put 37 = .ok (.aload_n 0, 1) := by decide +kernel
theorem dX3_put_38 : decode cX3_put 38 = .ok (.getfield 18, 3) := by decide +kernel
theorem dX3_put_41 : decode cX3_put 41 = .ok (.iload_n 1, 1) := by decide +kernel
theorem dX3_put_42 : decode cX3_put 42 = .ok (.iload_n 2, 1) := by decide +kernel
theorem dX3_put_43 : decode cX3_put 43 = .ok (.iastore, 1) := by decide +kernel
theorem dX3_put_44 : decode cX3_put 44 = .ok (.return_, 1) := by decide +kernel
theorem dX4_init_0 : decode cX4_init 0 = .ok (.aload_n 0, 1) := by decide +kernel
theorem dX4_init_1 : decode cX4_init 1 = .ok (.invokespecial 3, 3) := by decide +kernel
theorem dX4_init_4 : decode cX4_init 4 = .ok (.aload_n 0, 1) := by decide +kernel
theorem dX4_init_5 : decode cX4_init 5 = .ok (.bipush 6, 2) := by decide +kernel
theorem dX4_init_7 : decode cX4_init 7 = .ok (.newarray .int, 2) := by decide +kernel
theorem dX4_init_9 : decode cX4_init 9 = .ok (.putfield 9, 3) := by decide +kernel
theorem dX4_init_12 : decode cX4_init 12 = .ok (.aload_n 0, 1) := by decide +kernel
theorem dX4_init_13 : decode cX4_init 13 = .ok (.bipush 40, 2) := by decide +kernel
theorem dX4_init_15 : decode cX4_init 15 = .ok (.newarray .int, 2) := by decide +kernel
theorem dX4_init_17 : decode cX4_init 17 = .ok (.putfield 15, 3) := by decide +kernel
theorem dX4_init_20 : decode cX4_init 20 = .ok (.aload_n 0, 1) := by decide +kernel
theorem dX4_init_21 : decode cX4_init 21 = .ok (.iconst 0, 1) := by decide +kernel
theorem dX4_init_22 : decode cX4_init 22 = .ok (.putfield 18, 3) := by decide +kernel
theorem dX4_init_25 : decode cX4_init 25 = .ok (.aload_n 0, 1) := by decide +kernel
theorem dX4_init_26 : decode cX4_init 26 = .ok (.iconst 0, 1) := by decide +kernel
theorem dX4_init_27 : decode cX4_init 27 = .ok (.putfield 22, 3) := by decide +kernel
theorem dX4_init_30 : decode cX4_init 30 = .ok (.aload_n 0, 1) := by decide +kernel
theorem dX4_init_31 : decode cX4_init 31 = .ok (.iconst 0, 1) := by decide +kernel
theorem dX4_init_32 : decode cX4_init 32 = .ok (.putfield 25, 3) := by decide +kernel
theorem dX4_init_35 : decode cX4_init 35 = .ok (.return_, 1) := by decide +kernel
theorem dX4_see_0 : decode cX4_see 0 = .ok (.aload_n 1, 1) := by decide +kernel
theorem dX4_see_1 : decode cX4_see 1 = .ok (.getfield 28, 3) := by decide +kernel
theorem dX4_see_4 : decode cX4_see 4 = .ok (.iload_n 2, 1) := by decide +kernel
theorem dX4_see_5 : decode cX4_see 5 = .ok (.iaload, 1) := by decide +kernel
theorem dX4_see_6 : decode cX4_see 6 = .ok (.istore 4, 2) := by decide +kernel
theorem dX4_see_8 : decode cX4_see 8 = .ok (.aload_n 0, 1) := by decide +kernel
theorem dX4_see_9 : decode cX4_see 9 = .ok (.getfield 9, 3) := by decide +kernel
theorem dX4_see_12 : decode cX4_see 12 = .ok (.iconst 0, 1) := by decide +kernel
theorem dX4_see_13 : decode cX4_see 13 = .ok (.aload_n 1, 1) := by decide +kernel
theorem dX4_see_14 : decode cX4_see 14 = .ok (.iload_n 2, 1) := by decide +kernel
theorem dX4_see_15 : decode cX4_see 15 = .ok (.invokevirtual 33, 3) := by decide +kernel
theorem dX4_see_18 : decode cX4_see 18 = .ok (.iastore, 1) := by decide +kernel
theorem dX4_see_19 : decode cX4_see 19 = .ok (.aload_n 0, 1) := by decide +kernel
theorem dX4_see_20 : decode cX4_see 20 = .ok (.getfield 9, 3) := by decide +kernel
theorem dX4_see_23 : decode cX4_see 23 = .ok (.iconst 1, 1) := by decide +kernel
theorem dX4_see_24 : decode cX4_see 24 = .ok (.iload 4, 2) := by decide +kernel
theorem dX4_see_26 : decode cX4_see 26 = .ok (.aload_n 1, 1) := by decide +kernel
theorem dX4_see_27 : decode cX4_see 27 = .ok (.getfield 37, 3) := by decide +kernel
theorem dX4_see_30 : decode cX4_see 30 = .ok (.invokestatic 40, 3) := by decide +kernel
theorem dX4_see_33 : decode cX4_see 33 = .ok (.iastore, 1) := by decide +kernel
theorem dX4_see_34 : decode cX4_see 34 = .ok (.aload_n 0, 1) := by decide +kernel
theorem dX4_see_35 : decode cX4_see 35 = .ok (.getfield 9, 3) := by decide +kernel
theorem dX4_see_38 : decode cX4_see 38 = .ok (.iconst 2, 1) := by decide +kernel
theorem dX4_see_39 : decode cX4_see 39 = .ok (.iload 4, 2) := by decide +kernel
theorem dX4_see_41 : decode cX4_see 41 = .ok (.aload_n 1, 1) := by decide +kernel
theorem dX4_see_42 : decode cX4_see 42 = .ok (.getfield 44, 3) := by decide +kernel
theorem dX4_see_45 : decode cX4_see 45 = .ok (.invokestatic 40, 3) := by decide +kernel
theorem dX4_see_48 : decode cX4_see 48 = .ok (.iastore, 1) := by decide +kernel
theorem dX4_see_49 : decode cX4_see 49 = .ok (.aload_n 0, 1) := by decide +kernel
theorem dX4_see_50 : decode cX4_see 50 = .ok (.getfield 9, 3) := by decide +kernel
theorem dX4_see_53 : decode cX4_see 53 = .ok (.iconst 3, 1) := by decide +kernel
theorem dX4_see_54 : decode cX4_see 54 = .ok (.aload_n 1, 1) := by decide +kernel
theorem dX4_see_55 : decode cX4_see 55 = .ok (.getfield 47, 3) := by decide +kernel
theorem dX4_see_58 : decode cX4_see 58 = .ok (.iload_n 2, 1) := by decide +kernel
theorem dX4_see_59 : decode cX4_see 59 = .ok (.iaload, 1) := by decide +kernel
theorem dX4_see_60 : decode cX4_see 60 = .ok (.iastore, 1) := by decide +kernel
theorem dX4_see_61 : decode cX4_see 61 = .ok (.aload_n 0, 1) := by decide +kernel
theorem dX4_see_62 : decode cX4_see 62 = .ok (.getfield 9, 3) := by decide +kernel
theorem dX4_see_65 : decode cX4_see 65 = .ok (.iconst 4, 1) := by decide +kernel
theorem dX4_see_66 : decode cX4_see 66 = .ok (.aload_n 1, 1) := by decide +kernel
theorem dX4_see_67 : decode cX4_see 67 = .ok (.getfield 50, 3) := by decide +kernel
theorem dX4_see_70 : decode cX4_see 70 = .ok (.iastore, 1) := by decide +kernel
theorem dX4_see_71 : decode cX4_see 71 = .ok (.aload_n 0, 1) := by decide +kernel
theorem dX4_see_72 : decode cX4_see 72 = .ok (.getfield 9, 3) := by decide +kernel
theorem dX4_see_75 : decode cX4_see 75 = .ok (.iconst 5, 1) := by decide +kernel
theorem dX4_see_76 : decode cX4_see 76 = .ok (.aload_n 1, 1) := by decide +kernel
theorem dX4_see_77 : decode cX4_see 77 = .ok (.iload_n 2, 1) := by decide +kernel
theorem dX4_see_78 : decode cX4_see 78 = .ok (.invokevirtual 53, 3) := by decide +kernel
theorem dX4_see_81 : decode cX4_see 81 = .ok (.iastore, 1) := by decide +kernel
theorem dX4_see_82 : decode cX4_see 82 = .ok (.aload_n 1, 1) := by decide +kernel
theorem dX4_see_83 : decode cX4_see 83 = .ok (.getfield 56, 3) := by decide +kernel
theorem dX4_see_86 : decode cX4_see 86 = .ok (.ifCond .lt 21, 3) := by decide +kernel
theorem dX4_see_89 : decode cX4_see 89 = .ok (.aload_n 1, 1) := by decide +kernel
theorem dX4_see_90 : decode cX4_see 90 = .ok (.getfield 56, 3) := by decide +kernel
theorem dX4_see_93 : decode cX4_see 93 = .ok (.aload_n 3, 1) := by decide +kernel
theorem dX4_see_94 : decode cX4_see 94 = .ok (.arraylength, 1) := by decide +kernel
theorem dX4_see_95 : decode cX4_see 95 = .ok (.if_icmp .ge 12, 3) := by decide +kernel
theorem dX4_see_98 : decode cX4_see 98 = .ok (.aload_n 3, 1) := by decide +kernel
theorem dX4_see_99 : decode cX4_see 99 = .ok (.aload_n 1, 1) := by decide +kernel
theorem dX4_see_100 : decode cX4_see 100 = .ok (.getfield 56, 3) := by decide +kernel
theorem dX4_see_103 : decode cX4_see 103 = .ok (.aaload, 1) := by decide +kernel
theorem dX4_see_104 : decode cX4_see 104 = .ok (.goto 4, 3) := by decide +kernel
theorem dX4_see_107 : decode cX4_see 107 = .ok (.aconst_null, 1) := by decide +kernel
theorem dX4_see_108 : decode cX4_see 108 = .ok (.astore 5, 2) := by decide +kernel
theorem dX4_see_110 : decode cX4_see 110 = .ok (.aload 5, 2) := by decide +kernel
theorem dX4_see_112 : decode cX4_see 112 = .ok (.ifnull 77, 3) := by decide +kernel
theorem dX4_see_115 : decode cX4_see 115 = .ok (.aload_n 0, 1) := by decide +kernel
theorem dX4_see_116 : decode cX4_see 116 = .ok (.iconst 0, 1) := by decide +kernel
theorem dX4_see_117 : decode cX4_see 117 = .ok (.aload 5, 2) := by decide +kernel
theorem dX4_see_119 : decode cX4_see 119 = .ok (.iconst 0, 1) := by decide +kernel
theorem dX4_see_120 : decode cX4_see 120 = .ok (.aload_n 0, 1) := by decide +kernel
theorem dX4_see_121 : decode cX4_see 121 = .ok (.getfield 9, 3) := by decide +kernel
theorem dX4_see_124 : decode cX4_see 124 = .ok (.aload_n 0, 1) := by decide +kernel
theorem dX4_see_125 : decode cX4_see 125 = .ok (.getfield 15, 3) := by decide +kernel
theorem dX4_see_128 : decode cX4_see 128 = .ok (.invokevirtual 59, 3) := by decide +kernel
theorem dX4_see_131 : decode cX4_see 131 = .ok (.bipush 99, 2) := by decide +kernel
theorem dX4_see_133 : decode cX4_see 133 = .ok (.invokestatic 65, 3) := by decide +kernel
theorem dX4_see_136 : decode cX4_see 136 = .ok (.putfield 18, 3) := by decide +kernel
theorem dX4_see_139 : decode cX4_see 139 = .ok (.aload_n 0, 1) := by decide +kernel
theorem dX4_see_140 : decode cX4_see 140 = .ok (.bipush (-99), 2) := by decide +kernel
theorem dX4_see_142 : decode cX4_see 142 = .ok (.aload 5, 2) := by decide +kernel
theorem dX4_see_144 : decode cX4_see 144 = .ok (.iconst 1, 1) := by decide +kernel
theorem dX4_see_145 : decode cX4_see 145 = .ok (.aload_n 0, 1) := by decide +kernel
theorem dX4_see_146 : decode cX4_see 146 = .ok (.getfield 9, 3) := by decide +kernel
theorem dX4_see_149 : decode cX4_see 149 = .ok (.aload_n 0, 1) := by decide +kernel
theorem dX4_see_150 : decode cX4_see 150 = .ok (.getfield 15, 3) := by decide +kernel
theorem dX4_see_153 : decode cX4_see 153 = .ok (.invokevirtual 59, 3) := by decide +kernel
theorem dX4_see_156 : decode cX4_see 156 = .ok (.bipush 99, 2) := by decide +kernel
theorem dX4_see_158 : decode cX4_see 158 = .ok (.invokestatic 65, 3) := by decide +kernel
theorem dX4_see_161 : decode cX4_see 161 = .ok (.putfield 22, 3) := by decide +kernel
theorem dX4_see_164 : decode cX4_see 164 = .ok (.aload_n 0, 1) := by decide +kernel
theorem dX4_see_165 : decode cX4_see 165 = .ok (.bipush (-99), 2) := by decide +kernel
theorem dX4_see_167 : decode cX4_see 167 = .ok (.aload 5, 2) := by decide +kernel
theorem dX4_see_169 : decode cX4_see 169 = .ok (.iconst 2, 1) := by decide +kernel
theorem dX4_see_170 : decode cX4_see 170 = .ok (.aload_n 0, 1) := by decide +kernel
theorem dX4_see_171 : decode cX4_see 171 = .ok (.getfield 9, 3) := by decide +kernel
theorem dX4_see_174 : decode cX4_see 174 = .ok (.aload_n 0, 1) := by decide +kernel
theorem dX4_see_175 : decode cX4_see 175 = .ok (.getfield 15, 3) := by decide +kernel
theorem dX4_see_178 : decode cX4_see 178 = .ok (.invokevirtual 59, 3) := by decide +kernel
theorem dX4_see_181 : decode cX4_see 181 = .ok (.bipush 99, 2) := by decide +kernel
theorem dX4_see_183 : decode cX4_see 183 = .ok (.invokestatic 65, 3) := by decide +kernel
theorem dX4_see_186 : decode cX4_see 186 = .ok (.putfield 25, 3) := by decide +kernel
theorem dX4_see_189 : decode cX4_see 189 = .ok (.return_, 1) := by decide +kernel
theorem dX4_view_0 : decode cX4_view 0 = .ok (.iconst 0, 1) := by decide +kernel
theorem dX4_view_1 : decode cX4_view 1 = .ok (.aload_n 0, 1) := by decide +kernel
theorem dX4_view_2 : decode cX4_view 2 = .ok (.iload_n 1, 1) := by decide +kernel
theorem dX4_view_3 : decode cX4_view 3 = .ok (.invokevirtual 69, 3) := by decide +kernel
theorem dX4_view_6 : decode cX4_view 6 = .ok (.bipush 99, 2) := by decide +kernel
theorem dX4_view_8 : decode cX4_view 8 = .ok (.invokestatic 65, 3) := by decide +kernel
theorem dX4_view_11 : decode cX4_view 11 = .ok (.ireturn, 1) := by decide +kernel
theorem dX4_warmth_0 : decode cX4_warmth 0 = .ok (.bipush (-99), 2) := by decide +kernel
theorem dX4_warmth_2 : decode cX4_warmth 2 = .ok (.aload_n 0, 1) := by decide +kernel
theorem dX4_warmth_3 : decode cX4_warmth 3 = .ok (.iload_n 1, 1) := by decide +kernel
theorem dX4_warmth_4 : decode cX4_warmth 4 = .ok (.invokevirtual 72, 3) := by decide +kernel
theorem dX4_warmth_7 : decode cX4_warmth 7 = .ok (.bipush 99, 2) := by decide +kernel
theorem dX4_warmth_9 : decode cX4_warmth 9 = .ok (.invokestatic 65, 3) := by decide +kernel
theorem dX4_warmth_12 : decode cX4_warmth 12 = .ok (.ireturn, 1) := by decide +kernel
theorem dX4_minding_0 : decode cX4_minding 0 = .ok (.bipush (-99), 2) := by decide +kernel
theorem dX4_minding_2 : decode cX4_minding 2 = .ok (.aload_n 0, 1) := by decide +kernel
theorem dX4_minding_3 : decode cX4_minding 3 = .ok (.iload_n 1, 1) := by decide +kernel
theorem dX4_minding_4 : decode cX4_minding 4 = .ok (.invokevirtual 75, 3) := by decide +kernel
theorem dX4_minding_7 : decode cX4_minding 7 = .ok (.bipush 99, 2) := by decide +kernel
theorem dX4_minding_9 : decode cX4_minding 9 = .ok (.invokestatic 65, 3) := by decide +kernel
theorem dX4_minding_12 : decode cX4_minding 12 = .ok (.ireturn, 1) := by decide +kernel
theorem dX4_freeView_0 : decode cX4_freeView 0 = .ok (.iload_n 1, 1) := by decide +kernel
theorem dX4_freeView_1 : decode cX4_freeView 1 = .ok (.tableswitch 95 1 5 #[35, 40, 45, 74, 93], 35) := by decide +kernel
theorem dX4_freeView_36 : decode cX4_freeView 36 = .ok (.aload_n 0, 1) := by decide +kernel
theorem dX4_freeView_37 : decode cX4_freeView 37 = .ok (.invokevirtual 78, 3) := by decide +kernel
theorem dX4_freeView_40 : decode cX4_freeView 40 = .ok (.ireturn, 1) := by decide +kernel
theorem dX4_freeView_41 : decode cX4_freeView 41 = .ok (.aload_n 0, 1) := by decide +kernel
theorem dX4_freeView_42 : decode cX4_freeView 42 = .ok (.invokevirtual 82, 3) := by decide +kernel
theorem dX4_freeView_45 : decode cX4_freeView 45 = .ok (.ireturn, 1) := by decide +kernel
theorem dX4_freeView_46 : decode cX4_freeView 46 = .ok (.aload_n 0, 1) := by decide +kernel
theorem dX4_freeView_47 : decode cX4_freeView 47 = .ok (.getfield 9, 3) := by decide +kernel
theorem dX4_freeView_50 : decode cX4_freeView 50 = .ok (.iconst 4, 1) := by decide +kernel
theorem dX4_freeView_51 : decode cX4_freeView 51 = .ok (.iaload, 1) := by decide +kernel
theorem dX4_freeView_52 : decode cX4_freeView 52 = .ok (.aload_n 0, 1) := by decide +kernel
theorem dX4_freeView_53 : decode cX4_freeView 53 = .ok (.getfield 9, 3) := by decide +kernel
theorem dX4_freeView_56 : decode cX4_freeView 56 = .ok (.iconst 3, 1) := by decide +kernel
theorem dX4_freeView_57 : decode cX4_freeView 57 = .ok (.iaload, 1) := by decide +kernel
theorem dX4_freeView_58 : decode cX4_freeView 58 = .ok (.if_icmp .ge 12, 3) := by decide +kernel
theorem dX4_freeView_61 : decode cX4_freeView 61 = .ok (.aload_n 0, 1) := by decide +kernel
theorem dX4_freeView_62 : decode cX4_freeView 62 = .ok (.invokevirtual 78, 3) := by decide +kernel
theorem dX4_freeView_65 : decode cX4_freeView 65 = .ok (.iconst 2, 1) := by decide +kernel
theorem dX4_freeView_66 : decode cX4_freeView 66 = .ok (.idiv, 1) := by decide +kernel
theorem dX4_freeView_67 : decode cX4_freeView 67 = .ok (.goto 7, 3) := by decide +kernel
theorem dX4_freeView_70 : decode cX4_freeView 70 = .ok (.aload_n 0, 1) := by decide +kernel
theorem dX4_freeView_71 : decode cX4_freeView 71 = .ok (.invokevirtual 78, 3) := by decide +kernel
theorem dX4_freeView_74 : decode cX4_freeView 74 = .ok (.ireturn, 1) := by decide +kernel
theorem dX4_freeView_75 : decode cX4_freeView 75 = .ok (.aload_n 0, 1) := by decide +kernel
theorem dX4_freeView_76 : decode cX4_freeView 76 = .ok (.getfield 9, 3) := by decide +kernel
theorem dX4_freeView_79 : decode cX4_freeView 79 = .ok (.iconst 1, 1) := by decide +kernel
theorem dX4_freeView_80 : decode cX4_freeView 80 = .ok (.iaload, 1) := by decide +kernel
theorem dX4_freeView_81 : decode cX4_freeView 81 = .ok (.iconst 3, 1) := by decide +kernel
theorem dX4_freeView_82 : decode cX4_freeView 82 = .ok (.if_icmp .le 7, 3) := by decide +kernel
theorem dX4_freeView_85 : decode cX4_freeView 85 = .ok (.iconst 0, 1) := by decide +kernel
theorem dX4_freeView_86 : decode cX4_freeView 86 = .ok (.goto 7, 3) := by decide +kernel
theorem dX4_freeView_89 : decode cX4_freeView 89 = .ok (.aload_n 0, 1) := by decide +kernel
theorem dX4_freeView_90 : decode cX4_freeView 90 = .ok (.invokevirtual 82, 3) := by decide +kernel
theorem dX4_freeView_93 : decode cX4_freeView 93 = .ok (.ireturn, 1) := by decide +kernel
theorem dX4_freeView_94 : decode cX4_freeView 94 = .ok (.iconst 0, 1) := by decide +kernel
theorem dX4_freeView_95 : decode cX4_freeView 95 = .ok (.ireturn, 1) := by decide +kernel
theorem dX4_freeView_96 : decode cX4_freeView 96 = .ok (.aload_n 0, 1) := by decide +kernel
theorem dX4_freeView_97 : decode cX4_freeView 97 = .ok (.getfield 18, 3) := by decide +kernel
theorem dX4_freeView_100 : decode cX4_freeView 100 = .ok (.ireturn, 1) := by decide +kernel
theorem dX4_leftView_0 : decode cX4_leftView 0 = .ok (.aload_n 0, 1) := by decide +kernel
theorem dX4_leftView_1 : decode cX4_leftView 1 = .ok (.getfield 9, 3) := by decide +kernel
theorem dX4_leftView_4 : decode cX4_leftView 4 = .ok (.iconst 0, 1) := by decide +kernel
theorem dX4_leftView_5 : decode cX4_leftView 5 = .ok (.iaload, 1) := by decide +kernel
theorem dX4_leftView_6 : decode cX4_leftView 6 = .ok (.iconst 1, 1) := by decide +kernel
theorem dX4_leftView_7 : decode cX4_leftView 7 = .ok (.if_icmp .lt 22, 3) := by decide +kernel
theorem dX4_leftView_10 : decode cX4_leftView 10 = .ok (.aload_n 0, 1) := by decide +kernel
theorem dX4_leftView_11 : decode cX4_leftView 11 = .ok (.getfield 9, 3) := by decide +kernel
theorem dX4_leftView_14 : decode cX4_leftView 14 = .ok (.iconst 0, 1) := by decide +kernel
theorem dX4_leftView_15 : decode cX4_leftView 15 = .ok (.iaload, 1) := by decide +kernel
theorem dX4_leftView_16 : decode cX4_leftView 16 = .ok (.iconst 5, 1) := by decide +kernel
theorem dX4_leftView_17 : decode cX4_leftView 17 = .ok (.if_icmp .gt 12, 3) := by decide +kernel
theorem dX4_leftView_20 : decode cX4_leftView 20 = .ok (.iconst 2, 1) := by decide +kernel
theorem dX4_leftView_21 : decode cX4_leftView 21 = .ok (.aload_n 0, 1) := by decide +kernel
theorem dX4_leftView_22 : decode cX4_leftView 22 = .ok (.getfield 18, 3) := by decide +kernel
theorem dX4_leftView_25 : decode cX4_leftView 25 = .ok (.imul, 1) := by decide +kernel
theorem dX4_leftView_26 : decode cX4_leftView 26 = .ok (.goto 7, 3) := by decide +kernel
theorem dX4_leftView_29 : decode cX4_leftView 29 = .ok (.aload_n 0, 1) := by decide +kernel
theorem dX4_leftView_30 : decode cX4_leftView 30 = .ok (.getfield 18, 3) := by decide +kernel
theorem dX4_leftView_33 : decode cX4_leftView 33 = .ok (.ireturn, 1) := by decide +kernel
theorem dX4_tallView_0 : decode cX4_tallView 0 = .ok (.aload_n 0, 1) := by decide +kernel
theorem dX4_tallView_1 : decode cX4_tallView 1 = .ok (.getfield 18, 3) := by decide +kernel
theorem dX4_tallView_4 : decode cX4_tallView 4 = .ok (.iconst 2, 1) := by decide +kernel
theorem dX4_tallView_5 : decode cX4_tallView 5 = .ok (.iadd, 1) := by decide +kernel
theorem dX4_tallView_6 : decode cX4_tallView 6 = .ok (.ireturn, 1) := by decide +kernel
theorem dX4_freeWarmth_0 : decode cX4_freeWarmth 0 = .ok (.iload_n 1, 1) := by decide +kernel
theorem dX4_freeWarmth_1 : decode cX4_freeWarmth 1 = .ok (.tableswitch 57 2 5 #[31, 36, 48, 55], 31) := by decide +kernel
theorem dX4_freeWarmth_32 : decode cX4_freeWarmth 32 = .ok (.aload_n 0, 1) := by decide +kernel
theorem dX4_freeWarmth_33 : decode cX4_freeWarmth 33 = .ok (.invokevirtual 85, 3) := by decide +kernel
theorem dX4_freeWarmth_36 : decode cX4_freeWarmth 36 = .ok (.ireturn, 1) := by decide +kernel
theorem dX4_freeWarmth_37 : decode cX4_freeWarmth 37 = .ok (.aload_n 0, 1) := by decide +kernel
theorem dX4_freeWarmth_38 : decode cX4_freeWarmth 38 = .ok (.getfield 22, 3) := by decide +kernel
theorem dX4_freeWarmth_41 : decode cX4_freeWarmth 41 = .ok (.aload_n 0, 1) := by decide +kernel
theorem dX4_freeWarmth_42 : decode cX4_freeWarmth 42 = .ok (.getfield 9, 3) := by decide +kernel
theorem dX4_freeWarmth_45 : decode cX4_freeWarmth 45 = .ok (.iconst 3, 1) := by decide +kernel
theorem dX4_freeWarmth_46 : decode cX4_freeWarmth 46 = .ok (.iaload, 1) := by decide +kernel
theorem dX4_freeWarmth_47 : decode cX4_freeWarmth 47 = .ok (.isub, 1) := by decide +kernel
theorem dX4_freeWarmth_48 : decode cX4_freeWarmth 48 = .ok (.ireturn, 1) := by decide +kernel
theorem dX4_freeWarmth_49 : decode cX4_freeWarmth 49 = .ok (.iconst 2, 1) := by decide +kernel
theorem dX4_freeWarmth_50 : decode cX4_freeWarmth 50 = .ok (.aload_n 0, 1) := by decide +kernel
theorem dX4_freeWarmth_51 : decode cX4_freeWarmth 51 = .ok (.invokevirtual 85, 3) := by decide +kernel
theorem dX4_freeWarmth_54 : decode cX4_freeWarmth 54 = .ok (.imul, 1) := by decide +kernel
theorem dX4_freeWarmth_55 : decode cX4_freeWarmth 55 = .ok (.ireturn, 1) := by decide +kernel
theorem dX4_freeWarmth_56 : decode cX4_freeWarmth 56 = .ok (.iconst 1, 1) := by decide +kernel
theorem dX4_freeWarmth_57 : decode cX4_freeWarmth 57 = .ok (.ireturn, 1) := by decide +kernel
theorem dX4_freeWarmth_58 : decode cX4_freeWarmth 58 = .ok (.aload_n 0, 1) := by decide +kernel
theorem dX4_freeWarmth_59 : decode cX4_freeWarmth 59 = .ok (.getfield 22, 3) := by decide +kernel
theorem dX4_freeWarmth_62 : decode cX4_freeWarmth 62 = .ok (.ireturn, 1) := by decide +kernel
theorem dX4_tallWarmth_0 : decode cX4_tallWarmth 0 = .ok (.aload_n 0, 1) := by decide +kernel
theorem dX4_tallWarmth_1 : decode cX4_tallWarmth 1 = .ok (.getfield 9, 3) := by decide +kernel
theorem dX4_tallWarmth_4 : decode cX4_tallWarmth 4 = .ok (.iconst 2, 1) := by decide +kernel
theorem dX4_tallWarmth_5 : decode cX4_tallWarmth 5 = .ok (.iaload, 1) := by decide +kernel
theorem dX4_tallWarmth_6 : decode cX4_tallWarmth 6 = .ok (.iconst 2, 1) := by decide +kernel
theorem dX4_tallWarmth_7 : decode cX4_tallWarmth 7 = .ok (.if_icmp .ge 11, 3) := by decide +kernel
theorem dX4_tallWarmth_10 : decode cX4_tallWarmth 10 = .ok (.aload_n 0, 1) := by decide +kernel
theorem dX4_tallWarmth_11 : decode cX4_tallWarmth 11 = .ok (.getfield 22, 3) := by decide +kernel
theorem dX4_tallWarmth_14 : decode cX4_tallWarmth 14 = .ok (.ineg, 1) := by decide +kernel
theorem dX4_tallWarmth_15 : decode cX4_tallWarmth 15 = .ok (.goto 7, 3) := by decide +kernel
theorem dX4_tallWarmth_18 : decode cX4_tallWarmth 18 = .ok (.aload_n 0, 1) := by decide +kernel
theorem dX4_tallWarmth_19 : decode cX4_tallWarmth 19 = .ok (.getfield 22, 3) := by decide +kernel
theorem dX4_tallWarmth_22 : decode cX4_tallWarmth 22 = .ok (.ireturn, 1) := by decide +kernel
theorem dX4_freeMinding_0 : decode cX4_freeMinding 0 = .ok (.iload_n 1, 1) := by decide +kernel
theorem dX4_freeMinding_1 : decode cX4_freeMinding 1 = .ok (.tableswitch 51 1 5 #[35, 49, 35, 42, 49], 35) := by decide +kernel
theorem dX4_freeMinding_36 : decode cX4_freeMinding 36 = .ok (.aload_n 0, 1) := by decide +kernel
theorem dX4_freeMinding_37 : decode cX4_freeMinding 37 = .ok (.getfield 25, 3) := by decide +kernel
theorem dX4_freeMinding_40 : decode cX4_freeMinding 40 = .ok (.iconst 1, 1) := by decide +kernel
theorem dX4_freeMinding_41 : decode cX4_freeMinding 41 = .ok (.iadd, 1) := by decide +kernel
theorem dX4_freeMinding_42 : decode cX4_freeMinding 42 = .ok (.ireturn, 1) := by decide +kernel
theorem dX4_freeMinding_43 : decode cX4_freeMinding 43 = .ok (.aload_n 0, 1) := by decide +kernel
theorem dX4_freeMinding_44 : decode cX4_freeMinding 44 = .ok (.getfield 9, 3) := by decide +kernel
theorem dX4_freeMinding_47 : decode cX4_freeMinding 47 = .ok (.iconst 5, 1) := by decide +kernel
theorem dX4_freeMinding_48 : decode cX4_freeMinding 48 = .ok (.iaload, 1) := by decide +kernel
theorem dX4_freeMinding_49 : decode cX4_freeMinding 49 = .ok (.ireturn, 1) := by decide +kernel
theorem dX4_freeMinding_50 : decode cX4_freeMinding 50 = .ok (.iconst 0, 1) := by decide +kernel
theorem dX4_freeMinding_51 : decode cX4_freeMinding 51 = .ok (.ireturn, 1) := by decide +kernel
theorem dX4_freeMinding_52 : decode cX4_freeMinding 52 = .ok (.aload_n 0, 1) := by decide +kernel
theorem dX4_freeMinding_53 : decode cX4_freeMinding 53 = .ok (.getfield 25, 3) := by decide +kernel
theorem dX4_freeMinding_56 : decode cX4_freeMinding 56 = .ok (.ireturn, 1) := by decide +kernel
theorem dX5_init_0 : decode cX5_init 0 = .ok (.aload_n 0, 1) := by decide +kernel
theorem dX5_init_1 : decode cX5_init 1 = .ok (.invokespecial 3, 3) := by decide +kernel
theorem dX5_init_4 : decode cX5_init 4 = .ok (.aload_n 0, 1) := by decide +kernel
theorem dX5_init_5 : decode cX5_init 5 = .ok (.aload_n 1, 1) := by decide +kernel
theorem dX5_init_6 : decode cX5_init 6 = .ok (.putfield 9, 3) := by decide +kernel
theorem dX5_init_9 : decode cX5_init 9 = .ok (.aload_n 0, 1) := by decide +kernel
theorem dX5_init_10 : decode cX5_init 10 = .ok (.aload_n 2, 1) := by decide +kernel
theorem dX5_init_11 : decode cX5_init 11 = .ok (.putfield 15, 3) := by decide +kernel
theorem dX5_init_14 : decode cX5_init 14 = .ok (.return_, 1) := by decide +kernel
theorem dX5_tell_0 : decode cX5_tell 0 = .ok (.iload_n 1, 1) := by decide +kernel
theorem dX5_tell_1 : decode cX5_tell 1 = .ok (.ifCond .ne 7, 3) := by decide +kernel
theorem dX5_tell_4 : decode cX5_tell 4 = .ok (.iconst 0, 1) := by decide +kernel
theorem dX5_tell_5 : decode cX5_tell 5 = .ok (.goto 11, 3) := by decide +kernel
theorem dX5_tell_8 : decode cX5_tell 8 = .ok (.aload_n 0, 1) := by decide +kernel
theorem dX5_tell_9 : decode cX5_tell 9 = .ok (.getfield 15, 3) := by decide +kernel
theorem dX5_tell_12 : decode cX5_tell 12 = .ok (.iload_n 1, 1) := by decide +kernel
theorem dX5_tell_13 : decode cX5_tell 13 = .ok (.iconst 1, 1) := by decide +kernel
theorem dX5_tell_14 : decode cX5_tell 14 = .ok (.isub, 1) := by decide +kernel
theorem dX5_tell_15 : decode cX5_tell 15 = .ok (.iaload, 1) := by decide +kernel
theorem dX5_tell_16 : decode cX5_tell 16 = .ok (.istore 4, 2) := by decide +kernel
theorem dX5_tell_18 : decode cX5_tell 18 = .ok (.iconst 0, 1) := by decide +kernel
theorem dX5_tell_19 : decode cX5_tell 19 = .ok (.istore 5, 2) := by decide +kernel
theorem dX5_tell_21 : decode cX5_tell 21 = .ok (.iload 4, 2) := by decide +kernel
theorem dX5_tell_23 : decode cX5_tell 23 = .ok (.istore 6, 2) := by decide +kernel
theorem dX5_tell_25 : decode cX5_tell 25 = .ok (.iload 6, 2) := by decide +kernel
theorem dX5_tell_27 : decode cX5_tell 27 = .ok (.aload_n 0, 1) := by decide +kernel
theorem dX5_tell_28 : decode cX5_tell 28 = .ok (.getfield 15, 3) := by decide +kernel
theorem dX5_tell_31 : decode cX5_tell 31 = .ok (.iload_n 1, 1) := by decide +kernel
theorem dX5_tell_32 : decode cX5_tell 32 = .ok (.iaload, 1) := by decide +kernel
theorem dX5_tell_33 : decode cX5_tell 33 = .ok (.if_icmp .ge 128, 3) := by decide +kernel
theorem dX5_tell_36 : decode cX5_tell 36 = .ok (.aload_n 0, 1) := by decide +kernel
theorem dX5_tell_37 : decode cX5_tell 37 = .ok (.getfield 9, 3) := by decide +kernel
theorem dX5_tell_40 : decode cX5_tell 40 = .ok (.iload 6, 2) := by decide +kernel
theorem dX5_tell_42 : decode cX5_tell 42 = .ok (.iaload, 1) := by decide +kernel
theorem dX5_tell_43 : decode cX5_tell 43 = .ok (.istore 7, 2) := by decide +kernel
theorem dX5_tell_45 : decode cX5_tell 45 = .ok (.iload 7, 2) := by decide +kernel
theorem dX5_tell_47 : decode cX5_tell 47 = .ok (.bipush (-6), 2) := by decide +kernel
theorem dX5_tell_49 : decode cX5_tell 49 = .ok (.if_icmp .lt 36, 3) := by decide +kernel
theorem dX5_tell_52 : decode cX5_tell 52 = .ok (.iload 5, 2) := by decide +kernel
theorem dX5_tell_54 : decode cX5_tell 54 = .ok (.aload_n 3, 1) := by decide +kernel
theorem dX5_tell_55 : decode cX5_tell 55 = .ok (.arraylength, 1) := by decide +kernel
theorem dX5_tell_56 : decode cX5_tell 56 = .ok (.if_icmp .ge 99, 3) := by decide +kernel
theorem dX5_tell_59 : decode cX5_tell 59 = .ok (.aload_n 3, 1) := by decide +kernel
theorem dX5_tell_60 : decode cX5_tell 60 = .ok (.iload 5, 2) := by decide +kernel
theorem dX5_tell_62 : decode cX5_tell 62 = .ok (.iload 7, 2) := by decide +kernel
theorem dX5_tell_64 : decode cX5_tell 64 = .ok (.ifCond .lt 8, 3) := by decide +kernel
theorem dX5_tell_67 : decode cX5_tell 67 = .ok (.iload 7, 2) := by decide +kernel
theorem dX5_tell_69 : decode cX5_tell 69 = .ok (.goto 9, 3) := by decide +kernel
theorem dX5_tell_72 : decode cX5_tell 72 = .ok (.aload_n 2, 1) := by decide +kernel
theorem dX5_tell_73 : decode cX5_tell 73 = .ok (.iconst (-1), 1) := by decide +kernel
theorem dX5_tell_74 : decode cX5_tell 74 = .ok (.iload 7, 2) := by decide +kernel
theorem dX5_tell_76 : decode cX5_tell 76 = .ok (.isub, 1) := by decide +kernel
theorem dX5_tell_77 : decode cX5_tell 77 = .ok (.iaload, 1) := by decide +kernel
theorem dX5_tell_78 : decode cX5_tell 78 = .ok (.iastore, 1) := by decide +kernel
theorem dX5_tell_79 : decode cX5_tell 79 = .ok (.iinc 5 1, 3) := by decide +kernel
theorem dX5_tell_82 : decode cX5_tell 82 = .ok (.goto 73, 3) := by decide +kernel
theorem dX5_tell_85 : decode cX5_tell 85 = .ok (.iload 7, 2) := by decide +kernel
theorem dX5_tell_87 : decode cX5_tell 87 = .ok (.bipush (-12), 2) := by decide +kernel
theorem dX5_tell_89 : decode cX5_tell 89 = .ok (.if_icmp .eq 10, 3) := by decide +kernel
theorem dX5_tell_92 : decode cX5_tell 92 = .ok (.iload 7, 2) := by decide +kernel
theorem dX5_tell_94 : decode cX5_tell 94 = .ok (.bipush (-13), 2) := by decide +kernel
theorem dX5_tell_96 : decode cX5_tell 96 = .ok (.if_icmp .ne 29, 3) := by decide +kernel
theorem dX5_tell_99 : decode cX5_tell 99 = .ok (.iload 5, 2) := by decide +kernel
theorem dX5_tell_101 : decode cX5_tell 101 = .ok (.iconst 1, 1) := by decide +kernel
theorem dX5_tell_102 : decode cX5_tell 102 = .ok (.if_icmp .lt 53, 3) := by decide +kernel
theorem dX5_tell_105 : decode cX5_tell 105 = .ok (.aload_n 3, 1) := by decide +kernel
theorem dX5_tell_106 : decode cX5_tell 106 = .ok (.iload 5, 2) := by decide +kernel
theorem dX5_tell_108 : decode cX5_tell 108 = .ok (.iconst 1, 1) := by decide +kernel
theorem dX5_tell_109 : decode cX5_tell 109 = .ok (.isub, 1) := by decide +kernel
theorem dX5_tell_110 : decode cX5_tell 110 = .ok (.iload 7, 2) := by decide +kernel
theorem dX5_tell_112 : decode cX5_tell 112 = .ok (.aload_n 3, 1) := by decide +kernel
theorem dX5_tell_113 : decode cX5_tell 113 = .ok (.iload 5, 2) := by decide +kernel
theorem dX5_tell_115 : decode cX5_tell 115 = .ok (.iconst 1, 1) := by decide +kernel
theorem dX5_tell_116 : decode cX5_tell 116 = .ok (.isub, 1) := by decide +kernel
theorem dX5_tell_117 : decode cX5_tell 117 = .ok (.iaload, 1) := by decide +kernel
theorem dX5_tell_118 : decode cX5_tell 118 = .ok (.invokestatic 18, 3) := by decide +kernel
theorem dX5_tell_121 : decode cX5_tell 121 = .ok (.iastore, 1) := by decide +kernel
theorem dX5_tell_122 : decode cX5_tell 122 = .ok (.goto 33, 3) := by decide +kernel
theorem dX5_tell_125 : decode cX5_tell 125 = .ok (.iload 5, 2) := by decide +kernel
theorem dX5_tell_127 : decode cX5_tell 127 = .ok (.iconst 2, 1) := by decide +kernel
theorem dX5_tell_128 : decode cX5_tell 128 = .ok (.if_icmp .lt 27, 3) := by decide +kernel
theorem dX5_tell_131 : decode cX5_tell 131 = .ok (.iinc 5 (-1), 3) := by decide +kernel
theorem dX5_tell_134 : decode cX5_tell 134 = .ok (.aload_n 3, 1) := by decide +kernel
theorem dX5_tell_135 : decode cX5_tell 135 = .ok (.iload 5, 2) := by decide +kernel
theorem dX5_tell_137 : decode cX5_tell 137 = .ok (.iconst 1, 1) := by decide +kernel
theorem dX5_tell_138 : decode cX5_tell 138 = .ok (.isub, 1) := by decide +kernel
theorem dX5_tell_139 : decode cX5_tell 139 = .ok (.iload 7, 2) := by decide +kernel
theorem dX5_tell_141 : decode cX5_tell 141 = .ok (.aload_n 3, 1) := by decide +kernel
theorem dX5_tell_142 : decode cX5_tell 142 = .ok (.iload 5, 2) := by decide +kernel
theorem dX5_tell_144 : decode cX5_tell 144 = .ok (.iconst 1, 1) := by decide +kernel
theorem dX5_tell_145 : decode cX5_tell 145 = .ok (.isub, 1) := by decide +kernel
theorem dX5_tell_146 : decode cX5_tell 146 = .ok (.iaload, 1) := by decide +kernel
theorem dX5_tell_147 : decode cX5_tell 147 = .ok (.aload_n 3, 1) := by decide +kernel
theorem dX5_tell_148 : decode cX5_tell 148 = .ok (.iload 5, 2) := by decide +kernel
theorem dX5_tell_150 : decode cX5_tell 150 = .ok (.iaload, 1) := by decide +kernel
theorem dX5_tell_151 : decode cX5_tell 151 = .ok (.invokestatic 22, 3) := by decide +kernel
theorem dX5_tell_154 : decode cX5_tell 154 = .ok (.iastore, 1) := by decide +kernel
theorem dX5_tell_155 : decode cX5_tell 155 = .ok (.iinc 6 1, 3) := by decide +kernel
theorem dX5_tell_158 : decode cX5_tell 158 = .ok (.goto (-133), 3) := by decide +kernel
theorem dX5_tell_161 : decode cX5_tell 161 = .ok (.iload 5, 2) := by decide +kernel
theorem dX5_tell_163 : decode cX5_tell 163 = .ok (.iconst 1, 1) := by decide +kernel
theorem dX5_tell_164 : decode cX5_tell 164 = .ok (.if_icmp .lt 12, 3) := by decide +kernel
theorem dX5_tell_167 : decode cX5_tell 167 = .ok (.aload_n 3, 1) := by decide +kernel
theorem dX5_tell_168 : decode cX5_tell 168 = .ok (.iload 5, 2) := by decide +kernel
theorem dX5_tell_170 : decode cX5_tell 170 = .ok (.iconst 1, 1) := by decide +kernel
theorem dX5_tell_171 : decode cX5_tell 171 = .ok (.isub, 1) := by decide +kernel
theorem dX5_tell_172 : decode cX5_tell 172 = .ok (.iaload, 1) := by decide +kernel
theorem dX5_tell_173 : decode cX5_tell 173 = .ok (.goto 4, 3) := by decide +kernel
theorem dX5_tell_176 : decode cX5_tell 176 = .ok (.iconst 0, 1) := by decide +kernel
theorem dX5_tell_177 : decode cX5_tell 177 = .ok (.ireturn, 1) := by decide +kernel
theorem dX5_turned_0 : decode cX5_turned 0 = .ok (.iload_n 0, 1) := by decide +kernel
theorem dX5_turned_1 : decode cX5_turned 1 = .ok (.bipush (-13), 2) := by decide +kernel
theorem dX5_turned_3 : decode cX5_turned 3 = .ok (.if_icmp .ne 6, 3) := by decide +kernel
theorem dX5_turned_6 : decode cX5_turned 6 = .ok (.iload_n 1, 1) := by decide +kernel
theorem dX5_turned_7 : decode cX5_turned 7 = .ok (.ineg, 1) := by decide +kernel
theorem dX5_turned_8 : decode cX5_turned 8 = .ok (.ireturn, 1) := by decide +kernel
theorem dX5_turned_9 : decode cX5_turned 9 = .ok (.iload_n 1, 1) := by decide +kernel
theorem dX5_turned_10 : decode cX5_turned 10 = .ok (.ifCond .ne 7, 3) := by decide +kernel
theorem dX5_turned_13 : decode cX5_turned 13 = .ok (.iconst 1, 1) := by decide +kernel
theorem dX5_turned_14 : decode cX5_turned 14 = .ok (.goto 4, 3) := by decide +kernel
theorem dX5_turned_17 : decode cX5_turned 17 = .ok (.iconst 0, 1) := by decide +kernel
theorem dX5_turned_18 : decode cX5_turned 18 = .ok (.ireturn, 1) := by decide +kernel
theorem dX5_joined_0 : decode cX5_joined 0 = .ok (.iload_n 0, 1) := by decide +kernel
theorem dX5_joined_1 : decode cX5_joined 1 = .ok (.tableswitch 109 (-18) (-10) #[90, 79, 109, 105, 101, 109, 109, 65, 51], 51) := by decide +kernel
theorem dX5_joined_52 : decode cX5_joined 52 = .ok (.iload_n 1, 1) := by decide +kernel
theorem dX5_joined_53 : decode cX5_joined 53 = .ok (.ifCond .ne 7, 3) := by decide +kernel
theorem dX5_joined_56 : decode cX5_joined 56 = .ok (.iload_n 2, 1) := by decide +kernel
theorem dX5_joined_57 : decode cX5_joined 57 = .ok (.ifCond .eq 7, 3) := by decide +kernel
theorem dX5_joined_60 : decode cX5_joined 60 = .ok (.iconst 1, 1) := by decide +kernel
theorem dX5_joined_61 : decode cX5_joined 61 = .ok (.goto 4, 3) := by decide +kernel
theorem dX5_joined_64 : decode cX5_joined 64 = .ok (.iconst 0, 1) := by decide +kernel
theorem dX5_joined_65 : decode cX5_joined 65 = .ok (.ireturn, 1) := by decide +kernel
theorem dX5_joined_66 : decode cX5_joined 66 = .ok (.iload_n 1, 1) := by decide +kernel
theorem dX5_joined_67 : decode cX5_joined 67 = .ok (.ifCond .eq 11, 3) := by decide +kernel
theorem dX5_joined_70 : decode cX5_joined 70 = .ok (.iload_n 2, 1) := by decide +kernel
theorem dX5_joined_71 : decode cX5_joined 71 = .ok (.ifCond .eq 7, 3) := by decide +kernel
theorem dX5_joined_74 : decode cX5_joined 74 = .ok (.iconst 1, 1) := by decide +kernel
theorem dX5_joined_75 : decode cX5_joined 75 = .ok (.goto 4, 3) := by decide +kernel
theorem dX5_joined_78 : decode cX5_joined 78 = .ok (.iconst 0, 1) := by decide +kernel
theorem dX5_joined_79 : decode cX5_joined 79 = .ok (.ireturn, 1) := by decide +kernel
theorem dX5_joined_80 : decode cX5_joined 80 = .ok (.iload_n 1, 1) := by decide +kernel
theorem dX5_joined_81 : decode cX5_joined 81 = .ok (.iload_n 2, 1) := by decide +kernel
theorem dX5_joined_82 : decode cX5_joined 82 = .ok (.if_icmp .ge 7, 3) := by decide +kernel
theorem dX5_joined_85 : decode cX5_joined 85 = .ok (.iconst 1, 1) := by decide +kernel
theorem dX5_joined_86 : decode cX5_joined 86 = .ok (.goto 4, 3) := by decide +kernel
theorem dX5_joined_89 : decode cX5_joined 89 = .ok (.iconst 0, 1) := by decide +kernel
theorem dX5_joined_90 : decode cX5_joined 90 = .ok (.ireturn, 1) := by decide +kernel
theorem dX5_joined_91 : decode cX5_joined 91 = .ok (.iload_n 1, 1) := by decide +kernel
theorem dX5_joined_92 : decode cX5_joined 92 = .ok (.iload_n 2, 1) := by decide +kernel
theorem dX5_joined_93 : decode cX5_joined 93 = .ok (.if_icmp .ne 7, 3) := by decide +kernel
theorem dX5_joined_96 : decode cX5_joined 96 = .ok (.iconst 1, 1) := by decide +kernel
theorem dX5_joined_97 : decode cX5_joined 97 = .ok (.goto 4, 3) := by decide +kernel
theorem dX5_joined_100 : decode cX5_joined 100 = .ok (.iconst 0, 1) := by decide +kernel
theorem dX5_joined_101 : decode cX5_joined 101 = .ok (.ireturn, 1) := by decide +kernel
theorem dX5_joined_102 : decode cX5_joined 102 = .ok (.iload_n 1, 1) := by decide +kernel
theorem dX5_joined_103 : decode cX5_joined 103 = .ok (.iload_n 2, 1) := by decide +kernel
theorem dX5_joined_104 : decode cX5_joined 104 = .ok (.iadd, 1) := by decide +kernel
theorem dX5_joined_105 : decode cX5_joined 105 = .ok (.ireturn, 1) := by decide +kernel
theorem dX5_joined_106 : decode cX5_joined 106 = .ok (.iload_n 1, 1) := by decide +kernel
theorem dX5_joined_107 : decode cX5_joined 107 = .ok (.iload_n 2, 1) := by decide +kernel
theorem dX5_joined_108 : decode cX5_joined 108 = .ok (.isub, 1) := by decide +kernel
theorem dX5_joined_109 : decode cX5_joined 109 = .ok (.ireturn, 1) := by decide +kernel
theorem dX5_joined_110 : decode cX5_joined 110 = .ok (.iload_n 1, 1) := by decide +kernel
theorem dX5_joined_111 : decode cX5_joined 111 = .ok (.iload_n 2, 1) := by decide +kernel
theorem dX5_joined_112 : decode cX5_joined 112 = .ok (.imul, 1) := by decide +kernel
theorem dX5_joined_113 : decode cX5_joined 113 = .ok (.ireturn, 1) := by decide +kernel
theorem dX6_init_0 : decode cX6_init 0 = .ok (.aload_n 0, 1) := by decide +kernel
theorem dX6_init_1 : decode cX6_init 1 = .ok (.invokespecial 3, 3) := by decide +kernel
theorem dX6_init_4 : decode cX6_init 4 = .ok (.aload_n 0, 1) := by decide +kernel
theorem dX6_init_5 : decode cX6_init 5 = .ok (.new 9, 3) := by decide +kernel
theorem dX6_init_8 : decode cX6_init 8 = .ok (.dup, 1) := by decide +kernel
theorem dX6_init_9 : decode cX6_init 9 = .ok (.invokespecial 11, 3) := by decide +kernel
theorem dX6_init_12 : decode cX6_init 12 = .ok (.putfield 12, 3) := by decide +kernel
theorem dX6_init_15 : decode cX6_init 15 = .ok (.aload_n 0, 1) := by decide +kernel
theorem dX6_init_16 : decode cX6_init 16 = .ok (.new 9, 3) := by decide +kernel
theorem dX6_init_19 : decode cX6_init 19 = .ok (.dup, 1) := by decide +kernel
theorem dX6_init_20 : decode cX6_init 20 = .ok (.invokespecial 11, 3) := by decide +kernel
theorem dX6_init_23 : decode cX6_init 23 = .ok (.putfield 16, 3) := by decide +kernel
theorem dX6_init_26 : decode cX6_init 26 = .ok (.aload_n 0, 1) := by decide +kernel
theorem dX6_init_27 : decode cX6_init 27 = .ok (.new 9, 3) := by decide +kernel
theorem dX6_init_30 : decode cX6_init 30 = .ok (.dup, 1) := by decide +kernel
theorem dX6_init_31 : decode cX6_init 31 = .ok (.invokespecial 11, 3) := by decide +kernel
theorem dX6_init_34 : decode cX6_init 34 = .ok (.putfield 19, 3) := by decide +kernel
theorem dX6_init_37 : decode cX6_init 37 = .ok (.aload_n 0, 1) := by decide +kernel
theorem dX6_init_38 : decode cX6_init 38 = .ok (.iconst 0, 1) := by decide +kernel
theorem dX6_init_39 : decode cX6_init 39 = .ok (.putfield 22, 3) := by decide +kernel
theorem dX6_init_42 : decode cX6_init 42 = .ok (.aload_n 0, 1) := by decide +kernel
theorem dX6_init_43 : decode cX6_init 43 = .ok (.new 26, 3) := by decide +kernel
theorem dX6_init_46 : decode cX6_init 46 = .ok (.dup, 1) := by decide +kernel
theorem dX6_init_47 : decode cX6_init 47 = .ok (.invokespecial 28, 3) := by decide +kernel
theorem dX6_init_50 : decode cX6_init 50 = .ok (.putfield 29, 3) := by decide +kernel
theorem dX6_init_53 : decode cX6_init 53 = .ok (.aload_n 0, 1) := by decide +kernel
theorem dX6_init_54 : decode cX6_init 54 = .ok (.bipush 6, 2) := by decide +kernel
theorem dX6_init_56 : decode cX6_init 56 = .ok (.anewarray 33, 3) := by decide +kernel
theorem dX6_init_59 : decode cX6_init 59 = .ok (.putfield 35, 3) := by decide +kernel
theorem dX6_init_62 : decode cX6_init 62 = .ok (.aload_n 0, 1) := by decide +kernel
theorem dX6_init_63 : decode cX6_init 63 = .ok (.iconst 1, 1) := by decide +kernel
theorem dX6_init_64 : decode cX6_init 64 = .ok (.putfield 39, 3) := by decide +kernel
theorem dX6_init_67 : decode cX6_init 67 = .ok (.aload_n 0, 1) := by decide +kernel
theorem dX6_init_68 : decode cX6_init 68 = .ok (.new 43, 3) := by decide +kernel
theorem dX6_init_71 : decode cX6_init 71 = .ok (.dup, 1) := by decide +kernel
theorem dX6_init_72 : decode cX6_init 72 = .ok (.invokespecial 45, 3) := by decide +kernel
theorem dX6_init_75 : decode cX6_init 75 = .ok (.putfield 46, 3) := by decide +kernel
theorem dX6_init_78 : decode cX6_init 78 = .ok (.aload_n 0, 1) := by decide +kernel
theorem dX6_init_79 : decode cX6_init 79 = .ok (.new 50, 3) := by decide +kernel
theorem dX6_init_82 : decode cX6_init 82 = .ok (.dup, 1) := by decide +kernel
theorem dX6_init_83 : decode cX6_init 83 = .ok (.invokespecial 52, 3) := by decide +kernel
theorem dX6_init_86 : decode cX6_init 86 = .ok (.putfield 53, 3) := by decide +kernel
theorem dX6_init_89 : decode cX6_init 89 = .ok (.aload_n 0, 1) := by decide +kernel
theorem dX6_init_90 : decode cX6_init 90 = .ok (.iconst 4, 1) := by decide +kernel
theorem dX6_init_91 : decode cX6_init 91 = .ok (.anewarray 57, 3) := by decide +kernel
theorem dX6_init_94 : decode cX6_init 94 = .ok (.putfield 59, 3) := by decide +kernel
theorem dX6_init_97 : decode cX6_init 97 = .ok (.iconst 0, 1) := by decide +kernel
theorem dX6_init_98 : decode cX6_init 98 = .ok (.istore_n 1, 1) := by decide +kernel
theorem dX6_init_99 : decode cX6_init 99 = .ok (.iload_n 1, 1) := by decide +kernel
theorem dX6_init_100 : decode cX6_init 100 = .ok (.iconst 4, 1) := by decide +kernel
theorem dX6_init_101 : decode cX6_init 101 = .ok (.if_icmp .ge 22, 3) := by decide +kernel
theorem dX6_init_104 : decode cX6_init 104 = .ok (.aload_n 0, 1) := by decide +kernel
theorem dX6_init_105 : decode cX6_init 105 = .ok (.getfield 59, 3) := by decide +kernel
theorem dX6_init_108 : decode cX6_init 108 = .ok (.iload_n 1, 1) := by decide +kernel
theorem dX6_init_109 : decode cX6_init 109 = .ok (.new 57, 3) := by decide +kernel
theorem dX6_init_112 : decode cX6_init 112 = .ok (.dup, 1) := by decide +kernel
theorem dX6_init_113 : decode cX6_init 113 = .ok (.invokespecial 63, 3) := by decide +kernel
theorem dX6_init_116 : decode cX6_init 116 = .ok (.aastore, 1) := by decide +kernel
theorem dX6_init_117 : decode cX6_init 117 = .ok (.iinc 1 1, 3) := by decide +kernel
theorem dX6_init_120 : decode cX6_init 120 = .ok (.goto (-21), 3) := by decide +kernel
theorem dX6_init_123 : decode cX6_init 123 = .ok (.iconst 0, 1) := by decide +kernel
theorem dX6_init_124 : decode cX6_init 124 = .ok (.istore_n 1, 1) := by decide +kernel
theorem dX6_init_125 : decode cX6_init 125 = .ok (.iload_n 1, 1) := by decide +kernel
theorem dX6_init_126 : decode cX6_init 126 = .ok (.ldc 64, 2) := by decide +kernel
theorem dX6_init_128 : decode cX6_init 128 = .ok (.invokevirtual 66, 3) := by decide +kernel
theorem dX6_init_131 : decode cX6_init 131 = .ok (.if_icmp .ge 22, 3) := by decide +kernel
theorem dX6_init_134 : decode cX6_init 134 = .ok (.aload_n 0, 1) := by decide +kernel
theorem dX6_init_135 : decode cX6_init 135 = .ok (.getfield 29, 3) := by decide +kernel
theorem dX6_init_138 : decode cX6_init 138 = .ok (.ldc 64, 2) := by decide +kernel
theorem dX6_init_140 : decode cX6_init 140 = .ok (.iload_n 1, 1) := by decide +kernel
theorem dX6_init_141 : decode cX6_init 141 = .ok (.invokevirtual 72, 3) := by decide +kernel
theorem dX6_init_144 : decode cX6_init 144 = .ok (.invokevirtual 76, 3) := by decide +kernel
theorem dX6_init_147 : decode cX6_init 147 = .ok (.iinc 1 1, 3) := by decide +kernel
theorem dX6_init_150 : decode cX6_init 150 = .ok (.goto (-25), 3) := by decide +kernel
theorem dX6_init_153 : decode cX6_init 153 = .ok (.aload_n 0, 1) := by decide +kernel
theorem dX6_init_154 : decode cX6_init 154 = .ok (.getfield 35, 3) := by decide +kernel
theorem dX6_init_157 : decode cX6_init 157 = .ok (.iconst 0, 1) := by decide +kernel
theorem dX6_init_158 : decode cX6_init 158 = .ok (.aload_n 0, 1) := by decide +kernel
theorem dX6_init_159 : decode cX6_init 159 = .ok (.getfield 29, 3) := by decide +kernel
theorem dX6_init_162 : decode cX6_init 162 = .ok (.invokevirtual 80, 3) := by decide +kernel
theorem dX6_init_165 : decode cX6_init 165 = .ok (.aastore, 1) := by decide +kernel
theorem dX6_init_166 : decode cX6_init 166 = .ok (.return_, 1) := by decide +kernel
theorem dX6_set_0 : decode cX6_set 0 = .ok (.aload_n 0, 1) := by decide +kernel
theorem dX6_set_1 : decode cX6_set 1 = .ok (.iload_n 1, 1) := by decide +kernel
theorem dX6_set_2 : decode cX6_set 2 = .ok (.iload_n 2, 1) := by decide +kernel
theorem dX6_set_3 : decode cX6_set 3 = .ok (.iload_n 3, 1) := by decide +kernel
theorem dX6_set_4 : decode cX6_set 4 = .ok (.invokevirtual 84, 3) := by decide +kernel
theorem dX6_set_7 : decode cX6_set 7 = .ok (.ifCond .ne 6, 3) := by decide +kernel
theorem dX6_set_10 : decode cX6_set 10 = .ok (.bipush (-2), 2) := by decide +kernel
theorem dX6_set_12 : decode cX6_set 12 = .ok (.ireturn, 1) := by decide +kernel
theorem dX6_set_13 : decode cX6_set 13 = .ok (.aload_n 0, 1) := by decide +kernel
theorem dX6_set_14 : decode cX6_set 14 = .ok (.getfield 12, 3) := by decide +kernel
theorem dX6_set_17 : decode cX6_set 17 = .ok (.iload_n 2, 1) := by decide +kernel
theorem dX6_set_18 : decode cX6_set 18 = .ok (.iload_n 1, 1) := by decide +kernel
theorem dX6_set_19 : decode cX6_set 19 = .ok (.invokevirtual 88, 3) := by decide +kernel
theorem dX6_set_22 : decode cX6_set 22 = .ok (.istore 4, 2) := by decide +kernel
theorem dX6_set_24 : decode cX6_set 24 = .ok (.aload_n 0, 1) := by decide +kernel
theorem dX6_set_25 : decode cX6_set 25 = .ok (.getfield 12, 3) := by decide +kernel
theorem dX6_set_28 : decode cX6_set 28 = .ok (.iload_n 1, 1) := by decide +kernel
theorem dX6_set_29 : decode cX6_set 29 = .ok (.iload_n 2, 1) := by decide +kernel
theorem dX6_set_30 : decode cX6_set 30 = .ok (.iload_n 3, 1) := by decide +kernel
theorem dX6_set_31 : decode cX6_set 31 = .ok (.invokevirtual 92, 3) := by decide +kernel
theorem dX6_set_34 : decode cX6_set 34 = .ok (.iload 4, 2) := by decide +kernel
theorem dX6_set_36 : decode cX6_set 36 = .ok (.ireturn, 1) := by decide +kernel
theorem dX6_maySet_0 : decode cX6_maySet 0 = .ok (.iload_n 1, 1) := by decide +kernel
theorem dX6_maySet_1 : decode cX6_maySet 1 = .ok (.tableswitch 117 0 5 #[39, 39, 39, 44, 61, 88], 39) := by decide +kernel
theorem dX6_maySet_40 : decode cX6_maySet 40 = .ok (.iload_n 3, 1) := by decide +kernel
theorem dX6_maySet_41 : decode cX6_maySet 41 = .ok (.invokestatic 96, 3) := by decide +kernel
theorem dX6_maySet_44 : decode cX6_maySet 44 = .ok (.ireturn, 1) := by decide +kernel
theorem dX6_maySet_45 : decode cX6_maySet 45 = .ok (.iload_n 3, 1) := by decide +kernel
theorem dX6_maySet_46 : decode cX6_maySet 46 = .ok (.ifCond .lt 14, 3) := by decide +kernel
theorem dX6_maySet_49 : decode cX6_maySet 49 = .ok (.iload_n 3, 1) := by decide +kernel
theorem dX6_maySet_50 : decode cX6_maySet 50 = .ok (.sipush 999, 3) := by decide +kernel
theorem dX6_maySet_53 : decode cX6_maySet 53 = .ok (.if_icmp .gt 7, 3) := by decide +kernel
theorem dX6_maySet_56 : decode cX6_maySet 56 = .ok (.iconst 1, 1) := by decide +kernel
theorem dX6_maySet_57 : decode cX6_maySet 57 = .ok (.goto 4, 3) := by decide +kernel
theorem dX6_maySet_60 : decode cX6_maySet 60 = .ok (.iconst 0, 1) := by decide +kernel
theorem dX6_maySet_61 : decode cX6_maySet 61 = .ok (.ireturn, 1) := by decide +kernel
theorem dX6_maySet_62 : decode cX6_maySet 62 = .ok (.aload_n 0, 1) := by decide +kernel
theorem dX6_maySet_63 : decode cX6_maySet 63 = .ok (.getfield 12, 3) := by decide +kernel
theorem dX6_maySet_66 : decode cX6_maySet 66 = .ok (.iload_n 2, 1) := by decide +kernel
theorem dX6_maySet_67 : decode cX6_maySet 67 = .ok (.invokevirtual 100, 3) := by decide +kernel
theorem dX6_maySet_70 : decode cX6_maySet 70 = .ok (.ifCond .eq 17, 3) := by decide +kernel
theorem dX6_maySet_73 : decode cX6_maySet 73 = .ok (.iload_n 3, 1) := by decide +kernel
theorem dX6_maySet_74 : decode cX6_maySet 74 = .ok (.ifCond .lt 13, 3) := by decide +kernel
theorem dX6_maySet_77 : decode cX6_maySet 77 = .ok (.iload_n 3, 1) := by decide +kernel
theorem dX6_maySet_78 : decode cX6_maySet 78 = .ok (.bipush 10, 2) := by decide +kernel
theorem dX6_maySet_80 : decode cX6_maySet 80 = .ok (.if_icmp .ge 7, 3) := by decide +kernel
theorem dX6_maySet_83 : decode cX6_maySet 83 = .ok (.iconst 1, 1) := by decide +kernel
theorem dX6_maySet_84 : decode cX6_maySet 84 = .ok (.goto 4, 3) := by decide +kernel
theorem dX6_maySet_87 : decode cX6_maySet 87 = .ok (.iconst 0, 1) := by decide +kernel
theorem dX6_maySet_88 : decode cX6_maySet 88 = .ok (.ireturn, 1) := by decide +kernel
theorem dX6_maySet_89 : decode cX6_maySet 89 = .ok (.aload_n 0, 1) := by decide +kernel
theorem dX6_maySet_90 : decode cX6_maySet 90 = .ok (.getfield 12, 3) := by decide +kernel
theorem dX6_maySet_93 : decode cX6_maySet 93 = .ok (.iload_n 2, 1) := by decide +kernel
theorem dX6_maySet_94 : decode cX6_maySet 94 = .ok (.invokevirtual 100, 3) := by decide +kernel
theorem dX6_maySet_97 : decode cX6_maySet 97 = .ok (.ifCond .eq 19, 3) := by decide +kernel
theorem dX6_maySet_100 : decode cX6_maySet 100 = .ok (.aload_n 0, 1) := by decide +kernel
theorem dX6_maySet_101 : decode cX6_maySet 101 = .ok (.getfield 12, 3) := by decide +kernel
theorem dX6_maySet_104 : decode cX6_maySet 104 = .ok (.iload_n 2, 1) := by decide +kernel
theorem dX6_maySet_105 : decode cX6_maySet 105 = .ok (.iload_n 3, 1) := by decide +kernel
theorem dX6_maySet_106 : decode cX6_maySet 106 = .ok (.invokevirtual 103, 3) := by decide +kernel
theorem dX6_maySet_109 : decode cX6_maySet 109 = .ok (.ifCond .eq 7, 3) := by decide +kernel
theorem dX6_maySet_112 : decode cX6_maySet 112 = .ok (.iconst 1, 1) := by decide +kernel
theorem dX6_maySet_113 : decode cX6_maySet 113 = .ok (.goto 4, 3) := by decide +kernel
theorem dX6_maySet_116 : decode cX6_maySet 116 = .ok (.iconst 0, 1) := by decide +kernel
theorem dX6_maySet_117 : decode cX6_maySet 117 = .ok (.ireturn, 1) := by decide +kernel
theorem dX6_maySet_118 : decode cX6_maySet 118 = .ok (.iconst 0, 1) := by decide +kernel
theorem dX6_maySet_119 : decode cX6_maySet 119 = .ok (.ireturn, 1) := by decide +kernel
