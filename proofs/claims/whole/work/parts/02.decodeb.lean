/-! decode rows of X3. Printed by wip/gen/names.py. -/
theorem dX3_init_0 : decode cX3_init 0 = .ok (.aload_n 0, 1) := by decide +kernel
theorem dX3_init_1 : decode cX3_init 1 = .ok (.invokespecial 3, 3) := by decide +kernel
theorem dX3_init_4 : decode cX3_init 4 = .ok (.aload_n 0, 1) := by decide +kernel
theorem dX3_init_5 : decode cX3_init 5 = .ok (.bipush 6, 2) := by decide +kernel
theorem dX3_init_7 : decode cX3_init 7 = .ok (.anewarray 9, 3) := by decide +kernel
theorem dX3_init_10 : decode cX3_init 10 = .ok (.putfield 11, 3) := by decide +kernel
theorem dX3_init_13 : decode cX3_init 13 = .ok (.aload_n 0, 1) := by decide +kernel
theorem dX3_init_14 : decode cX3_init 14 = .ok (.bipush 12, 2) := by decide +kernel
theorem dX3_init_16 : decode cX3_init 16 = .ok (.anewarray 15, 3) := by decide +kernel
theorem dX3_init_19 : decode cX3_init 19 = .ok (.putfield 17, 3) := by decide +kernel
theorem dX3_init_22 : decode cX3_init 22 = .ok (.aload_n 0, 1) := by decide +kernel
theorem dX3_init_23 : decode cX3_init 23 = .ok (.bipush 40, 2) := by decide +kernel
theorem dX3_init_25 : decode cX3_init 25 = .ok (.newarray .boolean, 2) := by decide +kernel
theorem dX3_init_27 : decode cX3_init 27 = .ok (.putfield 21, 3) := by decide +kernel
theorem dX3_init_30 : decode cX3_init 30 = .ok (.aload_n 0, 1) := by decide +kernel
theorem dX3_init_31 : decode cX3_init 31 = .ok (.new 25, 3) := by decide +kernel
theorem dX3_init_34 : decode cX3_init 34 = .ok (.dup, 1) := by decide +kernel
theorem dX3_init_35 : decode cX3_init 35 = .ok (.invokespecial 27, 3) := by decide +kernel
theorem dX3_init_38 : decode cX3_init 38 = .ok (.putfield 28, 3) := by decide +kernel
theorem dX3_init_41 : decode cX3_init 41 = .ok (.aload_n 0, 1) := by decide +kernel
theorem dX3_init_42 : decode cX3_init 42 = .ok (.sipush 365, 3) := by decide +kernel
theorem dX3_init_45 : decode cX3_init 45 = .ok (.putfield 32, 3) := by decide +kernel
theorem dX3_init_48 : decode cX3_init 48 = .ok (.return_, 1) := by decide +kernel
theorem dX3_day_0 : decode cX3_day 0 = .ok (.iload_n 1, 1) := by decide +kernel
theorem dX3_day_1 : decode cX3_day 1 = .ok (.aload_n 0, 1) := by decide +kernel
theorem dX3_day_2 : decode cX3_day 2 = .ok (.getfield 36, 3) := by decide +kernel
theorem dX3_day_5 : decode cX3_day 5 = .ok (.if_icmp .lt 9, 3) := by decide +kernel
theorem dX3_day_8 : decode cX3_day 8 = .ok (.iload_n 1, 1) := by decide +kernel
theorem dX3_day_9 : decode cX3_day 9 = .ok (.ldc 39, 2) := by decide +kernel
theorem dX3_day_11 : decode cX3_day 11 = .ok (.if_icmp .le 5, 3) := by decide +kernel
theorem dX3_day_14 : decode cX3_day 14 = .ok (.iconst (-1), 1) := by decide +kernel
theorem dX3_day_15 : decode cX3_day 15 = .ok (.ireturn, 1) := by decide +kernel
theorem dX3_day_16 : decode cX3_day 16 = .ok (.aload_n 0, 1) := by decide +kernel
theorem dX3_day_17 : decode cX3_day 17 = .ok (.iload_n 1, 1) := by decide +kernel
theorem dX3_day_18 : decode cX3_day 18 = .ok (.putfield 36, 3) := by decide +kernel
theorem dX3_day_21 : decode cX3_day 21 = .ok (.iconst 0, 1) := by decide +kernel
theorem dX3_day_22 : decode cX3_day 22 = .ok (.istore_n 2, 1) := by decide +kernel
theorem dX3_day_23 : decode cX3_day 23 = .ok (.iconst 0, 1) := by decide +kernel
theorem dX3_day_24 : decode cX3_day 24 = .ok (.istore_n 3, 1) := by decide +kernel
theorem dX3_day_25 : decode cX3_day 25 = .ok (.iload_n 3, 1) := by decide +kernel
theorem dX3_day_26 : decode cX3_day 26 = .ok (.aload_n 0, 1) := by decide +kernel
theorem dX3_day_27 : decode cX3_day 27 = .ok (.getfield 40, 3) := by decide +kernel
theorem dX3_day_30 : decode cX3_day 30 = .ok (.if_icmp .ge 30, 3) := by decide +kernel
theorem dX3_day_33 : decode cX3_day 33 = .ok (.aload_n 0, 1) := by decide +kernel
theorem dX3_day_34 : decode cX3_day 34 = .ok (.iload_n 3, 1) := by decide +kernel
theorem dX3_day_35 : decode cX3_day 35 = .ok (.invokevirtual 43, 3) := by decide +kernel
theorem dX3_day_38 : decode cX3_day 38 = .ok (.astore 4, 2) := by decide +kernel
theorem dX3_day_40 : decode cX3_day 40 = .ok (.aload 4, 2) := by decide +kernel
theorem dX3_day_42 : decode cX3_day 42 = .ok (.ifnull 12, 3) := by decide +kernel
theorem dX3_day_45 : decode cX3_day 45 = .ok (.iload_n 2, 1) := by decide +kernel
theorem dX3_day_46 : decode cX3_day 46 = .ok (.aload 4, 2) := by decide +kernel
theorem dX3_day_48 : decode cX3_day 48 = .ok (.iload_n 1, 1) := by decide +kernel
theorem dX3_day_49 : decode cX3_day 49 = .ok (.invokevirtual 47, 3) := by decide +kernel
theorem dX3_day_52 : decode cX3_day 52 = .ok (.iadd, 1) := by decide +kernel
theorem dX3_day_53 : decode cX3_day 53 = .ok (.istore_n 2, 1) := by decide +kernel
theorem dX3_day_54 : decode cX3_day 54 = .ok (.iinc 3 1, 3) := by decide +kernel
theorem dX3_day_57 : decode cX3_day 57 = .ok (.goto (-32), 3) := by decide +kernel
theorem dX3_day_60 : decode cX3_day 60 = .ok (.iload_n 2, 1) := by decide +kernel
theorem dX3_day_61 : decode cX3_day 61 = .ok (.ireturn, 1) := by decide +kernel
theorem dX3_notice_0 : decode cX3_notice 0 = .ok (.aload_n 0, 1) := by decide +kernel
theorem dX3_notice_1 : decode cX3_notice 1 = .ok (.getfield 40, 3) := by decide +kernel
theorem dX3_notice_4 : decode cX3_notice 4 = .ok (.bipush 6, 2) := by decide +kernel
theorem dX3_notice_6 : decode cX3_notice 6 = .ok (.if_icmp .ge 17, 3) := by decide +kernel
theorem dX3_notice_9 : decode cX3_notice 9 = .ok (.lload_n 1, 1) := by decide +kernel
theorem dX3_notice_10 : decode cX3_notice 10 = .ok (.lconst 1, 1) := by decide +kernel
theorem dX3_notice_11 : decode cX3_notice 11 = .ok (.lcmp, 1) := by decide +kernel
theorem dX3_notice_12 : decode cX3_notice 12 = .ok (.ifCond .lt 11, 3) := by decide +kernel
theorem dX3_notice_15 : decode cX3_notice 15 = .ok (.lload_n 1, 1) := by decide +kernel
theorem dX3_notice_16 : decode cX3_notice 16 = .ok (.ldc2_w 51, 3) := by decide +kernel
theorem dX3_notice_19 : decode cX3_notice 19 = .ok (.lcmp, 1) := by decide +kernel
theorem dX3_notice_20 : decode cX3_notice 20 = .ok (.ifCond .le 5, 3) := by decide +kernel
theorem dX3_notice_23 : decode cX3_notice 23 = .ok (.iconst (-1), 1) := by decide +kernel
theorem dX3_notice_24 : decode cX3_notice 24 = .ok (.ireturn, 1) := by decide +kernel
theorem dX3_notice_25 : decode cX3_notice 25 = .ok (.iload_n 3, 1) := by decide +kernel
theorem dX3_notice_26 : decode cX3_notice 26 = .ok (.ifCond .lt 16, 3) := by decide +kernel
theorem dX3_notice_29 : decode cX3_notice 29 = .ok (.iload 4, 2) := by decide +kernel
theorem dX3_notice_31 : decode cX3_notice 31 = .ok (.iload_n 3, 1) := by decide +kernel
theorem dX3_notice_32 : decode cX3_notice 32 = .ok (.if_icmp .lt 10, 3) := by decide +kernel
theorem dX3_notice_35 : decode cX3_notice 35 = .ok (.iload 4, 2) := by decide +kernel
theorem dX3_notice_37 : decode cX3_notice 37 = .ok (.ldc 39, 2) := by decide +kernel
theorem dX3_notice_39 : decode cX3_notice 39 = .ok (.if_icmp .le 5, 3) := by decide +kernel
theorem dX3_notice_42 : decode cX3_notice 42 = .ok (.iconst (-1), 1) := by decide +kernel
theorem dX3_notice_43 : decode cX3_notice 43 = .ok (.ireturn, 1) := by decide +kernel
theorem dX3_notice_44 : decode cX3_notice 44 = .ok (.aload_n 0, 1) := by decide +kernel
theorem dX3_notice_45 : decode cX3_notice 45 = .ok (.getfield 40, 3) := by decide +kernel
theorem dX3_notice_48 : decode cX3_notice 48 = .ok (.istore 5, 2) := by decide +kernel
theorem dX3_notice_50 : decode cX3_notice 50 = .ok (.aload_n 0, 1) := by decide +kernel
theorem dX3_notice_51 : decode cX3_notice 51 = .ok (.getfield 11, 3) := by decide +kernel
theorem dX3_notice_54 : decode cX3_notice 54 = .ok (.iload 5, 2) := by decide +kernel
theorem dX3_notice_56 : decode cX3_notice 56 = .ok (.new 9, 3) := by decide +kernel
theorem dX3_notice_59 : decode cX3_notice 59 = .ok (.dup, 1) := by decide +kernel
theorem dX3_notice_60 : decode cX3_notice 60 = .ok (.lload_n 1, 1) := by decide +kernel
theorem dX3_notice_61 : decode cX3_notice 61 = .ok (.iload_n 3, 1) := by decide +kernel
theorem dX3_notice_62 : decode cX3_notice 62 = .ok (.iload 4, 2) := by decide +kernel
theorem dX3_notice_64 : decode cX3_notice 64 = .ok (.invokespecial 53, 3) := by decide +kernel
theorem dX3_notice_67 : decode cX3_notice 67 = .ok (.aastore, 1) := by decide +kernel
theorem dX3_notice_68 : decode cX3_notice 68 = .ok (.aload_n 0, 1) := by decide +kernel
theorem dX3_notice_69 : decode cX3_notice 69 = .ok (.dup, 1) := by decide +kernel
theorem dX3_notice_70 : decode cX3_notice 70 = .ok (.getfield 40, 3) := by decide +kernel
theorem dX3_notice_73 : decode cX3_notice 73 = .ok (.iconst 1, 1) := by decide +kernel
theorem dX3_notice_74 : decode cX3_notice 74 = .ok (.iadd, 1) := by decide +kernel
theorem dX3_notice_75 : decode cX3_notice 75 = .ok (.putfield 40, 3) := by decide +kernel
theorem dX3_notice_78 : decode cX3_notice 78 = .ok (.iload 5, 2) := by decide +kernel
theorem dX3_notice_80 : decode cX3_notice 80 = .ok (.ireturn, 1) := by decide +kernel
theorem dX3_country_0 : decode cX3_country 0 = .ok (.aload_n 0, 1) := by decide +kernel
theorem dX3_country_1 : decode cX3_country 1 = .ok (.iload_n 1, 1) := by decide +kernel
theorem dX3_country_2 : decode cX3_country 2 = .ok (.invokevirtual 43, 3) := by decide +kernel
theorem dX3_country_5 : decode cX3_country 5 = .ok (.astore 4, 2) := by decide +kernel
theorem dX3_country_7 : decode cX3_country 7 = .ok (.aload 4, 2) := by decide +kernel
theorem dX3_country_9 : decode cX3_country 9 = .ok (.ifnull 14, 3) := by decide +kernel
theorem dX3_country_12 : decode cX3_country 12 = .ok (.iload_n 3, 1) := by decide +kernel
theorem dX3_country_13 : decode cX3_country 13 = .ok (.ifCond .lt 10, 3) := by decide +kernel
theorem dX3_country_16 : decode cX3_country 16 = .ok (.iload_n 3, 1) := by decide +kernel
theorem dX3_country_17 : decode cX3_country 17 = .ok (.sipush 1000, 3) := by decide +kernel
theorem dX3_country_20 : decode cX3_country 20 = .ok (.if_icmp .le 5, 3) := by decide +kernel
theorem dX3_country_23 : decode cX3_country 23 = .ok (.iconst 0, 1) := by decide +kernel
theorem dX3_country_24 : decode cX3_country 24 = .ok (.ireturn, 1) := by decide +kernel
theorem dX3_country_25 : decode cX3_country 25 = .ok (.aload 4, 2) := by decide +kernel
theorem dX3_country_27 : decode cX3_country 27 = .ok (.iload_n 2, 1) := by decide +kernel
theorem dX3_country_28 : decode cX3_country 28 = .ok (.iload_n 3, 1) := by decide +kernel
theorem dX3_country_29 : decode cX3_country 29 = .ok (.aload_n 0, 1) := by decide +kernel
theorem dX3_country_30 : decode cX3_country 30 = .ok (.getfield 36, 3) := by decide +kernel
theorem dX3_country_33 : decode cX3_country 33 = .ok (.invokevirtual 56, 3) := by decide +kernel
theorem dX3_country_36 : decode cX3_country 36 = .ok (.ireturn, 1) := by decide +kernel
theorem dX3_says_0 : decode cX3_says 0 = .ok (.aload_n 0, 1) := by decide +kernel
theorem dX3_says_1 : decode cX3_says 1 = .ok (.iload_n 1, 1) := by decide +kernel
theorem dX3_says_2 : decode cX3_says 2 = .ok (.invokevirtual 43, 3) := by decide +kernel
theorem dX3_says_5 : decode cX3_says 5 = .ok (.astore 4, 2) := by decide +kernel
theorem dX3_says_7 : decode cX3_says 7 = .ok (.aload 4, 2) := by decide +kernel
theorem dX3_says_9 : decode cX3_says 9 = .ok (.ifnull 17, 3) := by decide +kernel
theorem dX3_says_12 : decode cX3_says 12 = .ok (.aload 4, 2) := by decide +kernel
theorem dX3_says_14 : decode cX3_says 14 = .ok (.iload_n 2, 1) := by decide +kernel
theorem dX3_says_15 : decode cX3_says 15 = .ok (.iload_n 3, 1) := by decide +kernel
theorem dX3_says_16 : decode cX3_says 16 = .ok (.invokevirtual 60, 3) := by decide +kernel
theorem dX3_says_19 : decode cX3_says 19 = .ok (.ifCond .eq 7, 3) := by decide +kernel
theorem dX3_says_22 : decode cX3_says 22 = .ok (.iconst 1, 1) := by decide +kernel
theorem dX3_says_23 : decode cX3_says 23 = .ok (.goto 4, 3) := by decide +kernel
theorem dX3_says_26 : decode cX3_says 26 = .ok (.iconst 0, 1) := by decide +kernel
theorem dX3_says_27 : decode cX3_says 27 = .ok (.ireturn, 1) := by decide +kernel
theorem dX3_state_0 : decode cX3_state 0 = .ok (.aload_n 0, 1) := by decide +kernel
theorem dX3_state_1 : decode cX3_state 1 = .ok (.iload_n 1, 1) := by decide +kernel
theorem dX3_state_2 : decode cX3_state 2 = .ok (.invokevirtual 43, 3) := by decide +kernel
theorem dX3_state_5 : decode cX3_state 5 = .ok (.astore_n 2, 1) := by decide +kernel
theorem dX3_state_6 : decode cX3_state 6 = .ok (.aload_n 2, 1) := by decide +kernel
theorem dX3_state_7 : decode cX3_state 7 = .ok (.ifnonnull 7, 3) := by decide +kernel
theorem dX3_state_10 : decode cX3_state 10 = .ok (.iconst (-1), 1) := by decide +kernel
theorem dX3_state_11 : decode cX3_state 11 = .ok (.goto 11, 3) := by decide +kernel
theorem dX3_state_14 : decode cX3_state 14 = .ok (.aload_n 2, 1) := by decide +kernel
theorem dX3_state_15 : decode cX3_state 15 = .ok (.aload_n 0, 1) := by decide +kernel
theorem dX3_state_16 : decode cX3_state 16 = .ok (.getfield 36, 3) := by decide +kernel
theorem dX3_state_19 : decode cX3_state 19 = .ok (.invokevirtual 64, 3) := by decide +kernel
theorem dX3_state_22 : decode cX3_state 22 = .ok (.ireturn, 1) := by decide +kernel
theorem dX3_move_0 : decode cX3_move 0 = .ok (.aload_n 0, 1) := by decide +kernel
theorem dX3_move_1 : decode cX3_move 1 = .ok (.iload_n 1, 1) := by decide +kernel
theorem dX3_move_2 : decode cX3_move 2 = .ok (.invokevirtual 43, 3) := by decide +kernel
theorem dX3_move_5 : decode cX3_move 5 = .ok (.astore 5, 2) := by decide +kernel
theorem dX3_move_7 : decode cX3_move 7 = .ok (.aload 5, 2) := by decide +kernel
theorem dX3_move_9 : decode cX3_move 9 = .ok (.ifnull 18, 3) := by decide +kernel
theorem dX3_move_12 : decode cX3_move 12 = .ok (.aload_n 0, 1) := by decide +kernel
theorem dX3_move_13 : decode cX3_move 13 = .ok (.getfield 67, 3) := by decide +kernel
theorem dX3_move_16 : decode cX3_move 16 = .ok (.bipush 12, 2) := by decide +kernel
theorem dX3_move_18 : decode cX3_move 18 = .ok (.if_icmp .ge 9, 3) := by decide +kernel
theorem dX3_move_21 : decode cX3_move 21 = .ok (.lload_n 2, 1) := by decide +kernel
theorem dX3_move_22 : decode cX3_move 22 = .ok (.lconst 1, 1) := by decide +kernel
theorem dX3_move_23 : decode cX3_move 23 = .ok (.lcmp, 1) := by decide +kernel
theorem dX3_move_24 : decode cX3_move 24 = .ok (.ifCond .ge 5, 3) := by decide +kernel
theorem dX3_move_27 : decode cX3_move 27 = .ok (.iconst (-1), 1) := by decide +kernel
theorem dX3_move_28 : decode cX3_move 28 = .ok (.ireturn, 1) := by decide +kernel
theorem dX3_move_29 : decode cX3_move 29 = .ok (.aload 5, 2) := by decide +kernel
theorem dX3_move_31 : decode cX3_move 31 = .ok (.iload 4, 2) := by decide +kernel
theorem dX3_move_33 : decode cX3_move 33 = .ok (.invokevirtual 70, 3) := by decide +kernel
theorem dX3_move_36 : decode cX3_move 36 = .ok (.ifCond .eq 14, 3) := by decide +kernel
theorem dX3_move_39 : decode cX3_move 39 = .ok (.iload 4, 2) := by decide +kernel
theorem dX3_move_41 : decode cX3_move 41 = .ok (.aload_n 0, 1) := by decide +kernel
theorem dX3_move_42 : decode cX3_move 42 = .ok (.getfield 36, 3) := by decide +kernel
theorem dX3_move_45 : decode cX3_move 45 = .ok (.iconst 3, 1) := by decide +kernel
theorem dX3_move_46 : decode cX3_move 46 = .ok (.iadd, 1) := by decide +kernel
theorem dX3_move_47 : decode cX3_move 47 = .ok (.if_icmp .ge 5, 3) := by decide +kernel
theorem dX3_move_50 : decode cX3_move 50 = .ok (.iconst (-1), 1) := by decide +kernel
theorem dX3_move_51 : decode cX3_move 51 = .ok (.ireturn, 1) := by decide +kernel
theorem dX3_move_52 : decode cX3_move 52 = .ok (.aload 5, 2) := by decide +kernel
theorem dX3_move_54 : decode cX3_move 54 = .ok (.aload_n 0, 1) := by decide +kernel
theorem dX3_move_55 : decode cX3_move 55 = .ok (.getfield 36, 3) := by decide +kernel
theorem dX3_move_58 : decode cX3_move 58 = .ok (.invokevirtual 64, 3) := by decide +kernel
theorem dX3_move_61 : decode cX3_move 61 = .ok (.iconst 1, 1) := by decide +kernel
theorem dX3_move_62 : decode cX3_move 62 = .ok (.if_icmp .eq 6, 3) := by decide +kernel
theorem dX3_move_65 : decode cX3_move 65 = .ok (.bipush (-2), 2) := by decide +kernel
theorem dX3_move_67 : decode cX3_move 67 = .ok (.ireturn, 1) := by decide +kernel
theorem dX3_move_68 : decode cX3_move 68 = .ok (.lload_n 2, 1) := by decide +kernel
theorem dX3_move_69 : decode cX3_move 69 = .ok (.aload 5, 2) := by decide +kernel
theorem dX3_move_71 : decode cX3_move 71 = .ok (.getfield 74, 3) := by decide +kernel
theorem dX3_move_74 : decode cX3_move 74 = .ok (.aload_n 0, 1) := by decide +kernel
theorem dX3_move_75 : decode cX3_move 75 = .ok (.iload_n 1, 1) := by decide +kernel
theorem dX3_move_76 : decode cX3_move 76 = .ok (.invokevirtual 78, 3) := by decide +kernel
theorem dX3_move_79 : decode cX3_move 79 = .ok (.lsub, 1) := by decide +kernel
theorem dX3_move_80 : decode cX3_move 80 = .ok (.lcmp, 1) := by decide +kernel
theorem dX3_move_81 : decode cX3_move 81 = .ok (.ifCond .le 6, 3) := by decide +kernel
theorem dX3_move_84 : decode cX3_move 84 = .ok (.bipush (-3), 2) := by decide +kernel
theorem dX3_move_86 : decode cX3_move 86 = .ok (.ireturn, 1) := by decide +kernel
theorem dX3_move_87 : decode cX3_move 87 = .ok (.aload_n 0, 1) := by decide +kernel
theorem dX3_move_88 : decode cX3_move 88 = .ok (.getfield 67, 3) := by decide +kernel
theorem dX3_move_91 : decode cX3_move 91 = .ok (.istore 6, 2) := by decide +kernel
theorem dX3_move_93 : decode cX3_move 93 = .ok (.aload_n 0, 1) := by decide +kernel
theorem dX3_move_94 : decode cX3_move 94 = .ok (.getfield 17, 3) := by decide +kernel
theorem dX3_move_97 : decode cX3_move 97 = .ok (.iload 6, 2) := by decide +kernel
theorem dX3_move_99 : decode cX3_move 99 = .ok (.new 15, 3) := by decide +kernel
theorem dX3_move_102 : decode cX3_move 102 = .ok (.dup, 1) := by decide +kernel
theorem dX3_move_103 : decode cX3_move 103 = .ok (.iload_n 1, 1) := by decide +kernel
theorem dX3_move_104 : decode cX3_move 104 = .ok (.lload_n 2, 1) := by decide +kernel
theorem dX3_move_105 : decode cX3_move 105 = .ok (.iload 4, 2) := by decide +kernel
theorem dX3_move_107 : decode cX3_move 107 = .ok (.aload_n 0, 1) := by decide +kernel
theorem dX3_move_108 : decode cX3_move 108 = .ok (.getfield 36, 3) := by decide +kernel
theorem dX3_move_111 : decode cX3_move 111 = .ok (.invokespecial 82, 3) := by decide +kernel
theorem dX3_move_114 : decode cX3_move 114 = .ok (.aastore, 1) := by decide +kernel
theorem dX3_move_115 : decode cX3_move 115 = .ok (.aload_n 0, 1) := by decide +kernel
theorem dX3_move_116 : decode cX3_move 116 = .ok (.dup, 1) := by decide +kernel
theorem dX3_move_117 : decode cX3_move 117 = .ok (.getfield 67, 3) := by decide +kernel
theorem dX3_move_120 : decode cX3_move 120 = .ok (.iconst 1, 1) := by decide +kernel
theorem dX3_move_121 : decode cX3_move 121 = .ok (.iadd, 1) := by decide +kernel
theorem dX3_move_122 : decode cX3_move 122 = .ok (.putfield 67, 3) := by decide +kernel
theorem dX3_move_125 : decode cX3_move 125 = .ok (.iload 6, 2) := by decide +kernel
theorem dX3_move_127 : decode cX3_move 127 = .ok (.ireturn, 1) := by decide +kernel
theorem dX3_moveState_0 : decode cX3_moveState 0 = .ok (.aload_n 0, 1) := by decide +kernel
theorem dX3_moveState_1 : decode cX3_moveState 1 = .ok (.iload_n 1, 1) := by decide +kernel
theorem dX3_moveState_2 : decode cX3_moveState 2 = .ok (.invokevirtual 85, 3) := by decide +kernel
theorem dX3_moveState_5 : decode cX3_moveState 5 = .ok (.astore_n 2, 1) := by decide +kernel
theorem dX3_moveState_6 : decode cX3_moveState 6 = .ok (.aload_n 2, 1) := by decide +kernel
theorem dX3_moveState_7 : decode cX3_moveState 7 = .ok (.ifnonnull 7, 3) := by decide +kernel
theorem dX3_moveState_10 : decode cX3_moveState 10 = .ok (.iconst (-1), 1) := by decide +kernel
theorem dX3_moveState_11 : decode cX3_moveState 11 = .ok (.goto 7, 3) := by decide +kernel
theorem dX3_moveState_14 : decode cX3_moveState 14 = .ok (.aload_n 2, 1) := by decide +kernel
theorem dX3_moveState_15 : decode cX3_moveState 15 = .ok (.getfield 89, 3) := by decide +kernel
theorem dX3_moveState_18 : decode cX3_moveState 18 = .ok (.ireturn, 1) := by decide +kernel
theorem dX3_right_0 : decode cX3_right 0 = .ok (.iload_n 1, 1) := by decide +kernel
theorem dX3_right_1 : decode cX3_right 1 = .ok (.invokestatic 92, 3) := by decide +kernel
theorem dX3_right_4 : decode cX3_right 4 = .ok (.ifCond .eq 10, 3) := by decide +kernel
theorem dX3_right_7 : decode cX3_right 7 = .ok (.iload_n 2, 1) := by decide +kernel
theorem dX3_right_8 : decode cX3_right 8 = .ok (.invokestatic 95, 3) := by decide +kernel
theorem dX3_right_11 : decode cX3_right 11 = .ok (.ifCond .ne 5, 3) := by decide +kernel
theorem dX3_right_14 : decode cX3_right 14 = .ok (.iconst 0, 1) := by decide +kernel
theorem dX3_right_15 : decode cX3_right 15 = .ok (.ireturn, 1) := by decide +kernel
theorem dX3_right_16 : decode cX3_right 16 = .ok (.aload_n 0, 1) := by decide +kernel
theorem dX3_right_17 : decode cX3_right 17 = .ok (.getfield 21, 3) := by decide +kernel
theorem dX3_right_20 : decode cX3_right 20 = .ok (.iload_n 1, 1) := by decide +kernel
theorem dX3_right_21 : decode cX3_right 21 = .ok (.iconst 5, 1) := by decide +kernel
theorem dX3_right_22 : decode cX3_right 22 = .ok (.imul, 1) := by decide +kernel
theorem dX3_right_23 : decode cX3_right 23 = .ok (.iload_n 2, 1) := by decide +kernel
theorem dX3_right_24 : decode cX3_right 24 = .ok (.iadd, 1) := by decide +kernel
theorem dX3_right_25 : decode cX3_right 25 = .ok (.iload_n 3, 1) := by decide +kernel
theorem dX3_right_26 : decode cX3_right 26 = .ok (.bastore, 1) := by decide +kernel
theorem dX3_right_27 : decode cX3_right 27 = .ok (.iconst 1, 1) := by decide +kernel
theorem dX3_right_28 : decode cX3_right 28 = .ok (.ireturn, 1) := by decide +kernel
theorem dX3_may_0 : decode cX3_may 0 = .ok (.aload_n 0, 1) := by decide +kernel
theorem dX3_may_1 : decode cX3_may 1 = .ok (.iload_n 1, 1) := by decide +kernel
theorem dX3_may_2 : decode cX3_may 2 = .ok (.iload_n 2, 1) := by decide +kernel
theorem dX3_may_3 : decode cX3_may 3 = .ok (.invokevirtual 98, 3) := by decide +kernel
theorem dX3_may_6 : decode cX3_may 6 = .ok (.ireturn, 1) := by decide +kernel
theorem dX3_event_0 : decode cX3_event 0 = .ok (.aload_n 0, 1) := by decide +kernel
theorem dX3_event_1 : decode cX3_event 1 = .ok (.iload_n 1, 1) := by decide +kernel
theorem dX3_event_2 : decode cX3_event 2 = .ok (.invokevirtual 85, 3) := by decide +kernel
theorem dX3_event_5 : decode cX3_event 5 = .ok (.astore 4, 2) := by decide +kernel
theorem dX3_event_7 : decode cX3_event 7 = .ok (.aload 4, 2) := by decide +kernel
theorem dX3_event_9 : decode cX3_event 9 = .ok (.ifnull 17, 3) := by decide +kernel
theorem dX3_event_12 : decode cX3_event 12 = .ok (.iload_n 2, 1) := by decide +kernel
theorem dX3_event_13 : decode cX3_event 13 = .ok (.invokestatic 95, 3) := by decide +kernel
theorem dX3_event_16 : decode cX3_event 16 = .ok (.ifCond .eq 10, 3) := by decide +kernel
theorem dX3_event_19 : decode cX3_event 19 = .ok (.iload_n 3, 1) := by decide +kernel
theorem dX3_event_20 : decode cX3_event 20 = .ok (.invokestatic 92, 3) := by decide +kernel
theorem dX3_event_23 : decode cX3_event 23 = .ok (.ifCond .ne 5, 3) := by decide +kernel
theorem dX3_event_26 : decode cX3_event 26 = .ok (.iconst (-1), 1) := by decide +kernel
theorem dX3_event_27 : decode cX3_event 27 = .ok (.ireturn, 1) := by decide +kernel
theorem dX3_event_28 : decode cX3_event 28 = .ok (.aload_n 0, 1) := by decide +kernel
theorem dX3_event_29 : decode cX3_event 29 = .ok (.iload_n 3, 1) := by decide +kernel
theorem dX3_event_30 : decode cX3_event 30 = .ok (.iload_n 2, 1) := by decide +kernel
theorem dX3_event_31 : decode cX3_event 31 = .ok (.invokevirtual 98, 3) := by decide +kernel
theorem dX3_event_34 : decode cX3_event 34 = .ok (.ifCond .ne 6, 3) := by decide +kernel
theorem dX3_event_37 : decode cX3_event 37 = .ok (.bipush (-2), 2) := by decide +kernel
theorem dX3_event_39 : decode cX3_event 39 = .ok (.ireturn, 1) := by decide +kernel
theorem dX3_event_40 : decode cX3_event 40 = .ok (.iload_n 2, 1) := by decide +kernel
theorem dX3_event_41 : decode cX3_event 41 = .ok (.aload 4, 2) := by decide +kernel
theorem dX3_event_43 : decode cX3_event 43 = .ok (.getfield 89, 3) := by decide +kernel
theorem dX3_event_46 : decode cX3_event 46 = .ok (.invokestatic 102, 3) := by decide +kernel
theorem dX3_event_49 : decode cX3_event 49 = .ok (.istore 5, 2) := by decide +kernel
theorem dX3_event_51 : decode cX3_event 51 = .ok (.iload 5, 2) := by decide +kernel
theorem dX3_event_53 : decode cX3_event 53 = .ok (.iconst (-1), 1) := by decide +kernel
theorem dX3_event_54 : decode cX3_event 54 = .ok (.if_icmp .ne 6, 3) := by decide +kernel
theorem dX3_event_57 : decode cX3_event 57 = .ok (.bipush (-3), 2) := by decide +kernel
theorem dX3_event_59 : decode cX3_event 59 = .ok (.ireturn, 1) := by decide +kernel
theorem dX3_event_60 : decode cX3_event 60 = .ok (.iload_n 2, 1) := by decide +kernel
theorem dX3_event_61 : decode cX3_event 61 = .ok (.ifCond .ne 15, 3) := by decide +kernel
theorem dX3_event_64 : decode cX3_event 64 = .ok (.aload_n 0, 1) := by decide +kernel
theorem dX3_event_65 : decode cX3_event 65 = .ok (.aload 4, 2) := by decide +kernel
theorem dX3_event_67 : decode cX3_event 67 = .ok (.invokevirtual 106, 3) := by decide +kernel
theorem dX3_event_70 : decode cX3_event 70 = .ok (.ifCond .ne 6, 3) := by decide +kernel
theorem dX3_event_73 : decode cX3_event 73 = .ok (.bipush (-4), 2) := by decide +kernel
theorem dX3_event_75 : decode cX3_event 75 = .ok (.ireturn, 1) := by decide +kernel
theorem dX3_event_76 : decode cX3_event 76 = .ok (.iload_n 2, 1) := by decide +kernel
theorem dX3_event_77 : decode cX3_event 77 = .ok (.iconst 2, 1) := by decide +kernel
theorem dX3_event_78 : decode cX3_event 78 = .ok (.if_icmp .ne 14, 3) := by decide +kernel
theorem dX3_event_81 : decode cX3_event 81 = .ok (.aload 4, 2) := by decide +kernel
theorem dX3_event_83 : decode cX3_event 83 = .ok (.getfield 110, 3) := by decide +kernel
theorem dX3_event_86 : decode cX3_event 86 = .ok (.ifCond .ne 6, 3) := by decide +kernel
theorem dX3_event_89 : decode cX3_event 89 = .ok (.bipush (-5), 2) := by decide +kernel
theorem dX3_event_91 : decode cX3_event 91 = .ok (.ireturn, 1) := by decide +kernel
theorem dX3_event_92 : decode cX3_event 92 = .ok (.aload 4, 2) := by decide +kernel
theorem dX3_event_94 : decode cX3_event 94 = .ok (.iload 5, 2) := by decide +kernel
theorem dX3_event_96 : decode cX3_event 96 = .ok (.aload_n 0, 1) := by decide +kernel
theorem dX3_event_97 : decode cX3_event 97 = .ok (.getfield 36, 3) := by decide +kernel
theorem dX3_event_100 : decode cX3_event 100 = .ok (.invokevirtual 114, 3) := by decide +kernel
theorem dX3_event_103 : decode cX3_event 103 = .ok (.iload 5, 2) := by decide +kernel
theorem dX3_event_105 : decode cX3_event 105 = .ok (.ireturn, 1) := by decide +kernel
theorem dX3_mark_0 : decode cX3_mark 0 = .ok (.aload_n 0, 1) := by decide +kernel
theorem dX3_mark_1 : decode cX3_mark 1 = .ok (.iload_n 1, 1) := by decide +kernel
theorem dX3_mark_2 : decode cX3_mark 2 = .ok (.invokevirtual 85, 3) := by decide +kernel
theorem dX3_mark_5 : decode cX3_mark 5 = .ok (.astore 4, 2) := by decide +kernel
theorem dX3_mark_7 : decode cX3_mark 7 = .ok (.aload 4, 2) := by decide +kernel
theorem dX3_mark_9 : decode cX3_mark 9 = .ok (.ifnull 20, 3) := by decide +kernel
theorem dX3_mark_12 : decode cX3_mark 12 = .ok (.aload 4, 2) := by decide +kernel
theorem dX3_mark_14 : decode cX3_mark 14 = .ok (.getfield 89, 3) := by decide +kernel
theorem dX3_mark_17 : decode cX3_mark 17 = .ok (.iconst 2, 1) := by decide +kernel
theorem dX3_mark_18 : decode cX3_mark 18 = .ok (.if_icmp .ne 11, 3) := by decide +kernel
theorem dX3_mark_21 : decode cX3_mark 21 = .ok (.aload 4, 2) := by decide +kernel
theorem dX3_mark_23 : decode cX3_mark 23 = .ok (.getfield 110, 3) := by decide +kernel
theorem dX3_mark_26 : decode cX3_mark 26 = .ok (.ifCond .eq 5, 3) := by decide +kernel
theorem dX3_mark_29 : decode cX3_mark 29 = .ok (.iconst 0, 1) := by decide +kernel
theorem dX3_mark_30 : decode cX3_mark 30 = .ok (.ireturn, 1) := by decide +kernel
theorem dX3_mark_31 : decode cX3_mark 31 = .ok (.iload_n 2, 1) := by decide +kernel
theorem dX3_mark_32 : decode cX3_mark 32 = .ok (.iload_n 3, 1) := by decide +kernel
theorem dX3_mark_33 : decode cX3_mark 33 = .ok (.if_icmp .eq 21, 3) := by decide +kernel
theorem dX3_mark_36 : decode cX3_mark 36 = .ok (.aload_n 0, 1) := by decide +kernel
theorem dX3_mark_37 : decode cX3_mark 37 = .ok (.iload_n 2, 1) := by decide +kernel
theorem dX3_mark_38 : decode cX3_mark 38 = .ok (.iconst 2, 1) := by decide +kernel
theorem dX3_mark_39 : decode cX3_mark 39 = .ok (.invokevirtual 98, 3) := by decide +kernel
theorem dX3_mark_42 : decode cX3_mark 42 = .ok (.ifCond .eq 12, 3) := by decide +kernel
theorem dX3_mark_45 : decode cX3_mark 45 = .ok (.aload_n 0, 1) := by decide +kernel
theorem dX3_mark_46 : decode cX3_mark 46 = .ok (.iload_n 3, 1) := by decide +kernel
theorem dX3_mark_47 : decode cX3_mark 47 = .ok (.iconst 2, 1) := by decide +kernel
theorem dX3_mark_48 : decode cX3_mark 48 = .ok (.invokevirtual 98, 3) := by decide +kernel
theorem dX3_mark_51 : decode cX3_mark 51 = .ok (.ifCond .ne 5, 3) := by decide +kernel
theorem dX3_mark_54 : decode cX3_mark 54 = .ok (.iconst 0, 1) := by decide +kernel
theorem dX3_mark_55 : decode cX3_mark 55 = .ok (.ireturn, 1) := by decide +kernel
theorem dX3_mark_56 : decode cX3_mark 56 = .ok (.aload 4, 2) := by decide +kernel
theorem dX3_mark_58 : decode cX3_mark 58 = .ok (.iconst 1, 1) := by decide +kernel
theorem dX3_mark_59 : decode cX3_mark 59 = .ok (.putfield 110, 3) := by decide +kernel
theorem dX3_mark_62 : decode cX3_mark 62 = .ok (.iconst 1, 1) := by decide +kernel
theorem dX3_mark_63 : decode cX3_mark 63 = .ok (.ireturn, 1) := by decide +kernel
theorem dX3_left_0 : decode cX3_left 0 = .ok (.aload_n 0, 1) := by decide +kernel
theorem dX3_left_1 : decode cX3_left 1 = .ok (.iload_n 1, 1) := by decide +kernel
theorem dX3_left_2 : decode cX3_left 2 = .ok (.invokevirtual 43, 3) := by decide +kernel
theorem dX3_left_5 : decode cX3_left 5 = .ok (.astore_n 2, 1) := by decide +kernel
theorem dX3_left_6 : decode cX3_left 6 = .ok (.aload_n 2, 1) := by decide +kernel
theorem dX3_left_7 : decode cX3_left 7 = .ok (.ifnonnull 9, 3) := by decide +kernel
theorem dX3_left_10 : decode cX3_left 10 = .ok (.ldc2_w 118, 3) := by decide +kernel
theorem dX3_left_13 : decode cX3_left 13 = .ok (.goto 13, 3) := by decide +kernel
theorem dX3_left_16 : decode cX3_left 16 = .ok (.aload_n 2, 1) := by decide +kernel
theorem dX3_left_17 : decode cX3_left 17 = .ok (.getfield 74, 3) := by decide +kernel
theorem dX3_left_20 : decode cX3_left 20 = .ok (.aload_n 0, 1) := by decide +kernel
theorem dX3_left_21 : decode cX3_left 21 = .ok (.iload_n 1, 1) := by decide +kernel
theorem dX3_left_22 : decode cX3_left 22 = .ok (.invokevirtual 78, 3) := by decide +kernel
theorem dX3_left_25 : decode cX3_left 25 = .ok (.lsub, 1) := by decide +kernel
theorem dX3_left_26 : decode cX3_left 26 = .ok (.lreturn, 1) := by decide +kernel
theorem dX3_bank_0 : decode cX3_bank 0 = .ok (.aload_n 0, 1) := by decide +kernel
theorem dX3_bank_1 : decode cX3_bank 1 = .ok (.iload_n 1, 1) := by decide +kernel
theorem dX3_bank_2 : decode cX3_bank 2 = .ok (.invokevirtual 43, 3) := by decide +kernel
theorem dX3_bank_5 : decode cX3_bank 5 = .ok (.astore 4, 2) := by decide +kernel
theorem dX3_bank_7 : decode cX3_bank 7 = .ok (.aload 4, 2) := by decide +kernel
theorem dX3_bank_9 : decode cX3_bank 9 = .ok (.ifnull 17, 3) := by decide +kernel
theorem dX3_bank_12 : decode cX3_bank 12 = .ok (.lload_n 2, 1) := by decide +kernel
theorem dX3_bank_13 : decode cX3_bank 13 = .ok (.lconst 1, 1) := by decide +kernel
theorem dX3_bank_14 : decode cX3_bank 14 = .ok (.lcmp, 1) := by decide +kernel
theorem dX3_bank_15 : decode cX3_bank 15 = .ok (.ifCond .lt 11, 3) := by decide +kernel
theorem dX3_bank_18 : decode cX3_bank 18 = .ok (.lload_n 2, 1) := by decide +kernel
theorem dX3_bank_19 : decode cX3_bank 19 = .ok (.ldc2_w 51, 3) := by decide +kernel
theorem dX3_bank_22 : decode cX3_bank 22 = .ok (.lcmp, 1) := by decide +kernel
theorem dX3_bank_23 : decode cX3_bank 23 = .ok (.ifCond .le 5, 3) := by decide +kernel
theorem dX3_bank_26 : decode cX3_bank 26 = .ok (.iconst 0, 1) := by decide +kernel
theorem dX3_bank_27 : decode cX3_bank 27 = .ok (.ireturn, 1) := by decide +kernel
theorem dX3_bank_28 : decode cX3_bank 28 = .ok (.aload 4, 2) := by decide +kernel
theorem dX3_bank_30 : decode cX3_bank 30 = .ok (.getfield 120, 3) := by decide +kernel
theorem dX3_bank_33 : decode cX3_bank 33 = .ok (.lload_n 2, 1) := by decide +kernel
theorem dX3_bank_34 : decode cX3_bank 34 = .ok (.ladd, 1) := by decide +kernel
theorem dX3_bank_35 : decode cX3_bank 35 = .ok (.ldc2_w 123, 3) := by decide +kernel
theorem dX3_bank_38 : decode cX3_bank 38 = .ok (.lcmp, 1) := by decide +kernel
theorem dX3_bank_39 : decode cX3_bank 39 = .ok (.ifCond .le 5, 3) := by decide +kernel
theorem dX3_bank_42 : decode cX3_bank 42 = .ok (.iconst 0, 1) := by decide +kernel
theorem dX3_bank_43 : decode cX3_bank 43 = .ok (.ireturn, 1) := by decide +kernel
theorem dX3_bank_44 : decode cX3_bank 44 = .ok (.aload 4, 2) := by decide +kernel
theorem dX3_bank_46 : decode cX3_bank 46 = .ok (.dup, 1) := by decide +kernel
theorem dX3_bank_47 : decode cX3_bank 47 = .ok (.getfield 120, 3) := by decide +kernel
theorem dX3_bank_50 : decode cX3_bank 50 = .ok (.lload_n 2, 1) := by decide +kernel
theorem dX3_bank_51 : decode cX3_bank 51 = .ok (.ladd, 1) := by decide +kernel
theorem dX3_bank_52 : decode cX3_bank 52 = .ok (.putfield 120, 3) := by decide +kernel
theorem dX3_bank_55 : decode cX3_bank 55 = .ok (.iconst 1, 1) := by decide +kernel
theorem dX3_bank_56 : decode cX3_bank 56 = .ok (.ireturn, 1) := by decide +kernel
theorem dX3_held_0 : decode cX3_held 0 = .ok (.aload_n 0, 1) := by decide +kernel
theorem dX3_held_1 : decode cX3_held 1 = .ok (.iload_n 1, 1) := by decide +kernel
theorem dX3_held_2 : decode cX3_held 2 = .ok (.invokevirtual 43, 3) := by decide +kernel
theorem dX3_held_5 : decode cX3_held 5 = .ok (.astore_n 2, 1) := by decide +kernel
theorem dX3_held_6 : decode cX3_held 6 = .ok (.aload_n 2, 1) := by decide +kernel
theorem dX3_held_7 : decode cX3_held 7 = .ok (.ifnonnull 7, 3) := by decide +kernel
theorem dX3_held_10 : decode cX3_held 10 = .ok (.ldc2_w 118, 3) := by decide +kernel
theorem dX3_held_13 : decode cX3_held 13 = .ok (.lreturn, 1) := by decide +kernel
theorem dX3_held_14 : decode cX3_held 14 = .ok (.aload_n 2, 1) := by decide +kernel
theorem dX3_held_15 : decode cX3_held 15 = .ok (.getfield 120, 3) := by decide +kernel
theorem dX3_held_18 : decode cX3_held 18 = .ok (.aload_n 2, 1) := by decide +kernel
theorem dX3_held_19 : decode cX3_held 19 = .ok (.getfield 74, 3) := by decide +kernel
theorem dX3_held_22 : decode cX3_held 22 = .ok (.aload_n 0, 1) := by decide +kernel
theorem dX3_held_23 : decode cX3_held 23 = .ok (.iload_n 1, 1) := by decide +kernel
theorem dX3_held_24 : decode cX3_held 24 = .ok (.invokevirtual 125, 3) := by decide +kernel
theorem dX3_held_27 : decode cX3_held 27 = .ok (.lsub, 1) := by decide +kernel
theorem dX3_held_28 : decode cX3_held 28 = .ok (.aload_n 2, 1) := by decide +kernel
theorem dX3_held_29 : decode cX3_held 29 = .ok (.getfield 74, 3) := by decide +kernel
theorem dX3_held_32 : decode cX3_held 32 = .ok (.invokestatic 128, 3) := by decide +kernel
theorem dX3_held_35 : decode cX3_held 35 = .ok (.lreturn, 1) := by decide +kernel
theorem dX3_limit_0 : decode cX3_limit 0 = .ok (.iload_n 1, 1) := by decide +kernel
theorem dX3_limit_1 : decode cX3_limit 1 = .ok (.ifCond .lt 10, 3) := by decide +kernel
theorem dX3_limit_4 : decode cX3_limit 4 = .ok (.iload_n 1, 1) := by decide +kernel
theorem dX3_limit_5 : decode cX3_limit 5 = .ok (.sipush 1000, 3) := by decide +kernel
theorem dX3_limit_8 : decode cX3_limit 8 = .ok (.if_icmp .le 5, 3) := by decide +kernel
theorem dX3_limit_11 : decode cX3_limit 11 = .ok (.iconst 0, 1) := by decide +kernel
theorem dX3_limit_12 : decode cX3_limit 12 = .ok (.ireturn, 1) := by decide +kernel
theorem dX3_limit_13 : decode cX3_limit 13 = .ok (.aload_n 0, 1) := by decide +kernel
theorem dX3_limit_14 : decode cX3_limit 14 = .ok (.iload_n 1, 1) := by decide +kernel
theorem dX3_limit_15 : decode cX3_limit 15 = .ok (.putfield 32, 3) := by decide +kernel
theorem dX3_limit_18 : decode cX3_limit 18 = .ok (.iconst 1, 1) := by decide +kernel
theorem dX3_limit_19 : decode cX3_limit 19 = .ok (.ireturn, 1) := by decide +kernel
theorem dX3_late_0 : decode cX3_late 0 = .ok (.iconst 0, 1) := by decide +kernel
theorem dX3_late_1 : decode cX3_late 1 = .ok (.istore_n 2, 1) := by decide +kernel
theorem dX3_late_2 : decode cX3_late 2 = .ok (.iconst 0, 1) := by decide +kernel
theorem dX3_late_3 : decode cX3_late 3 = .ok (.istore_n 3, 1) := by decide +kernel
theorem dX3_late_4 : decode cX3_late 4 = .ok (.iload_n 3, 1) := by decide +kernel
theorem dX3_late_5 : decode cX3_late 5 = .ok (.aload_n 0, 1) := by decide +kernel
theorem dX3_late_6 : decode cX3_late 6 = .ok (.getfield 67, 3) := by decide +kernel
theorem dX3_late_9 : decode cX3_late 9 = .ok (.if_icmp .ge 40, 3) := by decide +kernel
theorem dX3_late_12 : decode cX3_late 12 = .ok (.aload_n 0, 1) := by decide +kernel
theorem dX3_late_13 : decode cX3_late 13 = .ok (.iload_n 3, 1) := by decide +kernel
theorem dX3_late_14 : decode cX3_late 14 = .ok (.invokevirtual 85, 3) := by decide +kernel
theorem dX3_late_17 : decode cX3_late 17 = .ok (.astore 4, 2) := by decide +kernel
theorem dX3_late_19 : decode cX3_late 19 = .ok (.aload 4, 2) := by decide +kernel
theorem dX3_late_21 : decode cX3_late 21 = .ok (.ifnull 22, 3) := by decide +kernel
theorem dX3_late_24 : decode cX3_late 24 = .ok (.aload_n 0, 1) := by decide +kernel
theorem dX3_late_25 : decode cX3_late 25 = .ok (.aload 4, 2) := by decide +kernel
theorem dX3_late_27 : decode cX3_late 27 = .ok (.invokevirtual 132, 3) := by decide +kernel
theorem dX3_late_30 : decode cX3_late 30 = .ok (.ifCond .eq 13, 3) := by decide +kernel
theorem dX3_late_33 : decode cX3_late 33 = .ok (.iload_n 2, 1) := by decide +kernel
theorem dX3_late_34 : decode cX3_late 34 = .ok (.iload_n 1, 1) := by decide +kernel
theorem dX3_late_35 : decode cX3_late 35 = .ok (.if_icmp .ne 5, 3) := by decide +kernel
theorem dX3_late_38 : decode cX3_late 38 = .ok (.iload_n 3, 1) := by decide +kernel
theorem dX3_late_39 : decode cX3_late 39 = .ok (.ireturn, 1) := by decide +kernel
theorem dX3_late_40 : decode cX3_late 40 = .ok (.iinc 2 1, 3) := by decide +kernel
theorem dX3_late_43 : decode cX3_late 43 = .ok (.iinc 3 1, 3) := by decide +kernel
theorem dX3_late_46 : decode cX3_late 46 = .ok (.goto (-42), 3) := by decide +kernel
theorem dX3_late_49 : decode cX3_late 49 = .ok (.iconst (-1), 1) := by decide +kernel
theorem dX3_late_50 : decode cX3_late 50 = .ok (.ireturn, 1) := by decide +kernel
theorem dX3_carrier_0 : decode cX3_carrier 0 = .ok (.aload_n 0, 1) := by decide +kernel
theorem dX3_carrier_1 : decode cX3_carrier 1 = .ok (.iload_n 1, 1) := by decide +kernel
theorem dX3_carrier_2 : decode cX3_carrier 2 = .ok (.invokevirtual 85, 3) := by decide +kernel
theorem dX3_carrier_5 : decode cX3_carrier 5 = .ok (.astore_n 3, 1) := by decide +kernel
theorem dX3_carrier_6 : decode cX3_carrier 6 = .ok (.aload_n 3, 1) := by decide +kernel
theorem dX3_carrier_7 : decode cX3_carrier 7 = .ok (.ifnull 21, 3) := by decide +kernel
theorem dX3_carrier_10 : decode cX3_carrier 10 = .ok (.aload_n 3, 1) := by decide +kernel
theorem dX3_carrier_11 : decode cX3_carrier 11 = .ok (.getfield 89, 3) := by decide +kernel
theorem dX3_carrier_14 : decode cX3_carrier 14 = .ok (.iconst 1, 1) := by decide +kernel
theorem dX3_carrier_15 : decode cX3_carrier 15 = .ok (.if_icmp .ne 13, 3) := by decide +kernel
theorem dX3_carrier_18 : decode cX3_carrier 18 = .ok (.iload_n 2, 1) := by decide +kernel
theorem dX3_carrier_19 : decode cX3_carrier 19 = .ok (.ifCond .lt 9, 3) := by decide +kernel
theorem dX3_carrier_22 : decode cX3_carrier 22 = .ok (.iload_n 2, 1) := by decide +kernel
theorem dX3_carrier_23 : decode cX3_carrier 23 = .ok (.bipush 100, 2) := by decide +kernel
theorem dX3_carrier_25 : decode cX3_carrier 25 = .ok (.if_icmp .lt 5, 3) := by decide +kernel
theorem dX3_carrier_28 : decode cX3_carrier 28 = .ok (.iconst (-1), 1) := by decide +kernel
theorem dX3_carrier_29 : decode cX3_carrier 29 = .ok (.ireturn, 1) := by decide +kernel
theorem dX3_carrier_30 : decode cX3_carrier 30 = .ok (.aload_n 3, 1) := by decide +kernel
theorem dX3_carrier_31 : decode cX3_carrier 31 = .ok (.iload_n 2, 1) := by decide +kernel
theorem dX3_carrier_32 : decode cX3_carrier 32 = .ok (.invokevirtual 135, 3) := by decide +kernel
theorem dX3_carrier_35 : decode cX3_carrier 35 = .ok (.ireturn, 1) := by decide +kernel
theorem dX3_back_0 : decode cX3_back 0 = .ok (.aload_n 0, 1) := by decide +kernel
theorem dX3_back_1 : decode cX3_back 1 = .ok (.iload_n 1, 1) := by decide +kernel
theorem dX3_back_2 : decode cX3_back 2 = .ok (.invokevirtual 85, 3) := by decide +kernel
theorem dX3_back_5 : decode cX3_back 5 = .ok (.astore_n 3, 1) := by decide +kernel
theorem dX3_back_6 : decode cX3_back 6 = .ok (.aload_n 3, 1) := by decide +kernel
theorem dX3_back_7 : decode cX3_back 7 = .ok (.ifnonnull 7, 3) := by decide +kernel
theorem dX3_back_10 : decode cX3_back 10 = .ok (.iconst (-1), 1) := by decide +kernel
theorem dX3_back_11 : decode cX3_back 11 = .ok (.goto 8, 3) := by decide +kernel
theorem dX3_back_14 : decode cX3_back 14 = .ok (.aload_n 3, 1) := by decide +kernel
theorem dX3_back_15 : decode cX3_back 15 = .ok (.iload_n 2, 1) := by decide +kernel
theorem dX3_back_16 : decode cX3_back 16 = .ok (.invokevirtual 138, 3) := by decide +kernel
theorem dX3_back_19 : decode cX3_back 19 = .ok (.ireturn, 1) := by decide +kernel
theorem dX3_print_0 : decode cX3_print 0 = .ok (.aload_n 0, 1) := by decide +kernel
theorem dX3_print_1 : decode cX3_print 1 = .ok (.iload_n 1, 1) := by decide +kernel
theorem dX3_print_2 : decode cX3_print 2 = .ok (.invokevirtual 43, 3) := by decide +kernel
theorem dX3_print_5 : decode cX3_print 5 = .ok (.astore_n 3, 1) := by decide +kernel
theorem dX3_print_6 : decode cX3_print 6 = .ok (.aload_n 3, 1) := by decide +kernel
theorem dX3_print_7 : decode cX3_print 7 = .ok (.ifnull 7, 3) := by decide +kernel
theorem dX3_print_10 : decode cX3_print 10 = .ok (.iload_n 2, 1) := by decide +kernel
theorem dX3_print_11 : decode cX3_print 11 = .ok (.ifCond .ge 5, 3) := by decide +kernel
theorem dX3_print_14 : decode cX3_print 14 = .ok (.iconst (-1), 1) := by decide +kernel
theorem dX3_print_15 : decode cX3_print 15 = .ok (.ireturn, 1) := by decide +kernel
theorem dX3_print_16 : decode cX3_print 16 = .ok (.aload_n 0, 1) := by decide +kernel
theorem dX3_print_17 : decode cX3_print 17 = .ok (.getfield 28, 3) := by decide +kernel
theorem dX3_print_20 : decode cX3_print 20 = .ok (.invokevirtual 141, 3) := by decide +kernel
theorem dX3_print_23 : decode cX3_print 23 = .ok (.aload_n 0, 1) := by decide +kernel
theorem dX3_print_24 : decode cX3_print 24 = .ok (.iload_n 1, 1) := by decide +kernel
theorem dX3_print_25 : decode cX3_print 25 = .ok (.aload_n 3, 1) := by decide +kernel
theorem dX3_print_26 : decode cX3_print 26 = .ok (.invokevirtual 144, 3) := by decide +kernel
theorem dX3_print_29 : decode cX3_print 29 = .ok (.iconst 0, 1) := by decide +kernel
theorem dX3_print_30 : decode cX3_print 30 = .ok (.istore 4, 2) := by decide +kernel
theorem dX3_print_32 : decode cX3_print 32 = .ok (.iload 4, 2) := by decide +kernel
theorem dX3_print_34 : decode cX3_print 34 = .ok (.aload_n 0, 1) := by decide +kernel
theorem dX3_print_35 : decode cX3_print 35 = .ok (.getfield 67, 3) := by decide +kernel
theorem dX3_print_38 : decode cX3_print 38 = .ok (.if_icmp .ge 39, 3) := by decide +kernel
theorem dX3_print_41 : decode cX3_print 41 = .ok (.aload_n 0, 1) := by decide +kernel
theorem dX3_print_42 : decode cX3_print 42 = .ok (.iload 4, 2) := by decide +kernel
theorem dX3_print_44 : decode cX3_print 44 = .ok (.invokevirtual 85, 3) := by decide +kernel
theorem dX3_print_47 : decode cX3_print 47 = .ok (.astore 5, 2) := by decide +kernel
theorem dX3_print_49 : decode cX3_print 49 = .ok (.aload 5, 2) := by decide +kernel
theorem dX3_print_51 : decode cX3_print 51 = .ok (.ifnull 20, 3) := by decide +kernel
theorem dX3_print_54 : decode cX3_print 54 = .ok (.aload 5, 2) := by decide +kernel
theorem dX3_print_56 : decode cX3_print 56 = .ok (.getfield 148, 3) := by decide +kernel
theorem dX3_print_59 : decode cX3_print 59 = .ok (.iload_n 1, 1) := by decide +kernel
theorem dX3_print_60 : decode cX3_print 60 = .ok (.if_icmp .ne 11, 3) := by decide +kernel
theorem dX3_print_63 : decode cX3_print 63 = .ok (.aload_n 0, 1) := by decide +kernel
theorem dX3_print_64 : decode cX3_print 64 = .ok (.iload 4, 2) := by decide +kernel
theorem dX3_print_66 : decode cX3_print 66 = .ok (.aload 5, 2) := by decide +kernel
theorem dX3_print_68 : decode cX3_print 68 = .ok (.invokevirtual 151, 3) := by decide +kernel
theorem dX3_print_71 : decode cX3_print 71 = .ok (.iinc 4 1, 3) := by decide +kernel
theorem dX3_print_74 : decode cX3_print 74 = .ok (.goto (-42), 3) := by decide +kernel
theorem dX3_print_77 : decode cX3_print 77 = .ok (.aload_n 0, 1) := by decide +kernel
theorem dX3_print_78 : decode cX3_print 78 = .ok (.getfield 28, 3) := by decide +kernel
theorem dX3_print_81 : decode cX3_print 81 = .ok (.iload_n 2, 1) := by decide +kernel
theorem dX3_print_82 : decode cX3_print 82 = .ok (.invokevirtual 155, 3) := by decide +kernel
theorem dX3_print_85 : decode cX3_print 85 = .ok (.ireturn, 1) := by decide +kernel
theorem dX3_noticeAt_0 : decode cX3_noticeAt 0 = .ok (.iload_n 1, 1) := by decide +kernel
theorem dX3_noticeAt_1 : decode cX3_noticeAt 1 = .ok (.ifCond .lt 11, 3) := by decide +kernel
theorem dX3_noticeAt_4 : decode cX3_noticeAt 4 = .ok (.iload_n 1, 1) := by decide +kernel
theorem dX3_noticeAt_5 : decode cX3_noticeAt 5 = .ok (.aload_n 0, 1) := by decide +kernel
theorem dX3_noticeAt_6 : decode cX3_noticeAt 6 = .ok (.getfield 40, 3) := by decide +kernel
theorem dX3_noticeAt_9 : decode cX3_noticeAt 9 = .ok (.if_icmp .lt 7, 3) := by decide +kernel
theorem dX3_noticeAt_12 : decode cX3_noticeAt 12 = .ok (.aconst_null, 1) := by decide +kernel
theorem dX3_noticeAt_13 : decode cX3_noticeAt 13 = .ok (.goto 9, 3) := by decide +kernel
theorem dX3_noticeAt_16 : decode cX3_noticeAt 16 = .ok (.aload_n 0, 1) := by decide +kernel
theorem dX3_noticeAt_17 : decode cX3_noticeAt 17 = .ok (.getfield 11, 3) := by decide +kernel
theorem dX3_noticeAt_20 : decode cX3_noticeAt 20 = .ok (.iload_n 1, 1) := by decide +kernel
theorem dX3_noticeAt_21 : decode cX3_noticeAt 21 = .ok (.aaload, 1) := by decide +kernel
theorem dX3_noticeAt_22 : decode cX3_noticeAt 22 = .ok (.areturn, 1) := by decide +kernel
theorem dX3_moveAt_0 : decode cX3_moveAt 0 = .ok (.iload_n 1, 1) := by decide +kernel
theorem dX3_moveAt_1 : decode cX3_moveAt 1 = .ok (.ifCond .lt 11, 3) := by decide +kernel
theorem dX3_moveAt_4 : decode cX3_moveAt 4 = .ok (.iload_n 1, 1) := by decide +kernel
theorem dX3_moveAt_5 : decode cX3_moveAt 5 = .ok (.aload_n 0, 1) := by decide +kernel
theorem dX3_moveAt_6 : decode cX3_moveAt 6 = .ok (.getfield 67, 3) := by decide +kernel
theorem dX3_moveAt_9 : decode cX3_moveAt 9 = .ok (.if_icmp .lt 7, 3) := by decide +kernel
theorem dX3_moveAt_12 : decode cX3_moveAt 12 = .ok (.aconst_null, 1) := by decide +kernel
theorem dX3_moveAt_13 : decode cX3_moveAt 13 = .ok (.goto 9, 3) := by decide +kernel
theorem dX3_moveAt_16 : decode cX3_moveAt 16 = .ok (.aload_n 0, 1) := by decide +kernel
theorem dX3_moveAt_17 : decode cX3_moveAt 17 = .ok (.getfield 17, 3) := by decide +kernel
theorem dX3_moveAt_20 : decode cX3_moveAt 20 = .ok (.iload_n 1, 1) := by decide +kernel
theorem dX3_moveAt_21 : decode cX3_moveAt 21 = .ok (.aaload, 1) := by decide +kernel
theorem dX3_moveAt_22 : decode cX3_moveAt 22 = .ok (.areturn, 1) := by decide +kernel
theorem dX3_isPerson_0 : decode cX3_isPerson 0 = .ok (.iload_n 0, 1) := by decide +kernel
theorem dX3_isPerson_1 : decode cX3_isPerson 1 = .ok (.ifCond .lt 13, 3) := by decide +kernel
theorem dX3_isPerson_4 : decode cX3_isPerson 4 = .ok (.iload_n 0, 1) := by decide +kernel
theorem dX3_isPerson_5 : decode cX3_isPerson 5 = .ok (.bipush 8, 2) := by decide +kernel
theorem dX3_isPerson_7 : decode cX3_isPerson 7 = .ok (.if_icmp .ge 7, 3) := by decide +kernel
theorem dX3_isPerson_10 : decode cX3_isPerson 10 = .ok (.iconst 1, 1) := by decide +kernel
theorem dX3_isPerson_11 : decode cX3_isPerson 11 = .ok (.goto 4, 3) := by decide +kernel
theorem dX3_isPerson_14 : decode cX3_isPerson 14 = .ok (.iconst 0, 1) := by decide +kernel
theorem dX3_isPerson_15 : decode cX3_isPerson 15 = .ok (.ireturn, 1) := by decide +kernel
theorem dX3_isEvent_0 : decode cX3_isEvent 0 = .ok (.iload_n 0, 1) := by decide +kernel
theorem dX3_isEvent_1 : decode cX3_isEvent 1 = .ok (.ifCond .lt 12, 3) := by decide +kernel
theorem dX3_isEvent_4 : decode cX3_isEvent 4 = .ok (.iload_n 0, 1) := by decide +kernel
theorem dX3_isEvent_5 : decode cX3_isEvent 5 = .ok (.iconst 5, 1) := by decide +kernel
theorem dX3_isEvent_6 : decode cX3_isEvent 6 = .ok (.if_icmp .ge 7, 3) := by decide +kernel
theorem dX3_isEvent_9 : decode cX3_isEvent 9 = .ok (.iconst 1, 1) := by decide +kernel
theorem dX3_isEvent_10 : decode cX3_isEvent 10 = .ok (.goto 4, 3) := by decide +kernel
theorem dX3_isEvent_13 : decode cX3_isEvent 13 = .ok (.iconst 0, 1) := by decide +kernel
theorem dX3_isEvent_14 : decode cX3_isEvent 14 = .ok (.ireturn, 1) := by decide +kernel
theorem dX3_hasRight_0 : decode cX3_hasRight 0 = .ok (.iload_n 1, 1) := by decide +kernel
theorem dX3_hasRight_1 : decode cX3_hasRight 1 = .ok (.invokestatic 92, 3) := by decide +kernel
theorem dX3_hasRight_4 : decode cX3_hasRight 4 = .ok (.ifCond .eq 27, 3) := by decide +kernel
theorem dX3_hasRight_7 : decode cX3_hasRight 7 = .ok (.iload_n 2, 1) := by decide +kernel
theorem dX3_hasRight_8 : decode cX3_hasRight 8 = .ok (.invokestatic 95, 3) := by decide +kernel
theorem dX3_hasRight_11 : decode cX3_hasRight 11 = .ok (.ifCond .eq 20, 3) := by decide +kernel
theorem dX3_hasRight_14 : decode cX3_hasRight 14 = .ok (.aload_n 0, 1) := by decide +kernel
theorem dX3_hasRight_15 : decode cX3_hasRight 15 = .ok (.getfield 21, 3) := by decide +kernel
theorem dX3_hasRight_18 : decode cX3_hasRight 18 = .ok (.iload_n 1, 1) := by decide +kernel
theorem dX3_hasRight_19 : decode cX3_hasRight 19 = .ok (.iconst 5, 1) := by decide +kernel
theorem dX3_hasRight_20 : decode cX3_hasRight 20 = .ok (.imul, 1) := by decide +kernel
theorem dX3_hasRight_21 : decode cX3_hasRight 21 = .ok (.iload_n 2, 1) := by decide +kernel
theorem dX3_hasRight_22 : decode cX3_hasRight 22 = .ok (.iadd, 1) := by decide +kernel
theorem dX3_hasRight_23 : decode cX3_hasRight 23 = .ok (.baload, 1) := by decide +kernel
theorem dX3_hasRight_24 : decode cX3_hasRight 24 = .ok (.ifCond .eq 7, 3) := by decide +kernel
theorem dX3_hasRight_27 : decode cX3_hasRight 27 = .ok (.iconst 1, 1) := by decide +kernel
theorem dX3_hasRight_28 : decode cX3_hasRight 28 = .ok (.goto 4, 3) := by decide +kernel
theorem dX3_hasRight_31 : decode cX3_hasRight 31 = .ok (.iconst 0, 1) := by decide +kernel
theorem dX3_hasRight_32 : decode cX3_hasRight 32 = .ok (.ireturn, 1) := by decide +kernel
theorem dX3_nextState_0 : decode cX3_nextState 0 = .ok (.iload_n 0, 1) := by decide +kernel
theorem dX3_nextState_1 : decode cX3_nextState 1 = .ok (.invokestatic 95, 3) := by decide +kernel
theorem dX3_nextState_4 : decode cX3_nextState 4 = .ok (.ifCond .eq 13, 3) := by decide +kernel
theorem dX3_nextState_7 : decode cX3_nextState 7 = .ok (.iload_n 1, 1) := by decide +kernel
theorem dX3_nextState_8 : decode cX3_nextState 8 = .ok (.ifCond .lt 9, 3) := by decide +kernel
theorem dX3_nextState_11 : decode cX3_nextState 11 = .ok (.iload_n 1, 1) := by decide +kernel
theorem dX3_nextState_12 : decode cX3_nextState 12 = .ok (.bipush 6, 2) := by decide +kernel
theorem dX3_nextState_14 : decode cX3_nextState 14 = .ok (.if_icmp .lt 5, 3) := by decide +kernel
theorem dX3_nextState_17 : decode cX3_nextState 17 = .ok (.iconst (-1), 1) := by decide +kernel
theorem dX3_nextState_18 : decode cX3_nextState 18 = .ok (.ireturn, 1) := by decide +kernel
theorem dX3_nextState_19 : decode cX3_nextState 19 = .ok (.getstatic 158, 3) := by decide +kernel
theorem dX3_nextState_22 : decode cX3_nextState 22 = .ok (.iload_n 0, 1) := by decide +kernel
theorem dX3_nextState_23 : decode cX3_nextState 23 = .ok (.bipush 6, 2) := by decide +kernel
theorem dX3_nextState_25 : decode cX3_nextState 25 = .ok (.imul, 1) := by decide +kernel
theorem dX3_nextState_26 : decode cX3_nextState 26 = .ok (.iload_n 1, 1) := by decide +kernel
theorem dX3_nextState_27 : decode cX3_nextState 27 = .ok (.iadd, 1) := by decide +kernel
theorem dX3_nextState_28 : decode cX3_nextState 28 = .ok (.iaload, 1) := by decide +kernel
theorem dX3_nextState_29 : decode cX3_nextState 29 = .ok (.ireturn, 1) := by decide +kernel
theorem dX3_canBeTaken_0 : decode cX3_canBeTaken 0 = .ok (.aload_n 0, 1) := by decide +kernel
theorem dX3_canBeTaken_1 : decode cX3_canBeTaken 1 = .ok (.aload_n 1, 1) := by decide +kernel
theorem dX3_canBeTaken_2 : decode cX3_canBeTaken 2 = .ok (.getfield 148, 3) := by decide +kernel
theorem dX3_canBeTaken_5 : decode cX3_canBeTaken 5 = .ok (.invokevirtual 43, 3) := by decide +kernel
theorem dX3_canBeTaken_8 : decode cX3_canBeTaken 8 = .ok (.astore_n 2, 1) := by decide +kernel
theorem dX3_canBeTaken_9 : decode cX3_canBeTaken 9 = .ok (.aload_n 0, 1) := by decide +kernel
theorem dX3_canBeTaken_10 : decode cX3_canBeTaken 10 = .ok (.getfield 36, 3) := by decide +kernel
theorem dX3_canBeTaken_13 : decode cX3_canBeTaken 13 = .ok (.aload_n 1, 1) := by decide +kernel
theorem dX3_canBeTaken_14 : decode cX3_canBeTaken 14 = .ok (.getfield 162, 3) := by decide +kernel
theorem dX3_canBeTaken_17 : decode cX3_canBeTaken 17 = .ok (.if_icmp .lt 23, 3) := by decide +kernel
theorem dX3_canBeTaken_20 : decode cX3_canBeTaken 20 = .ok (.aload_n 2, 1) := by decide +kernel
theorem dX3_canBeTaken_21 : decode cX3_canBeTaken 21 = .ok (.ifnull 19, 3) := by decide +kernel
theorem dX3_canBeTaken_24 : decode cX3_canBeTaken 24 = .ok (.aload_n 2, 1) := by decide +kernel
theorem dX3_canBeTaken_25 : decode cX3_canBeTaken 25 = .ok (.aload_n 0, 1) := by decide +kernel
theorem dX3_canBeTaken_26 : decode cX3_canBeTaken 26 = .ok (.getfield 36, 3) := by decide +kernel
theorem dX3_canBeTaken_29 : decode cX3_canBeTaken 29 = .ok (.invokevirtual 64, 3) := by decide +kernel
theorem dX3_canBeTaken_32 : decode cX3_canBeTaken 32 = .ok (.iconst 1, 1) := by decide +kernel
theorem dX3_canBeTaken_33 : decode cX3_canBeTaken 33 = .ok (.if_icmp .ne 7, 3) := by decide +kernel
theorem dX3_canBeTaken_36 : decode cX3_canBeTaken 36 = .ok (.iconst 1, 1) := by decide +kernel
theorem dX3_canBeTaken_37 : decode cX3_canBeTaken 37 = .ok (.goto 4, 3) := by decide +kernel
theorem dX3_canBeTaken_40 : decode cX3_canBeTaken 40 = .ok (.iconst 0, 1) := by decide +kernel
theorem dX3_canBeTaken_41 : decode cX3_canBeTaken 41 = .ok (.ireturn, 1) := by decide +kernel
theorem dX3_isLate_0 : decode cX3_isLate 0 = .ok (.aload_n 1, 1) := by decide +kernel
theorem dX3_isLate_1 : decode cX3_isLate 1 = .ok (.getfield 89, 3) := by decide +kernel
theorem dX3_isLate_4 : decode cX3_isLate 4 = .ok (.iconst 2, 1) := by decide +kernel
theorem dX3_isLate_5 : decode cX3_isLate 5 = .ok (.if_icmp .ne 23, 3) := by decide +kernel
theorem dX3_isLate_8 : decode cX3_isLate 8 = .ok (.aload_n 0, 1) := by decide +kernel
theorem dX3_isLate_9 : decode cX3_isLate 9 = .ok (.getfield 36, 3) := by decide +kernel
theorem dX3_isLate_12 : decode cX3_isLate 12 = .ok (.aload_n 1, 1) := by decide +kernel
theorem dX3_isLate_13 : decode cX3_isLate 13 = .ok (.getfield 165, 3) := by decide +kernel
theorem dX3_isLate_16 : decode cX3_isLate 16 = .ok (.isub, 1) := by decide +kernel
theorem dX3_isLate_17 : decode cX3_isLate 17 = .ok (.aload_n 0, 1) := by decide +kernel
theorem dX3_isLate_18 : decode cX3_isLate 18 = .ok (.getfield 32, 3) := by decide +kernel
theorem dX3_isLate_21 : decode cX3_isLate 21 = .ok (.if_icmp .le 7, 3) := by decide +kernel
theorem dX3_isLate_24 : decode cX3_isLate 24 = .ok (.iconst 1, 1) := by decide +kernel
theorem dX3_isLate_25 : decode cX3_isLate 25 = .ok (.goto 4, 3) := by decide +kernel
theorem dX3_isLate_28 : decode cX3_isLate 28 = .ok (.iconst 0, 1) := by decide +kernel
theorem dX3_isLate_29 : decode cX3_isLate 29 = .ok (.ireturn, 1) := by decide +kernel
theorem dX3_gramsInMoves_0 : decode cX3_gramsInMoves 0 = .ok (.lconst 0, 1) := by decide +kernel
theorem dX3_gramsInMoves_1 : decode cX3_gramsInMoves 1 = .ok (.lstore_n 2, 1) := by decide +kernel
theorem dX3_gramsInMoves_2 : decode cX3_gramsInMoves 2 = .ok (.iconst 0, 1) := by decide +kernel
theorem dX3_gramsInMoves_3 : decode cX3_gramsInMoves 3 = .ok (.istore 4, 2) := by decide +kernel
theorem dX3_gramsInMoves_5 : decode cX3_gramsInMoves 5 = .ok (.iload 4, 2) := by decide +kernel
theorem dX3_gramsInMoves_7 : decode cX3_gramsInMoves 7 = .ok (.aload_n 0, 1) := by decide +kernel
theorem dX3_gramsInMoves_8 : decode cX3_gramsInMoves 8 = .ok (.getfield 67, 3) := by decide +kernel
theorem dX3_gramsInMoves_11 : decode cX3_gramsInMoves 11 = .ok (.if_icmp .ge 47, 3) := by decide +kernel
theorem dX3_gramsInMoves_14 : decode cX3_gramsInMoves 14 = .ok (.aload_n 0, 1) := by decide +kernel
theorem dX3_gramsInMoves_15 : decode cX3_gramsInMoves 15 = .ok (.iload 4, 2) := by decide +kernel
theorem dX3_gramsInMoves_17 : decode cX3_gramsInMoves 17 = .ok (.invokevirtual 85, 3) := by decide +kernel
theorem dX3_gramsInMoves_20 : decode cX3_gramsInMoves 20 = .ok (.astore 5, 2) := by decide +kernel
theorem dX3_gramsInMoves_22 : decode cX3_gramsInMoves 22 = .ok (.aload 5, 2) := by decide +kernel
theorem dX3_gramsInMoves_24 : decode cX3_gramsInMoves 24 = .ok (.ifnull 28, 3) := by decide +kernel
theorem dX3_gramsInMoves_27 : decode cX3_gramsInMoves 27 = .ok (.aload 5, 2) := by decide +kernel
theorem dX3_gramsInMoves_29 : decode cX3_gramsInMoves 29 = .ok (.getfield 148, 3) := by decide +kernel
theorem dX3_gramsInMoves_32 : decode cX3_gramsInMoves 32 = .ok (.iload_n 1, 1) := by decide +kernel
theorem dX3_gramsInMoves_33 : decode cX3_gramsInMoves 33 = .ok (.if_icmp .ne 19, 3) := by decide +kernel
theorem dX3_gramsInMoves_36 : decode cX3_gramsInMoves 36 = .ok (.aload 5, 2) := by decide +kernel
theorem dX3_gramsInMoves_38 : decode cX3_gramsInMoves 38 = .ok (.invokevirtual 168, 3) := by decide +kernel
theorem dX3_gramsInMoves_41 : decode cX3_gramsInMoves 41 = .ok (.ifCond .eq 11, 3) := by decide +kernel
theorem dX3_gramsInMoves_44 : decode cX3_gramsInMoves 44 = .ok (.lload_n 2, 1) := by decide +kernel
theorem dX3_gramsInMoves_45 : decode cX3_gramsInMoves 45 = .ok (.aload 5, 2) := by decide +kernel
theorem dX3_gramsInMoves_47 : decode cX3_gramsInMoves 47 = .ok (.getfield 172, 3) := by decide +kernel
theorem dX3_gramsInMoves_50 : decode cX3_gramsInMoves 50 = .ok (.ladd, 1) := by decide +kernel
theorem dX3_gramsInMoves_51 : decode cX3_gramsInMoves 51 = .ok (.lstore_n 2, 1) := by decide +kernel
theorem dX3_gramsInMoves_52 : decode cX3_gramsInMoves 52 = .ok (.iinc 4 1, 3) := by decide +kernel
theorem dX3_gramsInMoves_55 : decode cX3_gramsInMoves 55 = .ok (.goto (-50), 3) := by decide +kernel
theorem dX3_gramsInMoves_58 : decode cX3_gramsInMoves 58 = .ok (.lload_n 2, 1) := by decide +kernel
theorem dX3_gramsInMoves_59 : decode cX3_gramsInMoves 59 = .ok (.lreturn, 1) := by decide +kernel
theorem dX3_gramsRecovered_0 : decode cX3_gramsRecovered 0 = .ok (.lconst 0, 1) := by decide +kernel
theorem dX3_gramsRecovered_1 : decode cX3_gramsRecovered 1 = .ok (.lstore_n 2, 1) := by decide +kernel
theorem dX3_gramsRecovered_2 : decode cX3_gramsRecovered 2 = .ok (.iconst 0, 1) := by decide +kernel
theorem dX3_gramsRecovered_3 : decode cX3_gramsRecovered 3 = .ok (.istore 4, 2) := by decide +kernel
theorem dX3_gramsRecovered_5 : decode cX3_gramsRecovered 5 = .ok (.iload 4, 2) := by decide +kernel
theorem dX3_gramsRecovered_7 : decode cX3_gramsRecovered 7 = .ok (.aload_n 0, 1) := by decide +kernel
theorem dX3_gramsRecovered_8 : decode cX3_gramsRecovered 8 = .ok (.getfield 67, 3) := by decide +kernel
theorem dX3_gramsRecovered_11 : decode cX3_gramsRecovered 11 = .ok (.if_icmp .ge 48, 3) := by decide +kernel
theorem dX3_gramsRecovered_14 : decode cX3_gramsRecovered 14 = .ok (.aload_n 0, 1) := by decide +kernel
theorem dX3_gramsRecovered_15 : decode cX3_gramsRecovered 15 = .ok (.iload 4, 2) := by decide +kernel
theorem dX3_gramsRecovered_17 : decode cX3_gramsRecovered 17 = .ok (.invokevirtual 85, 3) := by decide +kernel
theorem dX3_gramsRecovered_20 : decode cX3_gramsRecovered 20 = .ok (.astore 5, 2) := by decide +kernel
theorem dX3_gramsRecovered_22 : decode cX3_gramsRecovered 22 = .ok (.aload 5, 2) := by decide +kernel
theorem dX3_gramsRecovered_24 : decode cX3_gramsRecovered 24 = .ok (.ifnull 29, 3) := by decide +kernel
theorem dX3_gramsRecovered_27 : decode cX3_gramsRecovered 27 = .ok (.aload 5, 2) := by decide +kernel
theorem dX3_gramsRecovered_29 : decode cX3_gramsRecovered 29 = .ok (.getfield 148, 3) := by decide +kernel
theorem dX3_gramsRecovered_32 : decode cX3_gramsRecovered 32 = .ok (.iload_n 1, 1) := by decide +kernel
theorem dX3_gramsRecovered_33 : decode cX3_gramsRecovered 33 = .ok (.if_icmp .ne 20, 3) := by decide +kernel
theorem dX3_gramsRecovered_36 : decode cX3_gramsRecovered 36 = .ok (.aload 5, 2) := by decide +kernel
theorem dX3_gramsRecovered_38 : decode cX3_gramsRecovered 38 = .ok (.getfield 89, 3) := by decide +kernel
theorem dX3_gramsRecovered_41 : decode cX3_gramsRecovered 41 = .ok (.iconst 3, 1) := by decide +kernel
theorem dX3_gramsRecovered_42 : decode cX3_gramsRecovered 42 = .ok (.if_icmp .ne 11, 3) := by decide +kernel
theorem dX3_gramsRecovered_45 : decode cX3_gramsRecovered 45 = .ok (.lload_n 2, 1) := by decide +kernel
theorem dX3_gramsRecovered_46 : decode cX3_gramsRecovered 46 = .ok (.aload 5, 2) := by decide +kernel
theorem dX3_gramsRecovered_48 : decode cX3_gramsRecovered 48 = .ok (.getfield 172, 3) := by decide +kernel
theorem dX3_gramsRecovered_51 : decode cX3_gramsRecovered 51 = .ok (.ladd, 1) := by decide +kernel
theorem dX3_gramsRecovered_52 : decode cX3_gramsRecovered 52 = .ok (.lstore_n 2, 1) := by decide +kernel
theorem dX3_gramsRecovered_53 : decode cX3_gramsRecovered 53 = .ok (.iinc 4 1, 3) := by decide +kernel
theorem dX3_gramsRecovered_56 : decode cX3_gramsRecovered 56 = .ok (.goto (-51), 3) := by decide +kernel
theorem dX3_gramsRecovered_59 : decode cX3_gramsRecovered 59 = .ok (.lload_n 2, 1) := by decide +kernel
theorem dX3_gramsRecovered_60 : decode cX3_gramsRecovered 60 = .ok (.lreturn, 1) := by decide +kernel
theorem dX3_shareUp_0 : decode cX3_shareUp 0 = .ok (.lload 4, 2) := by decide +kernel
theorem dX3_shareUp_2 : decode cX3_shareUp 2 = .ok (.lconst 1, 1) := by decide +kernel
theorem dX3_shareUp_3 : decode cX3_shareUp 3 = .ok (.lcmp, 1) := by decide +kernel
theorem dX3_shareUp_4 : decode cX3_shareUp 4 = .ok (.ifCond .ge 5, 3) := by decide +kernel
theorem dX3_shareUp_7 : decode cX3_shareUp 7 = .ok (.lconst 0, 1) := by decide +kernel
theorem dX3_shareUp_8 : decode cX3_shareUp 8 = .ok (.lreturn, 1) := by decide +kernel
theorem dX3_shareUp_9 : decode cX3_shareUp 9 = .ok (.lload_n 0, 1) := by decide +kernel
theorem dX3_shareUp_10 : decode cX3_shareUp 10 = .ok (.lload 4, 2) := by decide +kernel
theorem dX3_shareUp_12 : decode cX3_shareUp 12 = .ok (.lrem, 1) := by decide +kernel
theorem dX3_shareUp_13 : decode cX3_shareUp 13 = .ok (.lload_n 2, 1) := by decide +kernel
theorem dX3_shareUp_14 : decode cX3_shareUp 14 = .ok (.lmul, 1) := by decide +kernel
theorem dX3_shareUp_15 : decode cX3_shareUp 15 = .ok (.lstore 6, 2) := by decide +kernel
theorem dX3_shareUp_17 : decode cX3_shareUp 17 = .ok (.lload 6, 2) := by decide +kernel
theorem dX3_shareUp_19 : decode cX3_shareUp 19 = .ok (.lload 4, 2) := by decide +kernel
theorem dX3_shareUp_21 : decode cX3_shareUp 21 = .ok (.lrem, 1) := by decide +kernel
theorem dX3_shareUp_22 : decode cX3_shareUp 22 = .ok (.lconst 0, 1) := by decide +kernel
theorem dX3_shareUp_23 : decode cX3_shareUp 23 = .ok (.lcmp, 1) := by decide +kernel
theorem dX3_shareUp_24 : decode cX3_shareUp 24 = .ok (.ifCond .ne 7, 3) := by decide +kernel
theorem dX3_shareUp_27 : decode cX3_shareUp 27 = .ok (.lconst 0, 1) := by decide +kernel
theorem dX3_shareUp_28 : decode cX3_shareUp 28 = .ok (.goto 4, 3) := by decide +kernel
theorem dX3_shareUp_31 : decode cX3_shareUp 31 = .ok (.lconst 1, 1) := by decide +kernel
theorem dX3_shareUp_32 : decode cX3_shareUp 32 = .ok (.lstore 8, 2) := by decide +kernel
theorem dX3_shareUp_34 : decode cX3_shareUp 34 = .ok (.lload_n 0, 1) := by decide +kernel
theorem dX3_shareUp_35 : decode cX3_shareUp 35 = .ok (.lload 4, 2) := by decide +kernel
theorem dX3_shareUp_37 : decode cX3_shareUp 37 = .ok (.ldiv, 1) := by decide +kernel
theorem dX3_shareUp_38 : decode cX3_shareUp 38 = .ok (.lload_n 2, 1) := by decide +kernel
theorem dX3_shareUp_39 : decode cX3_shareUp 39 = .ok (.lmul, 1) := by decide +kernel
theorem dX3_shareUp_40 : decode cX3_shareUp 40 = .ok (.lload 6, 2) := by decide +kernel
theorem dX3_shareUp_42 : decode cX3_shareUp 42 = .ok (.lload 4, 2) := by decide +kernel
theorem dX3_shareUp_44 : decode cX3_shareUp 44 = .ok (.ldiv, 1) := by decide +kernel
theorem dX3_shareUp_45 : decode cX3_shareUp 45 = .ok (.ladd, 1) := by decide +kernel
theorem dX3_shareUp_46 : decode cX3_shareUp 46 = .ok (.lload 8, 2) := by decide +kernel
theorem dX3_shareUp_48 : decode cX3_shareUp 48 = .ok (.ladd, 1) := by decide +kernel
theorem dX3_shareUp_49 : decode cX3_shareUp 49 = .ok (.lreturn, 1) := by decide +kernel
theorem dX3_writeHead_0 : decode cX3_writeHead 0 = .ok (.aload_n 0, 1) := by decide +kernel
theorem dX3_writeHead_1 : decode cX3_writeHead 1 = .ok (.getfield 28, 3) := by decide +kernel
theorem dX3_writeHead_4 : decode cX3_writeHead 4 = .ok (.iload_n 1, 1) := by decide +kernel
theorem dX3_writeHead_5 : decode cX3_writeHead 5 = .ok (.i2l, 1) := by decide +kernel
theorem dX3_writeHead_6 : decode cX3_writeHead 6 = .ok (.invokevirtual 173, 3) := by decide +kernel
theorem dX3_writeHead_9 : decode cX3_writeHead 9 = .ok (.aload_n 0, 1) := by decide +kernel
theorem dX3_writeHead_10 : decode cX3_writeHead 10 = .ok (.getfield 28, 3) := by decide +kernel
theorem dX3_writeHead_13 : decode cX3_writeHead 13 = .ok (.bipush 32, 2) := by decide +kernel
theorem dX3_writeHead_15 : decode cX3_writeHead 15 = .ok (.invokevirtual 177, 3) := by decide +kernel
theorem dX3_writeHead_18 : decode cX3_writeHead 18 = .ok (.aload_n 0, 1) := by decide +kernel
theorem dX3_writeHead_19 : decode cX3_writeHead 19 = .ok (.getfield 28, 3) := by decide +kernel
theorem dX3_writeHead_22 : decode cX3_writeHead 22 = .ok (.aload_n 2, 1) := by decide +kernel
theorem dX3_writeHead_23 : decode cX3_writeHead 23 = .ok (.getfield 74, 3) := by decide +kernel
theorem dX3_writeHead_26 : decode cX3_writeHead 26 = .ok (.invokevirtual 173, 3) := by decide +kernel
theorem dX3_writeHead_29 : decode cX3_writeHead 29 = .ok (.aload_n 0, 1) := by decide +kernel
theorem dX3_writeHead_30 : decode cX3_writeHead 30 = .ok (.getfield 28, 3) := by decide +kernel
theorem dX3_writeHead_33 : decode cX3_writeHead 33 = .ok (.bipush 32, 2) := by decide +kernel
theorem dX3_writeHead_35 : decode cX3_writeHead 35 = .ok (.invokevirtual 177, 3) := by decide +kernel
theorem dX3_writeHead_38 : decode cX3_writeHead 38 = .ok (.aload_n 0, 1) := by decide +kernel
theorem dX3_writeHead_39 : decode cX3_writeHead 39 = .ok (.getfield 28, 3) := by decide +kernel
theorem dX3_writeHead_42 : decode cX3_writeHead 42 = .ok (.aload_n 2, 1) := by decide +kernel
theorem dX3_writeHead_43 : decode cX3_writeHead 43 = .ok (.getfield 181, 3) := by decide +kernel
theorem dX3_writeHead_46 : decode cX3_writeHead 46 = .ok (.i2l, 1) := by decide +kernel
theorem dX3_writeHead_47 : decode cX3_writeHead 47 = .ok (.invokevirtual 173, 3) := by decide +kernel
theorem dX3_writeHead_50 : decode cX3_writeHead 50 = .ok (.aload_n 0, 1) := by decide +kernel
theorem dX3_writeHead_51 : decode cX3_writeHead 51 = .ok (.getfield 28, 3) := by decide +kernel
theorem dX3_writeHead_54 : decode cX3_writeHead 54 = .ok (.bipush 32, 2) := by decide +kernel
theorem dX3_writeHead_56 : decode cX3_writeHead 56 = .ok (.invokevirtual 177, 3) := by decide +kernel
theorem dX3_writeHead_59 : decode cX3_writeHead 59 = .ok (.aload_n 0, 1) := by decide +kernel
theorem dX3_writeHead_60 : decode cX3_writeHead 60 = .ok (.getfield 28, 3) := by decide +kernel
theorem dX3_writeHead_63 : decode cX3_writeHead 63 = .ok (.aload_n 2, 1) := by decide +kernel
theorem dX3_writeHead_64 : decode cX3_writeHead 64 = .ok (.getfield 184, 3) := by decide +kernel
theorem dX3_writeHead_67 : decode cX3_writeHead 67 = .ok (.i2l, 1) := by decide +kernel
theorem dX3_writeHead_68 : decode cX3_writeHead 68 = .ok (.invokevirtual 173, 3) := by decide +kernel
theorem dX3_writeHead_71 : decode cX3_writeHead 71 = .ok (.aload_n 0, 1) := by decide +kernel
theorem dX3_writeHead_72 : decode cX3_writeHead 72 = .ok (.getfield 28, 3) := by decide +kernel
theorem dX3_writeHead_75 : decode cX3_writeHead 75 = .ok (.bipush 32, 2) := by decide +kernel
theorem dX3_writeHead_77 : decode cX3_writeHead 77 = .ok (.invokevirtual 177, 3) := by decide +kernel
theorem dX3_writeHead_80 : decode cX3_writeHead 80 = .ok (.aload_n 0, 1) := by decide +kernel
theorem dX3_writeHead_81 : decode cX3_writeHead 81 = .ok (.getfield 28, 3) := by decide +kernel
theorem dX3_writeHead_84 : decode cX3_writeHead 84 = .ok (.aload_n 2, 1) := by decide +kernel
theorem dX3_writeHead_85 : decode cX3_writeHead 85 = .ok (.aload_n 0, 1) := by decide +kernel
theorem dX3_writeHead_86 : decode cX3_writeHead 86 = .ok (.getfield 36, 3) := by decide +kernel
theorem dX3_writeHead_89 : decode cX3_writeHead 89 = .ok (.invokevirtual 64, 3) := by decide +kernel
theorem dX3_writeHead_92 : decode cX3_writeHead 92 = .ok (.i2l, 1) := by decide +kernel
theorem dX3_writeHead_93 : decode cX3_writeHead 93 = .ok (.invokevirtual 173, 3) := by decide +kernel
theorem dX3_writeHead_96 : decode cX3_writeHead 96 = .ok (.return_, 1) := by decide +kernel
theorem dX3_writeMove_0 : decode cX3_writeMove 0 = .ok (.aload_n 0, 1) := by decide +kernel
theorem dX3_writeMove_1 : decode cX3_writeMove 1 = .ok (.getfield 28, 3) := by decide +kernel
theorem dX3_writeMove_4 : decode cX3_writeMove 4 = .ok (.bipush 44, 2) := by decide +kernel
theorem dX3_writeMove_6 : decode cX3_writeMove 6 = .ok (.invokevirtual 177, 3) := by decide +kernel
theorem dX3_writeMove_9 : decode cX3_writeMove 9 = .ok (.aload_n 0, 1) := by decide +kernel
theorem dX3_writeMove_10 : decode cX3_writeMove 10 = .ok (.getfield 28, 3) := by decide +kernel
theorem dX3_writeMove_13 : decode cX3_writeMove 13 = .ok (.iload_n 1, 1) := by decide +kernel
theorem dX3_writeMove_14 : decode cX3_writeMove 14 = .ok (.i2l, 1) := by decide +kernel
theorem dX3_writeMove_15 : decode cX3_writeMove 15 = .ok (.invokevirtual 173, 3) := by decide +kernel
theorem dX3_writeMove_18 : decode cX3_writeMove 18 = .ok (.aload_n 0, 1) := by decide +kernel
theorem dX3_writeMove_19 : decode cX3_writeMove 19 = .ok (.getfield 28, 3) := by decide +kernel
theorem dX3_writeMove_22 : decode cX3_writeMove 22 = .ok (.bipush 58, 2) := by decide +kernel
theorem dX3_writeMove_24 : decode cX3_writeMove 24 = .ok (.invokevirtual 177, 3) := by decide +kernel
theorem dX3_writeMove_27 : decode cX3_writeMove 27 = .ok (.aload_n 0, 1) := by decide +kernel
theorem dX3_writeMove_28 : decode cX3_writeMove 28 = .ok (.getfield 28, 3) := by decide +kernel
theorem dX3_writeMove_31 : decode cX3_writeMove 31 = .ok (.aload_n 2, 1) := by decide +kernel
theorem dX3_writeMove_32 : decode cX3_writeMove 32 = .ok (.getfield 172, 3) := by decide +kernel
theorem dX3_writeMove_35 : decode cX3_writeMove 35 = .ok (.invokevirtual 173, 3) := by decide +kernel
theorem dX3_writeMove_38 : decode cX3_writeMove 38 = .ok (.aload_n 0, 1) := by decide +kernel
theorem dX3_writeMove_39 : decode cX3_writeMove 39 = .ok (.getfield 28, 3) := by decide +kernel
theorem dX3_writeMove_42 : decode cX3_writeMove 42 = .ok (.aload_n 2, 1) := by decide +kernel
theorem dX3_writeMove_43 : decode cX3_writeMove 43 = .ok (.invokevirtual 187, 3) := by decide +kernel
theorem dX3_writeMove_46 : decode cX3_writeMove 46 = .ok (.invokevirtual 177, 3) := by decide +kernel
theorem dX3_writeMove_49 : decode cX3_writeMove 49 = .ok (.return_, 1) := by decide +kernel
