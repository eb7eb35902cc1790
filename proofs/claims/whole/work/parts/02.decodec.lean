/-! decode rows of X4. Printed by wip/gen/names.py. -/
theorem dX4_init_0 : decode cX4_init 0 = .ok (.aload_n 0, 1) := by decide +kernel
theorem dX4_init_1 : decode cX4_init 1 = .ok (.invokespecial 1, 3) := by decide +kernel
theorem dX4_init_4 : decode cX4_init 4 = .ok (.aload_n 0, 1) := by decide +kernel
theorem dX4_init_5 : decode cX4_init 5 = .ok (.bipush 6, 2) := by decide +kernel
theorem dX4_init_7 : decode cX4_init 7 = .ok (.newarray .long, 2) := by decide +kernel
theorem dX4_init_9 : decode cX4_init 9 = .ok (.putfield 7, 3) := by decide +kernel
theorem dX4_init_12 : decode cX4_init 12 = .ok (.aload_n 0, 1) := by decide +kernel
theorem dX4_init_13 : decode cX4_init 13 = .ok (.bipush 6, 2) := by decide +kernel
theorem dX4_init_15 : decode cX4_init 15 = .ok (.newarray .int, 2) := by decide +kernel
theorem dX4_init_17 : decode cX4_init 17 = .ok (.putfield 13, 3) := by decide +kernel
theorem dX4_init_20 : decode cX4_init 20 = .ok (.aload_n 0, 1) := by decide +kernel
theorem dX4_init_21 : decode cX4_init 21 = .ok (.bipush 6, 2) := by decide +kernel
theorem dX4_init_23 : decode cX4_init 23 = .ok (.newarray .int, 2) := by decide +kernel
theorem dX4_init_25 : decode cX4_init 25 = .ok (.putfield 17, 3) := by decide +kernel
theorem dX4_init_28 : decode cX4_init 28 = .ok (.aload_n 0, 1) := by decide +kernel
theorem dX4_init_29 : decode cX4_init 29 = .ok (.bipush 6, 2) := by decide +kernel
theorem dX4_init_31 : decode cX4_init 31 = .ok (.newarray .long, 2) := by decide +kernel
theorem dX4_init_33 : decode cX4_init 33 = .ok (.putfield 20, 3) := by decide +kernel
theorem dX4_init_36 : decode cX4_init 36 = .ok (.aload_n 0, 1) := by decide +kernel
theorem dX4_init_37 : decode cX4_init 37 = .ok (.bipush 36, 2) := by decide +kernel
theorem dX4_init_39 : decode cX4_init 39 = .ok (.newarray .boolean, 2) := by decide +kernel
theorem dX4_init_41 : decode cX4_init 41 = .ok (.putfield 23, 3) := by decide +kernel
theorem dX4_init_44 : decode cX4_init 44 = .ok (.aload_n 0, 1) := by decide +kernel
theorem dX4_init_45 : decode cX4_init 45 = .ok (.bipush 36, 2) := by decide +kernel
theorem dX4_init_47 : decode cX4_init 47 = .ok (.newarray .int, 2) := by decide +kernel
theorem dX4_init_49 : decode cX4_init 49 = .ok (.putfield 27, 3) := by decide +kernel
theorem dX4_init_52 : decode cX4_init 52 = .ok (.aload_n 0, 1) := by decide +kernel
theorem dX4_init_53 : decode cX4_init 53 = .ok (.bipush 36, 2) := by decide +kernel
theorem dX4_init_55 : decode cX4_init 55 = .ok (.newarray .int, 2) := by decide +kernel
theorem dX4_init_57 : decode cX4_init 57 = .ok (.putfield 30, 3) := by decide +kernel
theorem dX4_init_60 : decode cX4_init 60 = .ok (.aload_n 0, 1) := by decide +kernel
theorem dX4_init_61 : decode cX4_init 61 = .ok (.bipush 36, 2) := by decide +kernel
theorem dX4_init_63 : decode cX4_init 63 = .ok (.newarray .int, 2) := by decide +kernel
theorem dX4_init_65 : decode cX4_init 65 = .ok (.putfield 33, 3) := by decide +kernel
theorem dX4_init_68 : decode cX4_init 68 = .ok (.aload_n 0, 1) := by decide +kernel
theorem dX4_init_69 : decode cX4_init 69 = .ok (.bipush 12, 2) := by decide +kernel
theorem dX4_init_71 : decode cX4_init 71 = .ok (.newarray .int, 2) := by decide +kernel
theorem dX4_init_73 : decode cX4_init 73 = .ok (.putfield 36, 3) := by decide +kernel
theorem dX4_init_76 : decode cX4_init 76 = .ok (.aload_n 0, 1) := by decide +kernel
theorem dX4_init_77 : decode cX4_init 77 = .ok (.bipush 12, 2) := by decide +kernel
theorem dX4_init_79 : decode cX4_init 79 = .ok (.newarray .long, 2) := by decide +kernel
theorem dX4_init_81 : decode cX4_init 81 = .ok (.putfield 39, 3) := by decide +kernel
theorem dX4_init_84 : decode cX4_init 84 = .ok (.aload_n 0, 1) := by decide +kernel
theorem dX4_init_85 : decode cX4_init 85 = .ok (.bipush 12, 2) := by decide +kernel
theorem dX4_init_87 : decode cX4_init 87 = .ok (.newarray .int, 2) := by decide +kernel
theorem dX4_init_89 : decode cX4_init 89 = .ok (.putfield 42, 3) := by decide +kernel
theorem dX4_init_92 : decode cX4_init 92 = .ok (.aload_n 0, 1) := by decide +kernel
theorem dX4_init_93 : decode cX4_init 93 = .ok (.bipush 12, 2) := by decide +kernel
theorem dX4_init_95 : decode cX4_init 95 = .ok (.newarray .int, 2) := by decide +kernel
theorem dX4_init_97 : decode cX4_init 97 = .ok (.putfield 45, 3) := by decide +kernel
theorem dX4_init_100 : decode cX4_init 100 = .ok (.aload_n 0, 1) := by decide +kernel
theorem dX4_init_101 : decode cX4_init 101 = .ok (.bipush 12, 2) := by decide +kernel
theorem dX4_init_103 : decode cX4_init 103 = .ok (.newarray .int, 2) := by decide +kernel
theorem dX4_init_105 : decode cX4_init 105 = .ok (.putfield 48, 3) := by decide +kernel
theorem dX4_init_108 : decode cX4_init 108 = .ok (.aload_n 0, 1) := by decide +kernel
theorem dX4_init_109 : decode cX4_init 109 = .ok (.bipush 12, 2) := by decide +kernel
theorem dX4_init_111 : decode cX4_init 111 = .ok (.newarray .boolean, 2) := by decide +kernel
theorem dX4_init_113 : decode cX4_init 113 = .ok (.putfield 51, 3) := by decide +kernel
theorem dX4_init_116 : decode cX4_init 116 = .ok (.aload_n 0, 1) := by decide +kernel
theorem dX4_init_117 : decode cX4_init 117 = .ok (.bipush 12, 2) := by decide +kernel
theorem dX4_init_119 : decode cX4_init 119 = .ok (.newarray .int, 2) := by decide +kernel
theorem dX4_init_121 : decode cX4_init 121 = .ok (.putfield 54, 3) := by decide +kernel
theorem dX4_init_124 : decode cX4_init 124 = .ok (.aload_n 0, 1) := by decide +kernel
theorem dX4_init_125 : decode cX4_init 125 = .ok (.bipush 72, 2) := by decide +kernel
theorem dX4_init_127 : decode cX4_init 127 = .ok (.newarray .int, 2) := by decide +kernel
theorem dX4_init_129 : decode cX4_init 129 = .ok (.putfield 57, 3) := by decide +kernel
theorem dX4_init_132 : decode cX4_init 132 = .ok (.aload_n 0, 1) := by decide +kernel
theorem dX4_init_133 : decode cX4_init 133 = .ok (.bipush 40, 2) := by decide +kernel
theorem dX4_init_135 : decode cX4_init 135 = .ok (.newarray .boolean, 2) := by decide +kernel
theorem dX4_init_137 : decode cX4_init 137 = .ok (.putfield 60, 3) := by decide +kernel
theorem dX4_init_140 : decode cX4_init 140 = .ok (.aload_n 0, 1) := by decide +kernel
theorem dX4_init_141 : decode cX4_init 141 = .ok (.sipush 365, 3) := by decide +kernel
theorem dX4_init_144 : decode cX4_init 144 = .ok (.putfield 63, 3) := by decide +kernel
theorem dX4_init_147 : decode cX4_init 147 = .ok (.return_, 1) := by decide +kernel
theorem dX4_isIn_0 : decode cX4_isIn 0 = .ok (.lload_n 0, 1) := by decide +kernel
theorem dX4_isIn_1 : decode cX4_isIn 1 = .ok (.lload_n 2, 1) := by decide +kernel
theorem dX4_isIn_2 : decode cX4_isIn 2 = .ok (.lcmp, 1) := by decide +kernel
theorem dX4_isIn_3 : decode cX4_isIn 3 = .ok (.ifCond .lt 14, 3) := by decide +kernel
theorem dX4_isIn_6 : decode cX4_isIn 6 = .ok (.lload_n 0, 1) := by decide +kernel
theorem dX4_isIn_7 : decode cX4_isIn 7 = .ok (.lload 4, 2) := by decide +kernel
theorem dX4_isIn_9 : decode cX4_isIn 9 = .ok (.lcmp, 1) := by decide +kernel
theorem dX4_isIn_10 : decode cX4_isIn 10 = .ok (.ifCond .gt 7, 3) := by decide +kernel
theorem dX4_isIn_13 : decode cX4_isIn 13 = .ok (.iconst 1, 1) := by decide +kernel
theorem dX4_isIn_14 : decode cX4_isIn 14 = .ok (.goto 4, 3) := by decide +kernel
theorem dX4_isIn_17 : decode cX4_isIn 17 = .ok (.iconst 0, 1) := by decide +kernel
theorem dX4_isIn_18 : decode cX4_isIn 18 = .ok (.ireturn, 1) := by decide +kernel
theorem dX4_isNotice_0 : decode cX4_isNotice 0 = .ok (.iload_n 1, 1) := by decide +kernel
theorem dX4_isNotice_1 : decode cX4_isNotice 1 = .ok (.ifCond .lt 15, 3) := by decide +kernel
theorem dX4_isNotice_4 : decode cX4_isNotice 4 = .ok (.iload_n 1, 1) := by decide +kernel
theorem dX4_isNotice_5 : decode cX4_isNotice 5 = .ok (.aload_n 0, 1) := by decide +kernel
theorem dX4_isNotice_6 : decode cX4_isNotice 6 = .ok (.getfield 67, 3) := by decide +kernel
theorem dX4_isNotice_9 : decode cX4_isNotice 9 = .ok (.if_icmp .ge 7, 3) := by decide +kernel
theorem dX4_isNotice_12 : decode cX4_isNotice 12 = .ok (.iconst 1, 1) := by decide +kernel
theorem dX4_isNotice_13 : decode cX4_isNotice 13 = .ok (.goto 4, 3) := by decide +kernel
theorem dX4_isNotice_16 : decode cX4_isNotice 16 = .ok (.iconst 0, 1) := by decide +kernel
theorem dX4_isNotice_17 : decode cX4_isNotice 17 = .ok (.ireturn, 1) := by decide +kernel
theorem dX4_isMove_0 : decode cX4_isMove 0 = .ok (.iload_n 1, 1) := by decide +kernel
theorem dX4_isMove_1 : decode cX4_isMove 1 = .ok (.ifCond .lt 15, 3) := by decide +kernel
theorem dX4_isMove_4 : decode cX4_isMove 4 = .ok (.iload_n 1, 1) := by decide +kernel
theorem dX4_isMove_5 : decode cX4_isMove 5 = .ok (.aload_n 0, 1) := by decide +kernel
theorem dX4_isMove_6 : decode cX4_isMove 6 = .ok (.getfield 70, 3) := by decide +kernel
theorem dX4_isMove_9 : decode cX4_isMove 9 = .ok (.if_icmp .ge 7, 3) := by decide +kernel
theorem dX4_isMove_12 : decode cX4_isMove 12 = .ok (.iconst 1, 1) := by decide +kernel
theorem dX4_isMove_13 : decode cX4_isMove 13 = .ok (.goto 4, 3) := by decide +kernel
theorem dX4_isMove_16 : decode cX4_isMove 16 = .ok (.iconst 0, 1) := by decide +kernel
theorem dX4_isMove_17 : decode cX4_isMove 17 = .ok (.ireturn, 1) := by decide +kernel
theorem dX4_isCountry_0 : decode cX4_isCountry 0 = .ok (.iload_n 0, 1) := by decide +kernel
theorem dX4_isCountry_1 : decode cX4_isCountry 1 = .ok (.ifCond .lt 13, 3) := by decide +kernel
theorem dX4_isCountry_4 : decode cX4_isCountry 4 = .ok (.iload_n 0, 1) := by decide +kernel
theorem dX4_isCountry_5 : decode cX4_isCountry 5 = .ok (.bipush 6, 2) := by decide +kernel
theorem dX4_isCountry_7 : decode cX4_isCountry 7 = .ok (.if_icmp .ge 7, 3) := by decide +kernel
theorem dX4_isCountry_10 : decode cX4_isCountry 10 = .ok (.iconst 1, 1) := by decide +kernel
theorem dX4_isCountry_11 : decode cX4_isCountry 11 = .ok (.goto 4, 3) := by decide +kernel
theorem dX4_isCountry_14 : decode cX4_isCountry 14 = .ok (.iconst 0, 1) := by decide +kernel
theorem dX4_isCountry_15 : decode cX4_isCountry 15 = .ok (.ireturn, 1) := by decide +kernel
theorem dX4_isPerson_0 : decode cX4_isPerson 0 = .ok (.iload_n 0, 1) := by decide +kernel
theorem dX4_isPerson_1 : decode cX4_isPerson 1 = .ok (.ifCond .lt 13, 3) := by decide +kernel
theorem dX4_isPerson_4 : decode cX4_isPerson 4 = .ok (.iload_n 0, 1) := by decide +kernel
theorem dX4_isPerson_5 : decode cX4_isPerson 5 = .ok (.bipush 8, 2) := by decide +kernel
theorem dX4_isPerson_7 : decode cX4_isPerson 7 = .ok (.if_icmp .ge 7, 3) := by decide +kernel
theorem dX4_isPerson_10 : decode cX4_isPerson 10 = .ok (.iconst 1, 1) := by decide +kernel
theorem dX4_isPerson_11 : decode cX4_isPerson 11 = .ok (.goto 4, 3) := by decide +kernel
theorem dX4_isPerson_14 : decode cX4_isPerson 14 = .ok (.iconst 0, 1) := by decide +kernel
theorem dX4_isPerson_15 : decode cX4_isPerson 15 = .ok (.ireturn, 1) := by decide +kernel
theorem dX4_isEvent_0 : decode cX4_isEvent 0 = .ok (.iload_n 0, 1) := by decide +kernel
theorem dX4_isEvent_1 : decode cX4_isEvent 1 = .ok (.ifCond .lt 12, 3) := by decide +kernel
theorem dX4_isEvent_4 : decode cX4_isEvent 4 = .ok (.iload_n 0, 1) := by decide +kernel
theorem dX4_isEvent_5 : decode cX4_isEvent 5 = .ok (.iconst 5, 1) := by decide +kernel
theorem dX4_isEvent_6 : decode cX4_isEvent 6 = .ok (.if_icmp .ge 7, 3) := by decide +kernel
theorem dX4_isEvent_9 : decode cX4_isEvent 9 = .ok (.iconst 1, 1) := by decide +kernel
theorem dX4_isEvent_10 : decode cX4_isEvent 10 = .ok (.goto 4, 3) := by decide +kernel
theorem dX4_isEvent_13 : decode cX4_isEvent 13 = .ok (.iconst 0, 1) := by decide +kernel
theorem dX4_isEvent_14 : decode cX4_isEvent 14 = .ok (.ireturn, 1) := by decide +kernel
theorem dX4_isSilent_0 : decode cX4_isSilent 0 = .ok (.aload_n 0, 1) := by decide +kernel
theorem dX4_isSilent_1 : decode cX4_isSilent 1 = .ok (.getfield 23, 3) := by decide +kernel
theorem dX4_isSilent_4 : decode cX4_isSilent 4 = .ok (.iload_n 1, 1) := by decide +kernel
theorem dX4_isSilent_5 : decode cX4_isSilent 5 = .ok (.baload, 1) := by decide +kernel
theorem dX4_isSilent_6 : decode cX4_isSilent 6 = .ok (.ifCond .eq 33, 3) := by decide +kernel
theorem dX4_isSilent_9 : decode cX4_isSilent 9 = .ok (.aload_n 0, 1) := by decide +kernel
theorem dX4_isSilent_10 : decode cX4_isSilent 10 = .ok (.getfield 33, 3) := by decide +kernel
theorem dX4_isSilent_13 : decode cX4_isSilent 13 = .ok (.iload_n 1, 1) := by decide +kernel
theorem dX4_isSilent_14 : decode cX4_isSilent 14 = .ok (.iaload, 1) := by decide +kernel
theorem dX4_isSilent_15 : decode cX4_isSilent 15 = .ok (.ifCond .ne 24, 3) := by decide +kernel
theorem dX4_isSilent_18 : decode cX4_isSilent 18 = .ok (.iload_n 2, 1) := by decide +kernel
theorem dX4_isSilent_19 : decode cX4_isSilent 19 = .ok (.aload_n 0, 1) := by decide +kernel
theorem dX4_isSilent_20 : decode cX4_isSilent 20 = .ok (.getfield 30, 3) := by decide +kernel
theorem dX4_isSilent_23 : decode cX4_isSilent 23 = .ok (.iload_n 1, 1) := by decide +kernel
theorem dX4_isSilent_24 : decode cX4_isSilent 24 = .ok (.iaload, 1) := by decide +kernel
theorem dX4_isSilent_25 : decode cX4_isSilent 25 = .ok (.isub, 1) := by decide +kernel
theorem dX4_isSilent_26 : decode cX4_isSilent 26 = .ok (.aload_n 0, 1) := by decide +kernel
theorem dX4_isSilent_27 : decode cX4_isSilent 27 = .ok (.getfield 27, 3) := by decide +kernel
theorem dX4_isSilent_30 : decode cX4_isSilent 30 = .ok (.iload_n 1, 1) := by decide +kernel
theorem dX4_isSilent_31 : decode cX4_isSilent 31 = .ok (.iaload, 1) := by decide +kernel
theorem dX4_isSilent_32 : decode cX4_isSilent 32 = .ok (.if_icmp .le 7, 3) := by decide +kernel
theorem dX4_isSilent_35 : decode cX4_isSilent 35 = .ok (.iconst 1, 1) := by decide +kernel
theorem dX4_isSilent_36 : decode cX4_isSilent 36 = .ok (.goto 4, 3) := by decide +kernel
theorem dX4_isSilent_39 : decode cX4_isSilent 39 = .ok (.iconst 0, 1) := by decide +kernel
theorem dX4_isSilent_40 : decode cX4_isSilent 40 = .ok (.ireturn, 1) := by decide +kernel
theorem dX4_day_0 : decode cX4_day 0 = .ok (.iload_n 1, 1) := by decide +kernel
theorem dX4_day_1 : decode cX4_day 1 = .ok (.i2l, 1) := by decide +kernel
theorem dX4_day_2 : decode cX4_day 2 = .ok (.aload_n 0, 1) := by decide +kernel
theorem dX4_day_3 : decode cX4_day 3 = .ok (.getfield 73, 3) := by decide +kernel
theorem dX4_day_6 : decode cX4_day 6 = .ok (.i2l, 1) := by decide +kernel
theorem dX4_day_7 : decode cX4_day 7 = .ok (.ldc2_w 76, 3) := by decide +kernel
theorem dX4_day_10 : decode cX4_day 10 = .ok (.invokestatic 78, 3) := by decide +kernel
theorem dX4_day_13 : decode cX4_day 13 = .ok (.ifCond .ne 5, 3) := by decide +kernel
theorem dX4_day_16 : decode cX4_day 16 = .ok (.iconst (-1), 1) := by decide +kernel
theorem dX4_day_17 : decode cX4_day 17 = .ok (.ireturn, 1) := by decide +kernel
theorem dX4_day_18 : decode cX4_day 18 = .ok (.iconst 0, 1) := by decide +kernel
theorem dX4_day_19 : decode cX4_day 19 = .ok (.istore_n 2, 1) := by decide +kernel
theorem dX4_day_20 : decode cX4_day 20 = .ok (.iconst 0, 1) := by decide +kernel
theorem dX4_day_21 : decode cX4_day 21 = .ok (.istore_n 3, 1) := by decide +kernel
theorem dX4_day_22 : decode cX4_day 22 = .ok (.iload_n 3, 1) := by decide +kernel
theorem dX4_day_23 : decode cX4_day 23 = .ok (.bipush 6, 2) := by decide +kernel
theorem dX4_day_25 : decode cX4_day 25 = .ok (.aload_n 0, 1) := by decide +kernel
theorem dX4_day_26 : decode cX4_day 26 = .ok (.getfield 67, 3) := by decide +kernel
theorem dX4_day_29 : decode cX4_day 29 = .ok (.imul, 1) := by decide +kernel
theorem dX4_day_30 : decode cX4_day 30 = .ok (.if_icmp .ge 38, 3) := by decide +kernel
theorem dX4_day_33 : decode cX4_day 33 = .ok (.iload_n 2, 1) := by decide +kernel
theorem dX4_day_34 : decode cX4_day 34 = .ok (.aload_n 0, 1) := by decide +kernel
theorem dX4_day_35 : decode cX4_day 35 = .ok (.iload_n 3, 1) := by decide +kernel
theorem dX4_day_36 : decode cX4_day 36 = .ok (.iload_n 1, 1) := by decide +kernel
theorem dX4_day_37 : decode cX4_day 37 = .ok (.invokevirtual 82, 3) := by decide +kernel
theorem dX4_day_40 : decode cX4_day 40 = .ok (.ifCond .eq 19, 3) := by decide +kernel
theorem dX4_day_43 : decode cX4_day 43 = .ok (.aload_n 0, 1) := by decide +kernel
theorem dX4_day_44 : decode cX4_day 44 = .ok (.iload_n 3, 1) := by decide +kernel
theorem dX4_day_45 : decode cX4_day 45 = .ok (.aload_n 0, 1) := by decide +kernel
theorem dX4_day_46 : decode cX4_day 46 = .ok (.getfield 73, 3) := by decide +kernel
theorem dX4_day_49 : decode cX4_day 49 = .ok (.invokevirtual 82, 3) := by decide +kernel
theorem dX4_day_52 : decode cX4_day 52 = .ok (.ifCond .ne 7, 3) := by decide +kernel
theorem dX4_day_55 : decode cX4_day 55 = .ok (.iconst 1, 1) := by decide +kernel
theorem dX4_day_56 : decode cX4_day 56 = .ok (.goto 4, 3) := by decide +kernel
theorem dX4_day_59 : decode cX4_day 59 = .ok (.iconst 0, 1) := by decide +kernel
theorem dX4_day_60 : decode cX4_day 60 = .ok (.iadd, 1) := by decide +kernel
theorem dX4_day_61 : decode cX4_day 61 = .ok (.istore_n 2, 1) := by decide +kernel
theorem dX4_day_62 : decode cX4_day 62 = .ok (.iinc 3 1, 3) := by decide +kernel
theorem dX4_day_65 : decode cX4_day 65 = .ok (.goto (-43), 3) := by decide +kernel
theorem dX4_day_68 : decode cX4_day 68 = .ok (.aload_n 0, 1) := by decide +kernel
theorem dX4_day_69 : decode cX4_day 69 = .ok (.iload_n 1, 1) := by decide +kernel
theorem dX4_day_70 : decode cX4_day 70 = .ok (.putfield 73, 3) := by decide +kernel
theorem dX4_day_73 : decode cX4_day 73 = .ok (.iload_n 2, 1) := by decide +kernel
theorem dX4_day_74 : decode cX4_day 74 = .ok (.ireturn, 1) := by decide +kernel
theorem dX4_notice_0 : decode cX4_notice 0 = .ok (.aload_n 0, 1) := by decide +kernel
theorem dX4_notice_1 : decode cX4_notice 1 = .ok (.getfield 67, 3) := by decide +kernel
theorem dX4_notice_4 : decode cX4_notice 4 = .ok (.bipush 6, 2) := by decide +kernel
theorem dX4_notice_6 : decode cX4_notice 6 = .ok (.if_icmp .eq 40, 3) := by decide +kernel
theorem dX4_notice_9 : decode cX4_notice 9 = .ok (.lload_n 1, 1) := by decide +kernel
theorem dX4_notice_10 : decode cX4_notice 10 = .ok (.lconst 1, 1) := by decide +kernel
theorem dX4_notice_11 : decode cX4_notice 11 = .ok (.ldc2_w 86, 3) := by decide +kernel
theorem dX4_notice_14 : decode cX4_notice 14 = .ok (.invokestatic 78, 3) := by decide +kernel
theorem dX4_notice_17 : decode cX4_notice 17 = .ok (.ifCond .eq 29, 3) := by decide +kernel
theorem dX4_notice_20 : decode cX4_notice 20 = .ok (.iload_n 3, 1) := by decide +kernel
theorem dX4_notice_21 : decode cX4_notice 21 = .ok (.i2l, 1) := by decide +kernel
theorem dX4_notice_22 : decode cX4_notice 22 = .ok (.lconst 0, 1) := by decide +kernel
theorem dX4_notice_23 : decode cX4_notice 23 = .ok (.ldc2_w 76, 3) := by decide +kernel
theorem dX4_notice_26 : decode cX4_notice 26 = .ok (.invokestatic 78, 3) := by decide +kernel
theorem dX4_notice_29 : decode cX4_notice 29 = .ok (.ifCond .eq 17, 3) := by decide +kernel
theorem dX4_notice_32 : decode cX4_notice 32 = .ok (.iload 4, 2) := by decide +kernel
theorem dX4_notice_34 : decode cX4_notice 34 = .ok (.i2l, 1) := by decide +kernel
theorem dX4_notice_35 : decode cX4_notice 35 = .ok (.iload_n 3, 1) := by decide +kernel
theorem dX4_notice_36 : decode cX4_notice 36 = .ok (.i2l, 1) := by decide +kernel
theorem dX4_notice_37 : decode cX4_notice 37 = .ok (.ldc2_w 76, 3) := by decide +kernel
theorem dX4_notice_40 : decode cX4_notice 40 = .ok (.invokestatic 78, 3) := by decide +kernel
theorem dX4_notice_43 : decode cX4_notice 43 = .ok (.ifCond .ne 5, 3) := by decide +kernel
theorem dX4_notice_46 : decode cX4_notice 46 = .ok (.iconst (-1), 1) := by decide +kernel
theorem dX4_notice_47 : decode cX4_notice 47 = .ok (.ireturn, 1) := by decide +kernel
theorem dX4_notice_48 : decode cX4_notice 48 = .ok (.aload_n 0, 1) := by decide +kernel
theorem dX4_notice_49 : decode cX4_notice 49 = .ok (.getfield 7, 3) := by decide +kernel
theorem dX4_notice_52 : decode cX4_notice 52 = .ok (.aload_n 0, 1) := by decide +kernel
theorem dX4_notice_53 : decode cX4_notice 53 = .ok (.getfield 67, 3) := by decide +kernel
theorem dX4_notice_56 : decode cX4_notice 56 = .ok (.lload_n 1, 1) := by decide +kernel
theorem dX4_notice_57 : decode cX4_notice 57 = .ok (.lastore, 1) := by decide +kernel
theorem dX4_notice_58 : decode cX4_notice 58 = .ok (.aload_n 0, 1) := by decide +kernel
theorem dX4_notice_59 : decode cX4_notice 59 = .ok (.getfield 13, 3) := by decide +kernel
theorem dX4_notice_62 : decode cX4_notice 62 = .ok (.aload_n 0, 1) := by decide +kernel
theorem dX4_notice_63 : decode cX4_notice 63 = .ok (.getfield 67, 3) := by decide +kernel
theorem dX4_notice_66 : decode cX4_notice 66 = .ok (.iload_n 3, 1) := by decide +kernel
theorem dX4_notice_67 : decode cX4_notice 67 = .ok (.iastore, 1) := by decide +kernel
theorem dX4_notice_68 : decode cX4_notice 68 = .ok (.aload_n 0, 1) := by decide +kernel
theorem dX4_notice_69 : decode cX4_notice 69 = .ok (.getfield 17, 3) := by decide +kernel
theorem dX4_notice_72 : decode cX4_notice 72 = .ok (.aload_n 0, 1) := by decide +kernel
theorem dX4_notice_73 : decode cX4_notice 73 = .ok (.getfield 67, 3) := by decide +kernel
theorem dX4_notice_76 : decode cX4_notice 76 = .ok (.iload 4, 2) := by decide +kernel
theorem dX4_notice_78 : decode cX4_notice 78 = .ok (.iastore, 1) := by decide +kernel
theorem dX4_notice_79 : decode cX4_notice 79 = .ok (.aload_n 0, 1) := by decide +kernel
theorem dX4_notice_80 : decode cX4_notice 80 = .ok (.dup, 1) := by decide +kernel
theorem dX4_notice_81 : decode cX4_notice 81 = .ok (.getfield 67, 3) := by decide +kernel
theorem dX4_notice_84 : decode cX4_notice 84 = .ok (.iconst 1, 1) := by decide +kernel
theorem dX4_notice_85 : decode cX4_notice 85 = .ok (.iadd, 1) := by decide +kernel
theorem dX4_notice_86 : decode cX4_notice 86 = .ok (.putfield 67, 3) := by decide +kernel
theorem dX4_notice_89 : decode cX4_notice 89 = .ok (.aload_n 0, 1) := by decide +kernel
theorem dX4_notice_90 : decode cX4_notice 90 = .ok (.getfield 67, 3) := by decide +kernel
theorem dX4_notice_93 : decode cX4_notice 93 = .ok (.iconst 1, 1) := by decide +kernel
theorem dX4_notice_94 : decode cX4_notice 94 = .ok (.isub, 1) := by decide +kernel
theorem dX4_notice_95 : decode cX4_notice 95 = .ok (.ireturn, 1) := by decide +kernel
theorem dX4_country_0 : decode cX4_country 0 = .ok (.aload_n 0, 1) := by decide +kernel
theorem dX4_country_1 : decode cX4_country 1 = .ok (.iload_n 1, 1) := by decide +kernel
theorem dX4_country_2 : decode cX4_country 2 = .ok (.invokevirtual 88, 3) := by decide +kernel
theorem dX4_country_5 : decode cX4_country 5 = .ok (.ifCond .eq 36, 3) := by decide +kernel
theorem dX4_country_8 : decode cX4_country 8 = .ok (.iload_n 2, 1) := by decide +kernel
theorem dX4_country_9 : decode cX4_country 9 = .ok (.invokestatic 92, 3) := by decide +kernel
theorem dX4_country_12 : decode cX4_country 12 = .ok (.ifCond .eq 29, 3) := by decide +kernel
theorem dX4_country_15 : decode cX4_country 15 = .ok (.iload_n 3, 1) := by decide +kernel
theorem dX4_country_16 : decode cX4_country 16 = .ok (.i2l, 1) := by decide +kernel
theorem dX4_country_17 : decode cX4_country 17 = .ok (.lconst 0, 1) := by decide +kernel
theorem dX4_country_18 : decode cX4_country 18 = .ok (.ldc2_w 95, 3) := by decide +kernel
theorem dX4_country_21 : decode cX4_country 21 = .ok (.invokestatic 78, 3) := by decide +kernel
theorem dX4_country_24 : decode cX4_country 24 = .ok (.ifCond .eq 17, 3) := by decide +kernel
theorem dX4_country_27 : decode cX4_country 27 = .ok (.aload_n 0, 1) := by decide +kernel
theorem dX4_country_28 : decode cX4_country 28 = .ok (.getfield 23, 3) := by decide +kernel
theorem dX4_country_31 : decode cX4_country 31 = .ok (.bipush 6, 2) := by decide +kernel
theorem dX4_country_33 : decode cX4_country 33 = .ok (.iload_n 1, 1) := by decide +kernel
theorem dX4_country_34 : decode cX4_country 34 = .ok (.imul, 1) := by decide +kernel
theorem dX4_country_35 : decode cX4_country 35 = .ok (.iload_n 2, 1) := by decide +kernel
theorem dX4_country_36 : decode cX4_country 36 = .ok (.iadd, 1) := by decide +kernel
theorem dX4_country_37 : decode cX4_country 37 = .ok (.baload, 1) := by decide +kernel
theorem dX4_country_38 : decode cX4_country 38 = .ok (.ifCond .eq 5, 3) := by decide +kernel
theorem dX4_country_41 : decode cX4_country 41 = .ok (.iconst 0, 1) := by decide +kernel
theorem dX4_country_42 : decode cX4_country 42 = .ok (.ireturn, 1) := by decide +kernel
theorem dX4_country_43 : decode cX4_country 43 = .ok (.bipush 6, 2) := by decide +kernel
theorem dX4_country_45 : decode cX4_country 45 = .ok (.iload_n 1, 1) := by decide +kernel
theorem dX4_country_46 : decode cX4_country 46 = .ok (.imul, 1) := by decide +kernel
theorem dX4_country_47 : decode cX4_country 47 = .ok (.iload_n 2, 1) := by decide +kernel
theorem dX4_country_48 : decode cX4_country 48 = .ok (.iadd, 1) := by decide +kernel
theorem dX4_country_49 : decode cX4_country 49 = .ok (.istore 4, 2) := by decide +kernel
theorem dX4_country_51 : decode cX4_country 51 = .ok (.aload_n 0, 1) := by decide +kernel
theorem dX4_country_52 : decode cX4_country 52 = .ok (.getfield 23, 3) := by decide +kernel
theorem dX4_country_55 : decode cX4_country 55 = .ok (.iload 4, 2) := by decide +kernel
theorem dX4_country_57 : decode cX4_country 57 = .ok (.iconst 1, 1) := by decide +kernel
theorem dX4_country_58 : decode cX4_country 58 = .ok (.bastore, 1) := by decide +kernel
theorem dX4_country_59 : decode cX4_country 59 = .ok (.aload_n 0, 1) := by decide +kernel
theorem dX4_country_60 : decode cX4_country 60 = .ok (.getfield 27, 3) := by decide +kernel
theorem dX4_country_63 : decode cX4_country 63 = .ok (.iload 4, 2) := by decide +kernel
theorem dX4_country_65 : decode cX4_country 65 = .ok (.iload_n 3, 1) := by decide +kernel
theorem dX4_country_66 : decode cX4_country 66 = .ok (.iastore, 1) := by decide +kernel
theorem dX4_country_67 : decode cX4_country 67 = .ok (.aload_n 0, 1) := by decide +kernel
theorem dX4_country_68 : decode cX4_country 68 = .ok (.getfield 30, 3) := by decide +kernel
theorem dX4_country_71 : decode cX4_country 71 = .ok (.iload 4, 2) := by decide +kernel
theorem dX4_country_73 : decode cX4_country 73 = .ok (.aload_n 0, 1) := by decide +kernel
theorem dX4_country_74 : decode cX4_country 74 = .ok (.getfield 73, 3) := by decide +kernel
theorem dX4_country_77 : decode cX4_country 77 = .ok (.iastore, 1) := by decide +kernel
theorem dX4_country_78 : decode cX4_country 78 = .ok (.aload_n 0, 1) := by decide +kernel
theorem dX4_country_79 : decode cX4_country 79 = .ok (.getfield 33, 3) := by decide +kernel
theorem dX4_country_82 : decode cX4_country 82 = .ok (.iload 4, 2) := by decide +kernel
theorem dX4_country_84 : decode cX4_country 84 = .ok (.iconst 0, 1) := by decide +kernel
theorem dX4_country_85 : decode cX4_country 85 = .ok (.iastore, 1) := by decide +kernel
theorem dX4_country_86 : decode cX4_country 86 = .ok (.iconst 1, 1) := by decide +kernel
theorem dX4_country_87 : decode cX4_country 87 = .ok (.ireturn, 1) := by decide +kernel
theorem dX4_says_0 : decode cX4_says 0 = .ok (.aload_n 0, 1) := by decide +kernel
theorem dX4_says_1 : decode cX4_says 1 = .ok (.iload_n 1, 1) := by decide +kernel
theorem dX4_says_2 : decode cX4_says 2 = .ok (.invokevirtual 88, 3) := by decide +kernel
theorem dX4_says_5 : decode cX4_says 5 = .ok (.ifCond .eq 10, 3) := by decide +kernel
theorem dX4_says_8 : decode cX4_says 8 = .ok (.iload_n 2, 1) := by decide +kernel
theorem dX4_says_9 : decode cX4_says 9 = .ok (.invokestatic 92, 3) := by decide +kernel
theorem dX4_says_12 : decode cX4_says 12 = .ok (.ifCond .ne 5, 3) := by decide +kernel
theorem dX4_says_15 : decode cX4_says 15 = .ok (.iconst 0, 1) := by decide +kernel
theorem dX4_says_16 : decode cX4_says 16 = .ok (.ireturn, 1) := by decide +kernel
theorem dX4_says_17 : decode cX4_says 17 = .ok (.bipush 6, 2) := by decide +kernel
theorem dX4_says_19 : decode cX4_says 19 = .ok (.iload_n 1, 1) := by decide +kernel
theorem dX4_says_20 : decode cX4_says 20 = .ok (.imul, 1) := by decide +kernel
theorem dX4_says_21 : decode cX4_says 21 = .ok (.iload_n 2, 1) := by decide +kernel
theorem dX4_says_22 : decode cX4_says 22 = .ok (.iadd, 1) := by decide +kernel
theorem dX4_says_23 : decode cX4_says 23 = .ok (.istore 4, 2) := by decide +kernel
theorem dX4_says_25 : decode cX4_says 25 = .ok (.aload_n 0, 1) := by decide +kernel
theorem dX4_says_26 : decode cX4_says 26 = .ok (.getfield 23, 3) := by decide +kernel
theorem dX4_says_29 : decode cX4_says 29 = .ok (.iload 4, 2) := by decide +kernel
theorem dX4_says_31 : decode cX4_says 31 = .ok (.baload, 1) := by decide +kernel
theorem dX4_says_32 : decode cX4_says 32 = .ok (.ifCond .eq 26, 3) := by decide +kernel
theorem dX4_says_35 : decode cX4_says 35 = .ok (.aload_n 0, 1) := by decide +kernel
theorem dX4_says_36 : decode cX4_says 36 = .ok (.getfield 33, 3) := by decide +kernel
theorem dX4_says_39 : decode cX4_says 39 = .ok (.iload 4, 2) := by decide +kernel
theorem dX4_says_41 : decode cX4_says 41 = .ok (.iaload, 1) := by decide +kernel
theorem dX4_says_42 : decode cX4_says 42 = .ok (.ifCond .ne 16, 3) := by decide +kernel
theorem dX4_says_45 : decode cX4_says 45 = .ok (.aload_n 0, 1) := by decide +kernel
theorem dX4_says_46 : decode cX4_says 46 = .ok (.iload 4, 2) := by decide +kernel
theorem dX4_says_48 : decode cX4_says 48 = .ok (.aload_n 0, 1) := by decide +kernel
theorem dX4_says_49 : decode cX4_says 49 = .ok (.getfield 73, 3) := by decide +kernel
theorem dX4_says_52 : decode cX4_says 52 = .ok (.invokevirtual 82, 3) := by decide +kernel
theorem dX4_says_55 : decode cX4_says 55 = .ok (.ifCond .eq 5, 3) := by decide +kernel
theorem dX4_says_58 : decode cX4_says 58 = .ok (.iconst 0, 1) := by decide +kernel
theorem dX4_says_59 : decode cX4_says 59 = .ok (.ireturn, 1) := by decide +kernel
theorem dX4_says_60 : decode cX4_says 60 = .ok (.aload_n 0, 1) := by decide +kernel
theorem dX4_says_61 : decode cX4_says 61 = .ok (.getfield 33, 3) := by decide +kernel
theorem dX4_says_64 : decode cX4_says 64 = .ok (.iload 4, 2) := by decide +kernel
theorem dX4_says_66 : decode cX4_says 66 = .ok (.iload_n 3, 1) := by decide +kernel
theorem dX4_says_67 : decode cX4_says 67 = .ok (.ifCond .eq 7, 3) := by decide +kernel
theorem dX4_says_70 : decode cX4_says 70 = .ok (.iconst 1, 1) := by decide +kernel
theorem dX4_says_71 : decode cX4_says 71 = .ok (.goto 4, 3) := by decide +kernel
theorem dX4_says_74 : decode cX4_says 74 = .ok (.iconst 2, 1) := by decide +kernel
theorem dX4_says_75 : decode cX4_says 75 = .ok (.iastore, 1) := by decide +kernel
theorem dX4_says_76 : decode cX4_says 76 = .ok (.iconst 1, 1) := by decide +kernel
theorem dX4_says_77 : decode cX4_says 77 = .ok (.ireturn, 1) := by decide +kernel
theorem dX4_state_0 : decode cX4_state 0 = .ok (.aload_n 0, 1) := by decide +kernel
theorem dX4_state_1 : decode cX4_state 1 = .ok (.iload_n 1, 1) := by decide +kernel
theorem dX4_state_2 : decode cX4_state 2 = .ok (.invokevirtual 88, 3) := by decide +kernel
theorem dX4_state_5 : decode cX4_state 5 = .ok (.ifCond .ne 5, 3) := by decide +kernel
theorem dX4_state_8 : decode cX4_state 8 = .ok (.iconst (-1), 1) := by decide +kernel
theorem dX4_state_9 : decode cX4_state 9 = .ok (.ireturn, 1) := by decide +kernel
theorem dX4_state_10 : decode cX4_state 10 = .ok (.iconst 0, 1) := by decide +kernel
theorem dX4_state_11 : decode cX4_state 11 = .ok (.istore_n 2, 1) := by decide +kernel
theorem dX4_state_12 : decode cX4_state 12 = .ok (.iconst 0, 1) := by decide +kernel
theorem dX4_state_13 : decode cX4_state 13 = .ok (.istore_n 3, 1) := by decide +kernel
theorem dX4_state_14 : decode cX4_state 14 = .ok (.iconst 1, 1) := by decide +kernel
theorem dX4_state_15 : decode cX4_state 15 = .ok (.istore 4, 2) := by decide +kernel
theorem dX4_state_17 : decode cX4_state 17 = .ok (.iconst 0, 1) := by decide +kernel
theorem dX4_state_18 : decode cX4_state 18 = .ok (.istore 5, 2) := by decide +kernel
theorem dX4_state_20 : decode cX4_state 20 = .ok (.iload 5, 2) := by decide +kernel
theorem dX4_state_22 : decode cX4_state 22 = .ok (.bipush 6, 2) := by decide +kernel
theorem dX4_state_24 : decode cX4_state 24 = .ok (.if_icmp .ge 115, 3) := by decide +kernel
theorem dX4_state_27 : decode cX4_state 27 = .ok (.bipush 6, 2) := by decide +kernel
theorem dX4_state_29 : decode cX4_state 29 = .ok (.iload_n 1, 1) := by decide +kernel
theorem dX4_state_30 : decode cX4_state 30 = .ok (.imul, 1) := by decide +kernel
theorem dX4_state_31 : decode cX4_state 31 = .ok (.iload 5, 2) := by decide +kernel
theorem dX4_state_33 : decode cX4_state 33 = .ok (.iadd, 1) := by decide +kernel
theorem dX4_state_34 : decode cX4_state 34 = .ok (.istore 6, 2) := by decide +kernel
theorem dX4_state_36 : decode cX4_state 36 = .ok (.iload_n 2, 1) := by decide +kernel
theorem dX4_state_37 : decode cX4_state 37 = .ok (.ifCond .ne 24, 3) := by decide +kernel
theorem dX4_state_40 : decode cX4_state 40 = .ok (.aload_n 0, 1) := by decide +kernel
theorem dX4_state_41 : decode cX4_state 41 = .ok (.getfield 23, 3) := by decide +kernel
theorem dX4_state_44 : decode cX4_state 44 = .ok (.iload 6, 2) := by decide +kernel
theorem dX4_state_46 : decode cX4_state 46 = .ok (.baload, 1) := by decide +kernel
theorem dX4_state_47 : decode cX4_state 47 = .ok (.ifCond .eq 18, 3) := by decide +kernel
theorem dX4_state_50 : decode cX4_state 50 = .ok (.aload_n 0, 1) := by decide +kernel
theorem dX4_state_51 : decode cX4_state 51 = .ok (.getfield 33, 3) := by decide +kernel
theorem dX4_state_54 : decode cX4_state 54 = .ok (.iload 6, 2) := by decide +kernel
theorem dX4_state_56 : decode cX4_state 56 = .ok (.iaload, 1) := by decide +kernel
theorem dX4_state_57 : decode cX4_state 57 = .ok (.iconst 2, 1) := by decide +kernel
theorem dX4_state_58 : decode cX4_state 58 = .ok (.if_icmp .ne 7, 3) := by decide +kernel
theorem dX4_state_61 : decode cX4_state 61 = .ok (.iconst 1, 1) := by decide +kernel
theorem dX4_state_62 : decode cX4_state 62 = .ok (.goto 4, 3) := by decide +kernel
theorem dX4_state_65 : decode cX4_state 65 = .ok (.iconst 0, 1) := by decide +kernel
theorem dX4_state_66 : decode cX4_state 66 = .ok (.istore_n 2, 1) := by decide +kernel
theorem dX4_state_67 : decode cX4_state 67 = .ok (.iload_n 3, 1) := by decide +kernel
theorem dX4_state_68 : decode cX4_state 68 = .ok (.ifCond .ne 13, 3) := by decide +kernel
theorem dX4_state_71 : decode cX4_state 71 = .ok (.aload_n 0, 1) := by decide +kernel
theorem dX4_state_72 : decode cX4_state 72 = .ok (.getfield 23, 3) := by decide +kernel
theorem dX4_state_75 : decode cX4_state 75 = .ok (.iload 6, 2) := by decide +kernel
theorem dX4_state_77 : decode cX4_state 77 = .ok (.baload, 1) := by decide +kernel
theorem dX4_state_78 : decode cX4_state 78 = .ok (.ifCond .eq 7, 3) := by decide +kernel
theorem dX4_state_81 : decode cX4_state 81 = .ok (.iconst 1, 1) := by decide +kernel
theorem dX4_state_82 : decode cX4_state 82 = .ok (.goto 4, 3) := by decide +kernel
theorem dX4_state_85 : decode cX4_state 85 = .ok (.iconst 0, 1) := by decide +kernel
theorem dX4_state_86 : decode cX4_state 86 = .ok (.istore_n 3, 1) := by decide +kernel
theorem dX4_state_87 : decode cX4_state 87 = .ok (.iload 4, 2) := by decide +kernel
theorem dX4_state_89 : decode cX4_state 89 = .ok (.ifCond .eq 41, 3) := by decide +kernel
theorem dX4_state_92 : decode cX4_state 92 = .ok (.aload_n 0, 1) := by decide +kernel
theorem dX4_state_93 : decode cX4_state 93 = .ok (.getfield 23, 3) := by decide +kernel
theorem dX4_state_96 : decode cX4_state 96 = .ok (.iload 6, 2) := by decide +kernel
theorem dX4_state_98 : decode cX4_state 98 = .ok (.baload, 1) := by decide +kernel
theorem dX4_state_99 : decode cX4_state 99 = .ok (.ifCond .eq 27, 3) := by decide +kernel
theorem dX4_state_102 : decode cX4_state 102 = .ok (.aload_n 0, 1) := by decide +kernel
theorem dX4_state_103 : decode cX4_state 103 = .ok (.getfield 33, 3) := by decide +kernel
theorem dX4_state_106 : decode cX4_state 106 = .ok (.iload 6, 2) := by decide +kernel
theorem dX4_state_108 : decode cX4_state 108 = .ok (.iaload, 1) := by decide +kernel
theorem dX4_state_109 : decode cX4_state 109 = .ok (.iconst 1, 1) := by decide +kernel
theorem dX4_state_110 : decode cX4_state 110 = .ok (.if_icmp .eq 16, 3) := by decide +kernel
theorem dX4_state_113 : decode cX4_state 113 = .ok (.aload_n 0, 1) := by decide +kernel
theorem dX4_state_114 : decode cX4_state 114 = .ok (.iload 6, 2) := by decide +kernel
theorem dX4_state_116 : decode cX4_state 116 = .ok (.aload_n 0, 1) := by decide +kernel
theorem dX4_state_117 : decode cX4_state 117 = .ok (.getfield 73, 3) := by decide +kernel
theorem dX4_state_120 : decode cX4_state 120 = .ok (.invokevirtual 82, 3) := by decide +kernel
theorem dX4_state_123 : decode cX4_state 123 = .ok (.ifCond .eq 7, 3) := by decide +kernel
theorem dX4_state_126 : decode cX4_state 126 = .ok (.iconst 1, 1) := by decide +kernel
theorem dX4_state_127 : decode cX4_state 127 = .ok (.goto 4, 3) := by decide +kernel
theorem dX4_state_130 : decode cX4_state 130 = .ok (.iconst 0, 1) := by decide +kernel
theorem dX4_state_131 : decode cX4_state 131 = .ok (.istore 4, 2) := by decide +kernel
theorem dX4_state_133 : decode cX4_state 133 = .ok (.iinc 5 1, 3) := by decide +kernel
theorem dX4_state_136 : decode cX4_state 136 = .ok (.goto (-116), 3) := by decide +kernel
theorem dX4_state_139 : decode cX4_state 139 = .ok (.iload_n 2, 1) := by decide +kernel
theorem dX4_state_140 : decode cX4_state 140 = .ok (.ifCond .eq 5, 3) := by decide +kernel
theorem dX4_state_143 : decode cX4_state 143 = .ok (.iconst 2, 1) := by decide +kernel
theorem dX4_state_144 : decode cX4_state 144 = .ok (.ireturn, 1) := by decide +kernel
theorem dX4_state_145 : decode cX4_state 145 = .ok (.aload_n 0, 1) := by decide +kernel
theorem dX4_state_146 : decode cX4_state 146 = .ok (.getfield 73, 3) := by decide +kernel
theorem dX4_state_149 : decode cX4_state 149 = .ok (.aload_n 0, 1) := by decide +kernel
theorem dX4_state_150 : decode cX4_state 150 = .ok (.getfield 17, 3) := by decide +kernel
theorem dX4_state_153 : decode cX4_state 153 = .ok (.iload_n 1, 1) := by decide +kernel
theorem dX4_state_154 : decode cX4_state 154 = .ok (.iaload, 1) := by decide +kernel
theorem dX4_state_155 : decode cX4_state 155 = .ok (.if_icmp .le 5, 3) := by decide +kernel
theorem dX4_state_158 : decode cX4_state 158 = .ok (.iconst 3, 1) := by decide +kernel
theorem dX4_state_159 : decode cX4_state 159 = .ok (.ireturn, 1) := by decide +kernel
theorem dX4_state_160 : decode cX4_state 160 = .ok (.iload_n 3, 1) := by decide +kernel
theorem dX4_state_161 : decode cX4_state 161 = .ok (.ifCond .eq 12, 3) := by decide +kernel
theorem dX4_state_164 : decode cX4_state 164 = .ok (.iload 4, 2) := by decide +kernel
theorem dX4_state_166 : decode cX4_state 166 = .ok (.ifCond .eq 7, 3) := by decide +kernel
theorem dX4_state_169 : decode cX4_state 169 = .ok (.iconst 1, 1) := by decide +kernel
theorem dX4_state_170 : decode cX4_state 170 = .ok (.goto 4, 3) := by decide +kernel
theorem dX4_state_173 : decode cX4_state 173 = .ok (.iconst 0, 1) := by decide +kernel
theorem dX4_state_174 : decode cX4_state 174 = .ok (.ireturn, 1) := by decide +kernel
theorem dX4_move_0 : decode cX4_move 0 = .ok (.aload_n 0, 1) := by decide +kernel
theorem dX4_move_1 : decode cX4_move 1 = .ok (.iload_n 1, 1) := by decide +kernel
theorem dX4_move_2 : decode cX4_move 2 = .ok (.invokevirtual 88, 3) := by decide +kernel
theorem dX4_move_5 : decode cX4_move 5 = .ok (.ifCond .eq 52, 3) := by decide +kernel
theorem dX4_move_8 : decode cX4_move 8 = .ok (.lload_n 2, 1) := by decide +kernel
theorem dX4_move_9 : decode cX4_move 9 = .ok (.lconst 1, 1) := by decide +kernel
theorem dX4_move_10 : decode cX4_move 10 = .ok (.lcmp, 1) := by decide +kernel
theorem dX4_move_11 : decode cX4_move 11 = .ok (.ifCond .lt 46, 3) := by decide +kernel
theorem dX4_move_14 : decode cX4_move 14 = .ok (.iload 4, 2) := by decide +kernel
theorem dX4_move_16 : decode cX4_move 16 = .ok (.i2l, 1) := by decide +kernel
theorem dX4_move_17 : decode cX4_move 17 = .ok (.aload_n 0, 1) := by decide +kernel
theorem dX4_move_18 : decode cX4_move 18 = .ok (.getfield 13, 3) := by decide +kernel
theorem dX4_move_21 : decode cX4_move 21 = .ok (.iload_n 1, 1) := by decide +kernel
theorem dX4_move_22 : decode cX4_move 22 = .ok (.iaload, 1) := by decide +kernel
theorem dX4_move_23 : decode cX4_move 23 = .ok (.i2l, 1) := by decide +kernel
theorem dX4_move_24 : decode cX4_move 24 = .ok (.aload_n 0, 1) := by decide +kernel
theorem dX4_move_25 : decode cX4_move 25 = .ok (.getfield 17, 3) := by decide +kernel
theorem dX4_move_28 : decode cX4_move 28 = .ok (.iload_n 1, 1) := by decide +kernel
theorem dX4_move_29 : decode cX4_move 29 = .ok (.iaload, 1) := by decide +kernel
theorem dX4_move_30 : decode cX4_move 30 = .ok (.i2l, 1) := by decide +kernel
theorem dX4_move_31 : decode cX4_move 31 = .ok (.invokestatic 78, 3) := by decide +kernel
theorem dX4_move_34 : decode cX4_move 34 = .ok (.ifCond .eq 23, 3) := by decide +kernel
theorem dX4_move_37 : decode cX4_move 37 = .ok (.iload 4, 2) := by decide +kernel
theorem dX4_move_39 : decode cX4_move 39 = .ok (.aload_n 0, 1) := by decide +kernel
theorem dX4_move_40 : decode cX4_move 40 = .ok (.getfield 73, 3) := by decide +kernel
theorem dX4_move_43 : decode cX4_move 43 = .ok (.iconst 3, 1) := by decide +kernel
theorem dX4_move_44 : decode cX4_move 44 = .ok (.iadd, 1) := by decide +kernel
theorem dX4_move_45 : decode cX4_move 45 = .ok (.if_icmp .lt 12, 3) := by decide +kernel
theorem dX4_move_48 : decode cX4_move 48 = .ok (.aload_n 0, 1) := by decide +kernel
theorem dX4_move_49 : decode cX4_move 49 = .ok (.getfield 70, 3) := by decide +kernel
theorem dX4_move_52 : decode cX4_move 52 = .ok (.bipush 12, 2) := by decide +kernel
theorem dX4_move_54 : decode cX4_move 54 = .ok (.if_icmp .ne 5, 3) := by decide +kernel
theorem dX4_move_57 : decode cX4_move 57 = .ok (.iconst (-1), 1) := by decide +kernel
theorem dX4_move_58 : decode cX4_move 58 = .ok (.ireturn, 1) := by decide +kernel
theorem dX4_move_59 : decode cX4_move 59 = .ok (.aload_n 0, 1) := by decide +kernel
theorem dX4_move_60 : decode cX4_move 60 = .ok (.iload_n 1, 1) := by decide +kernel
theorem dX4_move_61 : decode cX4_move 61 = .ok (.invokevirtual 97, 3) := by decide +kernel
theorem dX4_move_64 : decode cX4_move 64 = .ok (.iconst 1, 1) := by decide +kernel
theorem dX4_move_65 : decode cX4_move 65 = .ok (.if_icmp .eq 6, 3) := by decide +kernel
theorem dX4_move_68 : decode cX4_move 68 = .ok (.bipush (-2), 2) := by decide +kernel
theorem dX4_move_70 : decode cX4_move 70 = .ok (.ireturn, 1) := by decide +kernel
theorem dX4_move_71 : decode cX4_move 71 = .ok (.lload_n 2, 1) := by decide +kernel
theorem dX4_move_72 : decode cX4_move 72 = .ok (.aload_n 0, 1) := by decide +kernel
theorem dX4_move_73 : decode cX4_move 73 = .ok (.iload_n 1, 1) := by decide +kernel
theorem dX4_move_74 : decode cX4_move 74 = .ok (.invokevirtual 101, 3) := by decide +kernel
theorem dX4_move_77 : decode cX4_move 77 = .ok (.lcmp, 1) := by decide +kernel
theorem dX4_move_78 : decode cX4_move 78 = .ok (.ifCond .le 6, 3) := by decide +kernel
theorem dX4_move_81 : decode cX4_move 81 = .ok (.bipush (-3), 2) := by decide +kernel
theorem dX4_move_83 : decode cX4_move 83 = .ok (.ireturn, 1) := by decide +kernel
theorem dX4_move_84 : decode cX4_move 84 = .ok (.aload_n 0, 1) := by decide +kernel
theorem dX4_move_85 : decode cX4_move 85 = .ok (.getfield 36, 3) := by decide +kernel
theorem dX4_move_88 : decode cX4_move 88 = .ok (.aload_n 0, 1) := by decide +kernel
theorem dX4_move_89 : decode cX4_move 89 = .ok (.getfield 70, 3) := by decide +kernel
theorem dX4_move_92 : decode cX4_move 92 = .ok (.iload_n 1, 1) := by decide +kernel
theorem dX4_move_93 : decode cX4_move 93 = .ok (.iastore, 1) := by decide +kernel
theorem dX4_move_94 : decode cX4_move 94 = .ok (.aload_n 0, 1) := by decide +kernel
theorem dX4_move_95 : decode cX4_move 95 = .ok (.getfield 39, 3) := by decide +kernel
theorem dX4_move_98 : decode cX4_move 98 = .ok (.aload_n 0, 1) := by decide +kernel
theorem dX4_move_99 : decode cX4_move 99 = .ok (.getfield 70, 3) := by decide +kernel
theorem dX4_move_102 : decode cX4_move 102 = .ok (.lload_n 2, 1) := by decide +kernel
theorem dX4_move_103 : decode cX4_move 103 = .ok (.lastore, 1) := by decide +kernel
theorem dX4_move_104 : decode cX4_move 104 = .ok (.aload_n 0, 1) := by decide +kernel
theorem dX4_move_105 : decode cX4_move 105 = .ok (.getfield 42, 3) := by decide +kernel
theorem dX4_move_108 : decode cX4_move 108 = .ok (.aload_n 0, 1) := by decide +kernel
theorem dX4_move_109 : decode cX4_move 109 = .ok (.getfield 70, 3) := by decide +kernel
theorem dX4_move_112 : decode cX4_move 112 = .ok (.iload 4, 2) := by decide +kernel
theorem dX4_move_114 : decode cX4_move 114 = .ok (.iastore, 1) := by decide +kernel
theorem dX4_move_115 : decode cX4_move 115 = .ok (.aload_n 0, 1) := by decide +kernel
theorem dX4_move_116 : decode cX4_move 116 = .ok (.getfield 45, 3) := by decide +kernel
theorem dX4_move_119 : decode cX4_move 119 = .ok (.aload_n 0, 1) := by decide +kernel
theorem dX4_move_120 : decode cX4_move 120 = .ok (.getfield 70, 3) := by decide +kernel
theorem dX4_move_123 : decode cX4_move 123 = .ok (.iconst 0, 1) := by decide +kernel
theorem dX4_move_124 : decode cX4_move 124 = .ok (.iastore, 1) := by decide +kernel
theorem dX4_move_125 : decode cX4_move 125 = .ok (.aload_n 0, 1) := by decide +kernel
theorem dX4_move_126 : decode cX4_move 126 = .ok (.getfield 48, 3) := by decide +kernel
theorem dX4_move_129 : decode cX4_move 129 = .ok (.aload_n 0, 1) := by decide +kernel
theorem dX4_move_130 : decode cX4_move 130 = .ok (.getfield 70, 3) := by decide +kernel
theorem dX4_move_133 : decode cX4_move 133 = .ok (.aload_n 0, 1) := by decide +kernel
theorem dX4_move_134 : decode cX4_move 134 = .ok (.getfield 73, 3) := by decide +kernel
theorem dX4_move_137 : decode cX4_move 137 = .ok (.iastore, 1) := by decide +kernel
theorem dX4_move_138 : decode cX4_move 138 = .ok (.aload_n 0, 1) := by decide +kernel
theorem dX4_move_139 : decode cX4_move 139 = .ok (.dup, 1) := by decide +kernel
theorem dX4_move_140 : decode cX4_move 140 = .ok (.getfield 70, 3) := by decide +kernel
theorem dX4_move_143 : decode cX4_move 143 = .ok (.iconst 1, 1) := by decide +kernel
theorem dX4_move_144 : decode cX4_move 144 = .ok (.iadd, 1) := by decide +kernel
theorem dX4_move_145 : decode cX4_move 145 = .ok (.putfield 70, 3) := by decide +kernel
theorem dX4_move_148 : decode cX4_move 148 = .ok (.aload_n 0, 1) := by decide +kernel
theorem dX4_move_149 : decode cX4_move 149 = .ok (.getfield 70, 3) := by decide +kernel
theorem dX4_move_152 : decode cX4_move 152 = .ok (.iconst 1, 1) := by decide +kernel
theorem dX4_move_153 : decode cX4_move 153 = .ok (.isub, 1) := by decide +kernel
theorem dX4_move_154 : decode cX4_move 154 = .ok (.ireturn, 1) := by decide +kernel
theorem dX4_moveState_0 : decode cX4_moveState 0 = .ok (.aload_n 0, 1) := by decide +kernel
theorem dX4_moveState_1 : decode cX4_moveState 1 = .ok (.iload_n 1, 1) := by decide +kernel
theorem dX4_moveState_2 : decode cX4_moveState 2 = .ok (.invokevirtual 105, 3) := by decide +kernel
theorem dX4_moveState_5 : decode cX4_moveState 5 = .ok (.ifCond .eq 12, 3) := by decide +kernel
theorem dX4_moveState_8 : decode cX4_moveState 8 = .ok (.aload_n 0, 1) := by decide +kernel
theorem dX4_moveState_9 : decode cX4_moveState 9 = .ok (.getfield 45, 3) := by decide +kernel
theorem dX4_moveState_12 : decode cX4_moveState 12 = .ok (.iload_n 1, 1) := by decide +kernel
theorem dX4_moveState_13 : decode cX4_moveState 13 = .ok (.iaload, 1) := by decide +kernel
theorem dX4_moveState_14 : decode cX4_moveState 14 = .ok (.goto 4, 3) := by decide +kernel
theorem dX4_moveState_17 : decode cX4_moveState 17 = .ok (.iconst (-1), 1) := by decide +kernel
theorem dX4_moveState_18 : decode cX4_moveState 18 = .ok (.ireturn, 1) := by decide +kernel
theorem dX4_right_0 : decode cX4_right 0 = .ok (.iload_n 1, 1) := by decide +kernel
theorem dX4_right_1 : decode cX4_right 1 = .ok (.invokestatic 108, 3) := by decide +kernel
theorem dX4_right_4 : decode cX4_right 4 = .ok (.ifCond .eq 10, 3) := by decide +kernel
theorem dX4_right_7 : decode cX4_right 7 = .ok (.iload_n 2, 1) := by decide +kernel
theorem dX4_right_8 : decode cX4_right 8 = .ok (.invokestatic 111, 3) := by decide +kernel
theorem dX4_right_11 : decode cX4_right 11 = .ok (.ifCond .ne 5, 3) := by decide +kernel
theorem dX4_right_14 : decode cX4_right 14 = .ok (.iconst 0, 1) := by decide +kernel
theorem dX4_right_15 : decode cX4_right 15 = .ok (.ireturn, 1) := by decide +kernel
theorem dX4_right_16 : decode cX4_right 16 = .ok (.aload_n 0, 1) := by decide +kernel
theorem dX4_right_17 : decode cX4_right 17 = .ok (.getfield 60, 3) := by decide +kernel
theorem dX4_right_20 : decode cX4_right 20 = .ok (.iconst 5, 1) := by decide +kernel
theorem dX4_right_21 : decode cX4_right 21 = .ok (.iload_n 1, 1) := by decide +kernel
theorem dX4_right_22 : decode cX4_right 22 = .ok (.imul, 1) := by decide +kernel
theorem dX4_right_23 : decode cX4_right 23 = .ok (.iload_n 2, 1) := by decide +kernel
theorem dX4_right_24 : decode cX4_right 24 = .ok (.iadd, 1) := by decide +kernel
theorem dX4_right_25 : decode cX4_right 25 = .ok (.iload_n 3, 1) := by decide +kernel
theorem dX4_right_26 : decode cX4_right 26 = .ok (.bastore, 1) := by decide +kernel
theorem dX4_right_27 : decode cX4_right 27 = .ok (.iconst 1, 1) := by decide +kernel
theorem dX4_right_28 : decode cX4_right 28 = .ok (.ireturn, 1) := by decide +kernel
theorem dX4_may_0 : decode cX4_may 0 = .ok (.iload_n 1, 1) := by decide +kernel
theorem dX4_may_1 : decode cX4_may 1 = .ok (.invokestatic 108, 3) := by decide +kernel
theorem dX4_may_4 : decode cX4_may 4 = .ok (.ifCond .eq 27, 3) := by decide +kernel
theorem dX4_may_7 : decode cX4_may 7 = .ok (.iload_n 2, 1) := by decide +kernel
theorem dX4_may_8 : decode cX4_may 8 = .ok (.invokestatic 111, 3) := by decide +kernel
theorem dX4_may_11 : decode cX4_may 11 = .ok (.ifCond .eq 20, 3) := by decide +kernel
theorem dX4_may_14 : decode cX4_may 14 = .ok (.aload_n 0, 1) := by decide +kernel
theorem dX4_may_15 : decode cX4_may 15 = .ok (.getfield 60, 3) := by decide +kernel
theorem dX4_may_18 : decode cX4_may 18 = .ok (.iconst 5, 1) := by decide +kernel
theorem dX4_may_19 : decode cX4_may 19 = .ok (.iload_n 1, 1) := by decide +kernel
theorem dX4_may_20 : decode cX4_may 20 = .ok (.imul, 1) := by decide +kernel
theorem dX4_may_21 : decode cX4_may 21 = .ok (.iload_n 2, 1) := by decide +kernel
theorem dX4_may_22 : decode cX4_may 22 = .ok (.iadd, 1) := by decide +kernel
theorem dX4_may_23 : decode cX4_may 23 = .ok (.baload, 1) := by decide +kernel
theorem dX4_may_24 : decode cX4_may 24 = .ok (.ifCond .eq 7, 3) := by decide +kernel
theorem dX4_may_27 : decode cX4_may 27 = .ok (.iconst 1, 1) := by decide +kernel
theorem dX4_may_28 : decode cX4_may 28 = .ok (.goto 4, 3) := by decide +kernel
theorem dX4_may_31 : decode cX4_may 31 = .ok (.iconst 0, 1) := by decide +kernel
theorem dX4_may_32 : decode cX4_may 32 = .ok (.ireturn, 1) := by decide +kernel
theorem dX4_leads_0 : decode cX4_leads 0 = .ok (.iload_n 1, 1) := by decide +kernel
theorem dX4_leads_1 : decode cX4_leads 1 = .ok (.tableswitch 67 0 4 #[35, 45, 56, 67, 35], 35) := by decide +kernel
theorem dX4_leads_36 : decode cX4_leads 36 = .ok (.iload_n 0, 1) := by decide +kernel
theorem dX4_leads_37 : decode cX4_leads 37 = .ok (.ifCond .ne 7, 3) := by decide +kernel
theorem dX4_leads_40 : decode cX4_leads 40 = .ok (.iconst 1, 1) := by decide +kernel
theorem dX4_leads_41 : decode cX4_leads 41 = .ok (.goto 4, 3) := by decide +kernel
theorem dX4_leads_44 : decode cX4_leads 44 = .ok (.iconst 0, 1) := by decide +kernel
theorem dX4_leads_45 : decode cX4_leads 45 = .ok (.ireturn, 1) := by decide +kernel
theorem dX4_leads_46 : decode cX4_leads 46 = .ok (.iload_n 0, 1) := by decide +kernel
theorem dX4_leads_47 : decode cX4_leads 47 = .ok (.iconst 1, 1) := by decide +kernel
theorem dX4_leads_48 : decode cX4_leads 48 = .ok (.if_icmp .ne 7, 3) := by decide +kernel
theorem dX4_leads_51 : decode cX4_leads 51 = .ok (.iconst 1, 1) := by decide +kernel
theorem dX4_leads_52 : decode cX4_leads 52 = .ok (.goto 4, 3) := by decide +kernel
theorem dX4_leads_55 : decode cX4_leads 55 = .ok (.iconst 0, 1) := by decide +kernel
theorem dX4_leads_56 : decode cX4_leads 56 = .ok (.ireturn, 1) := by decide +kernel
theorem dX4_leads_57 : decode cX4_leads 57 = .ok (.iload_n 0, 1) := by decide +kernel
theorem dX4_leads_58 : decode cX4_leads 58 = .ok (.iconst 2, 1) := by decide +kernel
theorem dX4_leads_59 : decode cX4_leads 59 = .ok (.if_icmp .ne 7, 3) := by decide +kernel
theorem dX4_leads_62 : decode cX4_leads 62 = .ok (.iconst 1, 1) := by decide +kernel
theorem dX4_leads_63 : decode cX4_leads 63 = .ok (.goto 4, 3) := by decide +kernel
theorem dX4_leads_66 : decode cX4_leads 66 = .ok (.iconst 0, 1) := by decide +kernel
theorem dX4_leads_67 : decode cX4_leads 67 = .ok (.ireturn, 1) := by decide +kernel
theorem dX4_leads_68 : decode cX4_leads 68 = .ok (.iload_n 0, 1) := by decide +kernel
theorem dX4_leads_69 : decode cX4_leads 69 = .ok (.iconst 1, 1) := by decide +kernel
theorem dX4_leads_70 : decode cX4_leads 70 = .ok (.if_icmp .eq 8, 3) := by decide +kernel
theorem dX4_leads_73 : decode cX4_leads 73 = .ok (.iload_n 0, 1) := by decide +kernel
theorem dX4_leads_74 : decode cX4_leads 74 = .ok (.iconst 2, 1) := by decide +kernel
theorem dX4_leads_75 : decode cX4_leads 75 = .ok (.if_icmp .ne 7, 3) := by decide +kernel
theorem dX4_leads_78 : decode cX4_leads 78 = .ok (.iconst 1, 1) := by decide +kernel
theorem dX4_leads_79 : decode cX4_leads 79 = .ok (.goto 4, 3) := by decide +kernel
theorem dX4_leads_82 : decode cX4_leads 82 = .ok (.iconst 0, 1) := by decide +kernel
theorem dX4_leads_83 : decode cX4_leads 83 = .ok (.ireturn, 1) := by decide +kernel
theorem dX4_event_0 : decode cX4_event 0 = .ok (.aload_n 0, 1) := by decide +kernel
theorem dX4_event_1 : decode cX4_event 1 = .ok (.iload_n 1, 1) := by decide +kernel
theorem dX4_event_2 : decode cX4_event 2 = .ok (.invokevirtual 105, 3) := by decide +kernel
theorem dX4_event_5 : decode cX4_event 5 = .ok (.ifCond .eq 17, 3) := by decide +kernel
theorem dX4_event_8 : decode cX4_event 8 = .ok (.iload_n 2, 1) := by decide +kernel
theorem dX4_event_9 : decode cX4_event 9 = .ok (.invokestatic 111, 3) := by decide +kernel
theorem dX4_event_12 : decode cX4_event 12 = .ok (.ifCond .eq 10, 3) := by decide +kernel
theorem dX4_event_15 : decode cX4_event 15 = .ok (.iload_n 3, 1) := by decide +kernel
theorem dX4_event_16 : decode cX4_event 16 = .ok (.invokestatic 108, 3) := by decide +kernel
theorem dX4_event_19 : decode cX4_event 19 = .ok (.ifCond .ne 5, 3) := by decide +kernel
theorem dX4_event_22 : decode cX4_event 22 = .ok (.iconst (-1), 1) := by decide +kernel
theorem dX4_event_23 : decode cX4_event 23 = .ok (.ireturn, 1) := by decide +kernel
theorem dX4_event_24 : decode cX4_event 24 = .ok (.aload_n 0, 1) := by decide +kernel
theorem dX4_event_25 : decode cX4_event 25 = .ok (.iload_n 3, 1) := by decide +kernel
theorem dX4_event_26 : decode cX4_event 26 = .ok (.iload_n 2, 1) := by decide +kernel
theorem dX4_event_27 : decode cX4_event 27 = .ok (.invokevirtual 114, 3) := by decide +kernel
theorem dX4_event_30 : decode cX4_event 30 = .ok (.ifCond .ne 6, 3) := by decide +kernel
theorem dX4_event_33 : decode cX4_event 33 = .ok (.bipush (-2), 2) := by decide +kernel
theorem dX4_event_35 : decode cX4_event 35 = .ok (.ireturn, 1) := by decide +kernel
theorem dX4_event_36 : decode cX4_event 36 = .ok (.aload_n 0, 1) := by decide +kernel
theorem dX4_event_37 : decode cX4_event 37 = .ok (.getfield 45, 3) := by decide +kernel
theorem dX4_event_40 : decode cX4_event 40 = .ok (.iload_n 1, 1) := by decide +kernel
theorem dX4_event_41 : decode cX4_event 41 = .ok (.iaload, 1) := by decide +kernel
theorem dX4_event_42 : decode cX4_event 42 = .ok (.iload_n 2, 1) := by decide +kernel
theorem dX4_event_43 : decode cX4_event 43 = .ok (.invokestatic 117, 3) := by decide +kernel
theorem dX4_event_46 : decode cX4_event 46 = .ok (.ifCond .ne 6, 3) := by decide +kernel
theorem dX4_event_49 : decode cX4_event 49 = .ok (.bipush (-3), 2) := by decide +kernel
theorem dX4_event_51 : decode cX4_event 51 = .ok (.ireturn, 1) := by decide +kernel
theorem dX4_event_52 : decode cX4_event 52 = .ok (.iload_n 2, 1) := by decide +kernel
theorem dX4_event_53 : decode cX4_event 53 = .ok (.ifCond .ne 33, 3) := by decide +kernel
theorem dX4_event_56 : decode cX4_event 56 = .ok (.aload_n 0, 1) := by decide +kernel
theorem dX4_event_57 : decode cX4_event 57 = .ok (.getfield 73, 3) := by decide +kernel
theorem dX4_event_60 : decode cX4_event 60 = .ok (.aload_n 0, 1) := by decide +kernel
theorem dX4_event_61 : decode cX4_event 61 = .ok (.getfield 42, 3) := by decide +kernel
theorem dX4_event_64 : decode cX4_event 64 = .ok (.iload_n 1, 1) := by decide +kernel
theorem dX4_event_65 : decode cX4_event 65 = .ok (.iaload, 1) := by decide +kernel
theorem dX4_event_66 : decode cX4_event 66 = .ok (.if_icmp .lt 17, 3) := by decide +kernel
theorem dX4_event_69 : decode cX4_event 69 = .ok (.aload_n 0, 1) := by decide +kernel
theorem dX4_event_70 : decode cX4_event 70 = .ok (.aload_n 0, 1) := by decide +kernel
theorem dX4_event_71 : decode cX4_event 71 = .ok (.getfield 36, 3) := by decide +kernel
theorem dX4_event_74 : decode cX4_event 74 = .ok (.iload_n 1, 1) := by decide +kernel
theorem dX4_event_75 : decode cX4_event 75 = .ok (.iaload, 1) := by decide +kernel
theorem dX4_event_76 : decode cX4_event 76 = .ok (.invokevirtual 97, 3) := by decide +kernel
theorem dX4_event_79 : decode cX4_event 79 = .ok (.iconst 1, 1) := by decide +kernel
theorem dX4_event_80 : decode cX4_event 80 = .ok (.if_icmp .eq 6, 3) := by decide +kernel
theorem dX4_event_83 : decode cX4_event 83 = .ok (.bipush (-4), 2) := by decide +kernel
theorem dX4_event_85 : decode cX4_event 85 = .ok (.ireturn, 1) := by decide +kernel
theorem dX4_event_86 : decode cX4_event 86 = .ok (.iload_n 2, 1) := by decide +kernel
theorem dX4_event_87 : decode cX4_event 87 = .ok (.iconst 2, 1) := by decide +kernel
theorem dX4_event_88 : decode cX4_event 88 = .ok (.if_icmp .ne 15, 3) := by decide +kernel
theorem dX4_event_91 : decode cX4_event 91 = .ok (.aload_n 0, 1) := by decide +kernel
theorem dX4_event_92 : decode cX4_event 92 = .ok (.getfield 51, 3) := by decide +kernel
theorem dX4_event_95 : decode cX4_event 95 = .ok (.iload_n 1, 1) := by decide +kernel
theorem dX4_event_96 : decode cX4_event 96 = .ok (.baload, 1) := by decide +kernel
theorem dX4_event_97 : decode cX4_event 97 = .ok (.ifCond .ne 6, 3) := by decide +kernel
theorem dX4_event_100 : decode cX4_event 100 = .ok (.bipush (-5), 2) := by decide +kernel
theorem dX4_event_102 : decode cX4_event 102 = .ok (.ireturn, 1) := by decide +kernel
theorem dX4_event_103 : decode cX4_event 103 = .ok (.aload_n 0, 1) := by decide +kernel
theorem dX4_event_104 : decode cX4_event 104 = .ok (.getfield 45, 3) := by decide +kernel
theorem dX4_event_107 : decode cX4_event 107 = .ok (.iload_n 1, 1) := by decide +kernel
theorem dX4_event_108 : decode cX4_event 108 = .ok (.iload_n 2, 1) := by decide +kernel
theorem dX4_event_109 : decode cX4_event 109 = .ok (.iconst 1, 1) := by decide +kernel
theorem dX4_event_110 : decode cX4_event 110 = .ok (.iadd, 1) := by decide +kernel
theorem dX4_event_111 : decode cX4_event 111 = .ok (.iastore, 1) := by decide +kernel
theorem dX4_event_112 : decode cX4_event 112 = .ok (.aload_n 0, 1) := by decide +kernel
theorem dX4_event_113 : decode cX4_event 113 = .ok (.getfield 48, 3) := by decide +kernel
theorem dX4_event_116 : decode cX4_event 116 = .ok (.iload_n 1, 1) := by decide +kernel
theorem dX4_event_117 : decode cX4_event 117 = .ok (.aload_n 0, 1) := by decide +kernel
theorem dX4_event_118 : decode cX4_event 118 = .ok (.getfield 73, 3) := by decide +kernel
theorem dX4_event_121 : decode cX4_event 121 = .ok (.iastore, 1) := by decide +kernel
theorem dX4_event_122 : decode cX4_event 122 = .ok (.aload_n 0, 1) := by decide +kernel
theorem dX4_event_123 : decode cX4_event 123 = .ok (.getfield 45, 3) := by decide +kernel
theorem dX4_event_126 : decode cX4_event 126 = .ok (.iload_n 1, 1) := by decide +kernel
theorem dX4_event_127 : decode cX4_event 127 = .ok (.iaload, 1) := by decide +kernel
theorem dX4_event_128 : decode cX4_event 128 = .ok (.ireturn, 1) := by decide +kernel
theorem dX4_mark_0 : decode cX4_mark 0 = .ok (.aload_n 0, 1) := by decide +kernel
theorem dX4_mark_1 : decode cX4_mark 1 = .ok (.iload_n 1, 1) := by decide +kernel
theorem dX4_mark_2 : decode cX4_mark 2 = .ok (.invokevirtual 105, 3) := by decide +kernel
theorem dX4_mark_5 : decode cX4_mark 5 = .ok (.ifCond .eq 45, 3) := by decide +kernel
theorem dX4_mark_8 : decode cX4_mark 8 = .ok (.iload_n 2, 1) := by decide +kernel
theorem dX4_mark_9 : decode cX4_mark 9 = .ok (.iload_n 3, 1) := by decide +kernel
theorem dX4_mark_10 : decode cX4_mark 10 = .ok (.if_icmp .eq 40, 3) := by decide +kernel
theorem dX4_mark_13 : decode cX4_mark 13 = .ok (.aload_n 0, 1) := by decide +kernel
theorem dX4_mark_14 : decode cX4_mark 14 = .ok (.iload_n 2, 1) := by decide +kernel
theorem dX4_mark_15 : decode cX4_mark 15 = .ok (.iconst 2, 1) := by decide +kernel
theorem dX4_mark_16 : decode cX4_mark 16 = .ok (.invokevirtual 114, 3) := by decide +kernel
theorem dX4_mark_19 : decode cX4_mark 19 = .ok (.ifCond .eq 31, 3) := by decide +kernel
theorem dX4_mark_22 : decode cX4_mark 22 = .ok (.aload_n 0, 1) := by decide +kernel
theorem dX4_mark_23 : decode cX4_mark 23 = .ok (.iload_n 3, 1) := by decide +kernel
theorem dX4_mark_24 : decode cX4_mark 24 = .ok (.iconst 2, 1) := by decide +kernel
theorem dX4_mark_25 : decode cX4_mark 25 = .ok (.invokevirtual 114, 3) := by decide +kernel
theorem dX4_mark_28 : decode cX4_mark 28 = .ok (.ifCond .eq 22, 3) := by decide +kernel
theorem dX4_mark_31 : decode cX4_mark 31 = .ok (.aload_n 0, 1) := by decide +kernel
theorem dX4_mark_32 : decode cX4_mark 32 = .ok (.getfield 45, 3) := by decide +kernel
theorem dX4_mark_35 : decode cX4_mark 35 = .ok (.iload_n 1, 1) := by decide +kernel
theorem dX4_mark_36 : decode cX4_mark 36 = .ok (.iaload, 1) := by decide +kernel
theorem dX4_mark_37 : decode cX4_mark 37 = .ok (.iconst 2, 1) := by decide +kernel
theorem dX4_mark_38 : decode cX4_mark 38 = .ok (.if_icmp .ne 12, 3) := by decide +kernel
theorem dX4_mark_41 : decode cX4_mark 41 = .ok (.aload_n 0, 1) := by decide +kernel
theorem dX4_mark_42 : decode cX4_mark 42 = .ok (.getfield 51, 3) := by decide +kernel
theorem dX4_mark_45 : decode cX4_mark 45 = .ok (.iload_n 1, 1) := by decide +kernel
theorem dX4_mark_46 : decode cX4_mark 46 = .ok (.baload, 1) := by decide +kernel
theorem dX4_mark_47 : decode cX4_mark 47 = .ok (.ifCond .eq 5, 3) := by decide +kernel
theorem dX4_mark_50 : decode cX4_mark 50 = .ok (.iconst 0, 1) := by decide +kernel
theorem dX4_mark_51 : decode cX4_mark 51 = .ok (.ireturn, 1) := by decide +kernel
theorem dX4_mark_52 : decode cX4_mark 52 = .ok (.aload_n 0, 1) := by decide +kernel
theorem dX4_mark_53 : decode cX4_mark 53 = .ok (.getfield 51, 3) := by decide +kernel
theorem dX4_mark_56 : decode cX4_mark 56 = .ok (.iload_n 1, 1) := by decide +kernel
theorem dX4_mark_57 : decode cX4_mark 57 = .ok (.iconst 1, 1) := by decide +kernel
theorem dX4_mark_58 : decode cX4_mark 58 = .ok (.bastore, 1) := by decide +kernel
theorem dX4_mark_59 : decode cX4_mark 59 = .ok (.iconst 1, 1) := by decide +kernel
theorem dX4_mark_60 : decode cX4_mark 60 = .ok (.ireturn, 1) := by decide +kernel
theorem dX4_left_0 : decode cX4_left 0 = .ok (.aload_n 0, 1) := by decide +kernel
theorem dX4_left_1 : decode cX4_left 1 = .ok (.iload_n 1, 1) := by decide +kernel
theorem dX4_left_2 : decode cX4_left 2 = .ok (.invokevirtual 88, 3) := by decide +kernel
theorem dX4_left_5 : decode cX4_left 5 = .ok (.ifCond .ne 7, 3) := by decide +kernel
theorem dX4_left_8 : decode cX4_left 8 = .ok (.ldc2_w 120, 3) := by decide +kernel
theorem dX4_left_11 : decode cX4_left 11 = .ok (.lreturn, 1) := by decide +kernel
theorem dX4_left_12 : decode cX4_left 12 = .ok (.aload_n 0, 1) := by decide +kernel
theorem dX4_left_13 : decode cX4_left 13 = .ok (.getfield 7, 3) := by decide +kernel
theorem dX4_left_16 : decode cX4_left 16 = .ok (.iload_n 1, 1) := by decide +kernel
theorem dX4_left_17 : decode cX4_left 17 = .ok (.laload, 1) := by decide +kernel
theorem dX4_left_18 : decode cX4_left 18 = .ok (.lstore_n 2, 1) := by decide +kernel
theorem dX4_left_19 : decode cX4_left 19 = .ok (.iconst 0, 1) := by decide +kernel
theorem dX4_left_20 : decode cX4_left 20 = .ok (.istore 4, 2) := by decide +kernel
theorem dX4_left_22 : decode cX4_left 22 = .ok (.iload 4, 2) := by decide +kernel
theorem dX4_left_24 : decode cX4_left 24 = .ok (.aload_n 0, 1) := by decide +kernel
theorem dX4_left_25 : decode cX4_left 25 = .ok (.getfield 70, 3) := by decide +kernel
theorem dX4_left_28 : decode cX4_left 28 = .ok (.if_icmp .ge 68, 3) := by decide +kernel
theorem dX4_left_31 : decode cX4_left 31 = .ok (.aload_n 0, 1) := by decide +kernel
theorem dX4_left_32 : decode cX4_left 32 = .ok (.getfield 36, 3) := by decide +kernel
theorem dX4_left_35 : decode cX4_left 35 = .ok (.iload 4, 2) := by decide +kernel
theorem dX4_left_37 : decode cX4_left 37 = .ok (.iaload, 1) := by decide +kernel
theorem dX4_left_38 : decode cX4_left 38 = .ok (.iload_n 1, 1) := by decide +kernel
theorem dX4_left_39 : decode cX4_left 39 = .ok (.if_icmp .ne 29, 3) := by decide +kernel
theorem dX4_left_42 : decode cX4_left 42 = .ok (.aload_n 0, 1) := by decide +kernel
theorem dX4_left_43 : decode cX4_left 43 = .ok (.getfield 45, 3) := by decide +kernel
theorem dX4_left_46 : decode cX4_left 46 = .ok (.iload 4, 2) := by decide +kernel
theorem dX4_left_48 : decode cX4_left 48 = .ok (.iaload, 1) := by decide +kernel
theorem dX4_left_49 : decode cX4_left 49 = .ok (.iconst 4, 1) := by decide +kernel
theorem dX4_left_50 : decode cX4_left 50 = .ok (.if_icmp .eq 18, 3) := by decide +kernel
theorem dX4_left_53 : decode cX4_left 53 = .ok (.aload_n 0, 1) := by decide +kernel
theorem dX4_left_54 : decode cX4_left 54 = .ok (.getfield 45, 3) := by decide +kernel
theorem dX4_left_57 : decode cX4_left 57 = .ok (.iload 4, 2) := by decide +kernel
theorem dX4_left_59 : decode cX4_left 59 = .ok (.iaload, 1) := by decide +kernel
theorem dX4_left_60 : decode cX4_left 60 = .ok (.iconst 5, 1) := by decide +kernel
theorem dX4_left_61 : decode cX4_left 61 = .ok (.if_icmp .eq 7, 3) := by decide +kernel
theorem dX4_left_64 : decode cX4_left 64 = .ok (.iconst 1, 1) := by decide +kernel
theorem dX4_left_65 : decode cX4_left 65 = .ok (.goto 4, 3) := by decide +kernel
theorem dX4_left_68 : decode cX4_left 68 = .ok (.iconst 0, 1) := by decide +kernel
theorem dX4_left_69 : decode cX4_left 69 = .ok (.istore 5, 2) := by decide +kernel
theorem dX4_left_71 : decode cX4_left 71 = .ok (.lload_n 2, 1) := by decide +kernel
theorem dX4_left_72 : decode cX4_left 72 = .ok (.iload 5, 2) := by decide +kernel
theorem dX4_left_74 : decode cX4_left 74 = .ok (.ifCond .eq 13, 3) := by decide +kernel
theorem dX4_left_77 : decode cX4_left 77 = .ok (.aload_n 0, 1) := by decide +kernel
theorem dX4_left_78 : decode cX4_left 78 = .ok (.getfield 39, 3) := by decide +kernel
theorem dX4_left_81 : decode cX4_left 81 = .ok (.iload 4, 2) := by decide +kernel
theorem dX4_left_83 : decode cX4_left 83 = .ok (.laload, 1) := by decide +kernel
theorem dX4_left_84 : decode cX4_left 84 = .ok (.goto 4, 3) := by decide +kernel
theorem dX4_left_87 : decode cX4_left 87 = .ok (.lconst 0, 1) := by decide +kernel
theorem dX4_left_88 : decode cX4_left 88 = .ok (.lsub, 1) := by decide +kernel
theorem dX4_left_89 : decode cX4_left 89 = .ok (.lstore_n 2, 1) := by decide +kernel
theorem dX4_left_90 : decode cX4_left 90 = .ok (.iinc 4 1, 3) := by decide +kernel
theorem dX4_left_93 : decode cX4_left 93 = .ok (.goto (-71), 3) := by decide +kernel
theorem dX4_left_96 : decode cX4_left 96 = .ok (.lload_n 2, 1) := by decide +kernel
theorem dX4_left_97 : decode cX4_left 97 = .ok (.lreturn, 1) := by decide +kernel
theorem dX4_bank_0 : decode cX4_bank 0 = .ok (.aload_n 0, 1) := by decide +kernel
theorem dX4_bank_1 : decode cX4_bank 1 = .ok (.iload_n 1, 1) := by decide +kernel
theorem dX4_bank_2 : decode cX4_bank 2 = .ok (.invokevirtual 88, 3) := by decide +kernel
theorem dX4_bank_5 : decode cX4_bank 5 = .ok (.ifCond .eq 29, 3) := by decide +kernel
theorem dX4_bank_8 : decode cX4_bank 8 = .ok (.lload_n 2, 1) := by decide +kernel
theorem dX4_bank_9 : decode cX4_bank 9 = .ok (.lconst 1, 1) := by decide +kernel
theorem dX4_bank_10 : decode cX4_bank 10 = .ok (.ldc2_w 86, 3) := by decide +kernel
theorem dX4_bank_13 : decode cX4_bank 13 = .ok (.invokestatic 78, 3) := by decide +kernel
theorem dX4_bank_16 : decode cX4_bank 16 = .ok (.ifCond .eq 18, 3) := by decide +kernel
theorem dX4_bank_19 : decode cX4_bank 19 = .ok (.aload_n 0, 1) := by decide +kernel
theorem dX4_bank_20 : decode cX4_bank 20 = .ok (.getfield 20, 3) := by decide +kernel
theorem dX4_bank_23 : decode cX4_bank 23 = .ok (.iload_n 1, 1) := by decide +kernel
theorem dX4_bank_24 : decode cX4_bank 24 = .ok (.laload, 1) := by decide +kernel
theorem dX4_bank_25 : decode cX4_bank 25 = .ok (.lload_n 2, 1) := by decide +kernel
theorem dX4_bank_26 : decode cX4_bank 26 = .ok (.ladd, 1) := by decide +kernel
theorem dX4_bank_27 : decode cX4_bank 27 = .ok (.ldc2_w 122, 3) := by decide +kernel
theorem dX4_bank_30 : decode cX4_bank 30 = .ok (.lcmp, 1) := by decide +kernel
theorem dX4_bank_31 : decode cX4_bank 31 = .ok (.ifCond .le 5, 3) := by decide +kernel
theorem dX4_bank_34 : decode cX4_bank 34 = .ok (.iconst 0, 1) := by decide +kernel
theorem dX4_bank_35 : decode cX4_bank 35 = .ok (.ireturn, 1) := by decide +kernel
theorem dX4_bank_36 : decode cX4_bank 36 = .ok (.aload_n 0, 1) := by decide +kernel
theorem dX4_bank_37 : decode cX4_bank 37 = .ok (.getfield 20, 3) := by decide +kernel
theorem dX4_bank_40 : decode cX4_bank 40 = .ok (.iload_n 1, 1) := by decide +kernel
theorem dX4_bank_41 : decode cX4_bank 41 = .ok (.dup2, 1) := by decide +kernel
theorem dX4_bank_42 : decode cX4_bank 42 = .ok (.laload, 1) := by decide +kernel
theorem dX4_bank_43 : decode cX4_bank 43 = .ok (.lload_n 2, 1) := by decide +kernel
theorem dX4_bank_44 : decode cX4_bank 44 = .ok (.ladd, 1) := by decide +kernel
theorem dX4_bank_45 : decode cX4_bank 45 = .ok (.lastore, 1) := by decide +kernel
theorem dX4_bank_46 : decode cX4_bank 46 = .ok (.iconst 1, 1) := by decide +kernel
theorem dX4_bank_47 : decode cX4_bank 47 = .ok (.ireturn, 1) := by decide +kernel
theorem dX4_held_0 : decode cX4_held 0 = .ok (.aload_n 0, 1) := by decide +kernel
theorem dX4_held_1 : decode cX4_held 1 = .ok (.iload_n 1, 1) := by decide +kernel
theorem dX4_held_2 : decode cX4_held 2 = .ok (.invokevirtual 88, 3) := by decide +kernel
theorem dX4_held_5 : decode cX4_held 5 = .ok (.ifCond .ne 7, 3) := by decide +kernel
theorem dX4_held_8 : decode cX4_held 8 = .ok (.ldc2_w 120, 3) := by decide +kernel
theorem dX4_held_11 : decode cX4_held 11 = .ok (.lreturn, 1) := by decide +kernel
theorem dX4_held_12 : decode cX4_held 12 = .ok (.lconst 0, 1) := by decide +kernel
theorem dX4_held_13 : decode cX4_held 13 = .ok (.lstore_n 2, 1) := by decide +kernel
theorem dX4_held_14 : decode cX4_held 14 = .ok (.iconst 0, 1) := by decide +kernel
theorem dX4_held_15 : decode cX4_held 15 = .ok (.istore 4, 2) := by decide +kernel
theorem dX4_held_17 : decode cX4_held 17 = .ok (.iload 4, 2) := by decide +kernel
theorem dX4_held_19 : decode cX4_held 19 = .ok (.aload_n 0, 1) := by decide +kernel
theorem dX4_held_20 : decode cX4_held 20 = .ok (.getfield 70, 3) := by decide +kernel
theorem dX4_held_23 : decode cX4_held 23 = .ok (.if_icmp .ge 45, 3) := by decide +kernel
theorem dX4_held_26 : decode cX4_held 26 = .ok (.lload_n 2, 1) := by decide +kernel
theorem dX4_held_27 : decode cX4_held 27 = .ok (.aload_n 0, 1) := by decide +kernel
theorem dX4_held_28 : decode cX4_held 28 = .ok (.getfield 36, 3) := by decide +kernel
theorem dX4_held_31 : decode cX4_held 31 = .ok (.iload 4, 2) := by decide +kernel
theorem dX4_held_33 : decode cX4_held 33 = .ok (.iaload, 1) := by decide +kernel
theorem dX4_held_34 : decode cX4_held 34 = .ok (.iload_n 1, 1) := by decide +kernel
theorem dX4_held_35 : decode cX4_held 35 = .ok (.if_icmp .ne 24, 3) := by decide +kernel
theorem dX4_held_38 : decode cX4_held 38 = .ok (.aload_n 0, 1) := by decide +kernel
theorem dX4_held_39 : decode cX4_held 39 = .ok (.getfield 45, 3) := by decide +kernel
theorem dX4_held_42 : decode cX4_held 42 = .ok (.iload 4, 2) := by decide +kernel
theorem dX4_held_44 : decode cX4_held 44 = .ok (.iaload, 1) := by decide +kernel
theorem dX4_held_45 : decode cX4_held 45 = .ok (.iconst 3, 1) := by decide +kernel
theorem dX4_held_46 : decode cX4_held 46 = .ok (.if_icmp .ne 13, 3) := by decide +kernel
theorem dX4_held_49 : decode cX4_held 49 = .ok (.aload_n 0, 1) := by decide +kernel
theorem dX4_held_50 : decode cX4_held 50 = .ok (.getfield 39, 3) := by decide +kernel
theorem dX4_held_53 : decode cX4_held 53 = .ok (.iload 4, 2) := by decide +kernel
theorem dX4_held_55 : decode cX4_held 55 = .ok (.laload, 1) := by decide +kernel
theorem dX4_held_56 : decode cX4_held 56 = .ok (.goto 4, 3) := by decide +kernel
theorem dX4_held_59 : decode cX4_held 59 = .ok (.lconst 0, 1) := by decide +kernel
theorem dX4_held_60 : decode cX4_held 60 = .ok (.ladd, 1) := by decide +kernel
theorem dX4_held_61 : decode cX4_held 61 = .ok (.lstore_n 2, 1) := by decide +kernel
theorem dX4_held_62 : decode cX4_held 62 = .ok (.iinc 4 1, 3) := by decide +kernel
theorem dX4_held_65 : decode cX4_held 65 = .ok (.goto (-48), 3) := by decide +kernel
theorem dX4_held_68 : decode cX4_held 68 = .ok (.aload_n 0, 1) := by decide +kernel
theorem dX4_held_69 : decode cX4_held 69 = .ok (.getfield 20, 3) := by decide +kernel
theorem dX4_held_72 : decode cX4_held 72 = .ok (.iload_n 1, 1) := by decide +kernel
theorem dX4_held_73 : decode cX4_held 73 = .ok (.laload, 1) := by decide +kernel
theorem dX4_held_74 : decode cX4_held 74 = .ok (.aload_n 0, 1) := by decide +kernel
theorem dX4_held_75 : decode cX4_held 75 = .ok (.getfield 7, 3) := by decide +kernel
theorem dX4_held_78 : decode cX4_held 78 = .ok (.iload_n 1, 1) := by decide +kernel
theorem dX4_held_79 : decode cX4_held 79 = .ok (.laload, 1) := by decide +kernel
theorem dX4_held_80 : decode cX4_held 80 = .ok (.ldiv, 1) := by decide +kernel
theorem dX4_held_81 : decode cX4_held 81 = .ok (.lstore 4, 2) := by decide +kernel
theorem dX4_held_83 : decode cX4_held 83 = .ok (.aload_n 0, 1) := by decide +kernel
theorem dX4_held_84 : decode cX4_held 84 = .ok (.getfield 20, 3) := by decide +kernel
theorem dX4_held_87 : decode cX4_held 87 = .ok (.iload_n 1, 1) := by decide +kernel
theorem dX4_held_88 : decode cX4_held 88 = .ok (.laload, 1) := by decide +kernel
theorem dX4_held_89 : decode cX4_held 89 = .ok (.aload_n 0, 1) := by decide +kernel
theorem dX4_held_90 : decode cX4_held 90 = .ok (.getfield 7, 3) := by decide +kernel
theorem dX4_held_93 : decode cX4_held 93 = .ok (.iload_n 1, 1) := by decide +kernel
theorem dX4_held_94 : decode cX4_held 94 = .ok (.laload, 1) := by decide +kernel
theorem dX4_held_95 : decode cX4_held 95 = .ok (.lrem, 1) := by decide +kernel
theorem dX4_held_96 : decode cX4_held 96 = .ok (.lstore 6, 2) := by decide +kernel
theorem dX4_held_98 : decode cX4_held 98 = .ok (.aload_n 0, 1) := by decide +kernel
theorem dX4_held_99 : decode cX4_held 99 = .ok (.getfield 20, 3) := by decide +kernel
theorem dX4_held_102 : decode cX4_held 102 = .ok (.iload_n 1, 1) := by decide +kernel
theorem dX4_held_103 : decode cX4_held 103 = .ok (.laload, 1) := by decide +kernel
theorem dX4_held_104 : decode cX4_held 104 = .ok (.lload 4, 2) := by decide +kernel
theorem dX4_held_106 : decode cX4_held 106 = .ok (.lload_n 2, 1) := by decide +kernel
theorem dX4_held_107 : decode cX4_held 107 = .ok (.lmul, 1) := by decide +kernel
theorem dX4_held_108 : decode cX4_held 108 = .ok (.lload 6, 2) := by decide +kernel
theorem dX4_held_110 : decode cX4_held 110 = .ok (.lload_n 2, 1) := by decide +kernel
theorem dX4_held_111 : decode cX4_held 111 = .ok (.lmul, 1) := by decide +kernel
theorem dX4_held_112 : decode cX4_held 112 = .ok (.aload_n 0, 1) := by decide +kernel
theorem dX4_held_113 : decode cX4_held 113 = .ok (.getfield 7, 3) := by decide +kernel
theorem dX4_held_116 : decode cX4_held 116 = .ok (.iload_n 1, 1) := by decide +kernel
theorem dX4_held_117 : decode cX4_held 117 = .ok (.laload, 1) := by decide +kernel
theorem dX4_held_118 : decode cX4_held 118 = .ok (.ldiv, 1) := by decide +kernel
theorem dX4_held_119 : decode cX4_held 119 = .ok (.ladd, 1) := by decide +kernel
theorem dX4_held_120 : decode cX4_held 120 = .ok (.lsub, 1) := by decide +kernel
theorem dX4_held_121 : decode cX4_held 121 = .ok (.lreturn, 1) := by decide +kernel
theorem dX4_limit_0 : decode cX4_limit 0 = .ok (.iload_n 1, 1) := by decide +kernel
theorem dX4_limit_1 : decode cX4_limit 1 = .ok (.i2l, 1) := by decide +kernel
theorem dX4_limit_2 : decode cX4_limit 2 = .ok (.lconst 0, 1) := by decide +kernel
theorem dX4_limit_3 : decode cX4_limit 3 = .ok (.ldc2_w 95, 3) := by decide +kernel
theorem dX4_limit_6 : decode cX4_limit 6 = .ok (.invokestatic 78, 3) := by decide +kernel
theorem dX4_limit_9 : decode cX4_limit 9 = .ok (.ifCond .ne 5, 3) := by decide +kernel
theorem dX4_limit_12 : decode cX4_limit 12 = .ok (.iconst 0, 1) := by decide +kernel
theorem dX4_limit_13 : decode cX4_limit 13 = .ok (.ireturn, 1) := by decide +kernel
theorem dX4_limit_14 : decode cX4_limit 14 = .ok (.aload_n 0, 1) := by decide +kernel
theorem dX4_limit_15 : decode cX4_limit 15 = .ok (.iload_n 1, 1) := by decide +kernel
theorem dX4_limit_16 : decode cX4_limit 16 = .ok (.putfield 63, 3) := by decide +kernel
theorem dX4_limit_19 : decode cX4_limit 19 = .ok (.iconst 1, 1) := by decide +kernel
theorem dX4_limit_20 : decode cX4_limit 20 = .ok (.ireturn, 1) := by decide +kernel
theorem dX4_late_0 : decode cX4_late 0 = .ok (.iconst 0, 1) := by decide +kernel
theorem dX4_late_1 : decode cX4_late 1 = .ok (.istore_n 2, 1) := by decide +kernel
theorem dX4_late_2 : decode cX4_late 2 = .ok (.iconst 0, 1) := by decide +kernel
theorem dX4_late_3 : decode cX4_late 3 = .ok (.istore_n 3, 1) := by decide +kernel
theorem dX4_late_4 : decode cX4_late 4 = .ok (.iload_n 3, 1) := by decide +kernel
theorem dX4_late_5 : decode cX4_late 5 = .ok (.aload_n 0, 1) := by decide +kernel
theorem dX4_late_6 : decode cX4_late 6 = .ok (.getfield 70, 3) := by decide +kernel
theorem dX4_late_9 : decode cX4_late 9 = .ok (.if_icmp .ge 47, 3) := by decide +kernel
theorem dX4_late_12 : decode cX4_late 12 = .ok (.aload_n 0, 1) := by decide +kernel
theorem dX4_late_13 : decode cX4_late 13 = .ok (.getfield 45, 3) := by decide +kernel
theorem dX4_late_16 : decode cX4_late 16 = .ok (.iload_n 3, 1) := by decide +kernel
theorem dX4_late_17 : decode cX4_late 17 = .ok (.iaload, 1) := by decide +kernel
theorem dX4_late_18 : decode cX4_late 18 = .ok (.iconst 2, 1) := by decide +kernel
theorem dX4_late_19 : decode cX4_late 19 = .ok (.if_icmp .ne 31, 3) := by decide +kernel
theorem dX4_late_22 : decode cX4_late 22 = .ok (.aload_n 0, 1) := by decide +kernel
theorem dX4_late_23 : decode cX4_late 23 = .ok (.getfield 73, 3) := by decide +kernel
theorem dX4_late_26 : decode cX4_late 26 = .ok (.aload_n 0, 1) := by decide +kernel
theorem dX4_late_27 : decode cX4_late 27 = .ok (.getfield 48, 3) := by decide +kernel
theorem dX4_late_30 : decode cX4_late 30 = .ok (.iload_n 3, 1) := by decide +kernel
theorem dX4_late_31 : decode cX4_late 31 = .ok (.iaload, 1) := by decide +kernel
theorem dX4_late_32 : decode cX4_late 32 = .ok (.isub, 1) := by decide +kernel
theorem dX4_late_33 : decode cX4_late 33 = .ok (.aload_n 0, 1) := by decide +kernel
theorem dX4_late_34 : decode cX4_late 34 = .ok (.getfield 63, 3) := by decide +kernel
theorem dX4_late_37 : decode cX4_late 37 = .ok (.if_icmp .le 13, 3) := by decide +kernel
theorem dX4_late_40 : decode cX4_late 40 = .ok (.iload_n 2, 1) := by decide +kernel
theorem dX4_late_41 : decode cX4_late 41 = .ok (.iload_n 1, 1) := by decide +kernel
theorem dX4_late_42 : decode cX4_late 42 = .ok (.if_icmp .ne 5, 3) := by decide +kernel
theorem dX4_late_45 : decode cX4_late 45 = .ok (.iload_n 3, 1) := by decide +kernel
theorem dX4_late_46 : decode cX4_late 46 = .ok (.ireturn, 1) := by decide +kernel
theorem dX4_late_47 : decode cX4_late 47 = .ok (.iinc 2 1, 3) := by decide +kernel
theorem dX4_late_50 : decode cX4_late 50 = .ok (.iinc 3 1, 3) := by decide +kernel
theorem dX4_late_53 : decode cX4_late 53 = .ok (.goto (-49), 3) := by decide +kernel
theorem dX4_late_56 : decode cX4_late 56 = .ok (.iconst (-1), 1) := by decide +kernel
theorem dX4_late_57 : decode cX4_late 57 = .ok (.ireturn, 1) := by decide +kernel
theorem dX4_carrier_0 : decode cX4_carrier 0 = .ok (.aload_n 0, 1) := by decide +kernel
theorem dX4_carrier_1 : decode cX4_carrier 1 = .ok (.iload_n 1, 1) := by decide +kernel
theorem dX4_carrier_2 : decode cX4_carrier 2 = .ok (.invokevirtual 105, 3) := by decide +kernel
theorem dX4_carrier_5 : decode cX4_carrier 5 = .ok (.ifCond .eq 36, 3) := by decide +kernel
theorem dX4_carrier_8 : decode cX4_carrier 8 = .ok (.iload_n 2, 1) := by decide +kernel
theorem dX4_carrier_9 : decode cX4_carrier 9 = .ok (.i2l, 1) := by decide +kernel
theorem dX4_carrier_10 : decode cX4_carrier 10 = .ok (.lconst 0, 1) := by decide +kernel
theorem dX4_carrier_11 : decode cX4_carrier 11 = .ok (.ldc2_w 124, 3) := by decide +kernel
theorem dX4_carrier_14 : decode cX4_carrier 14 = .ok (.invokestatic 78, 3) := by decide +kernel
theorem dX4_carrier_17 : decode cX4_carrier 17 = .ok (.ifCond .eq 24, 3) := by decide +kernel
theorem dX4_carrier_20 : decode cX4_carrier 20 = .ok (.aload_n 0, 1) := by decide +kernel
theorem dX4_carrier_21 : decode cX4_carrier 21 = .ok (.getfield 45, 3) := by decide +kernel
theorem dX4_carrier_24 : decode cX4_carrier 24 = .ok (.iload_n 1, 1) := by decide +kernel
theorem dX4_carrier_25 : decode cX4_carrier 25 = .ok (.iaload, 1) := by decide +kernel
theorem dX4_carrier_26 : decode cX4_carrier 26 = .ok (.iconst 1, 1) := by decide +kernel
theorem dX4_carrier_27 : decode cX4_carrier 27 = .ok (.if_icmp .ne 14, 3) := by decide +kernel
theorem dX4_carrier_30 : decode cX4_carrier 30 = .ok (.aload_n 0, 1) := by decide +kernel
theorem dX4_carrier_31 : decode cX4_carrier 31 = .ok (.getfield 54, 3) := by decide +kernel
theorem dX4_carrier_34 : decode cX4_carrier 34 = .ok (.iload_n 1, 1) := by decide +kernel
theorem dX4_carrier_35 : decode cX4_carrier 35 = .ok (.iaload, 1) := by decide +kernel
theorem dX4_carrier_36 : decode cX4_carrier 36 = .ok (.bipush 6, 2) := by decide +kernel
theorem dX4_carrier_38 : decode cX4_carrier 38 = .ok (.if_icmp .ne 5, 3) := by decide +kernel
theorem dX4_carrier_41 : decode cX4_carrier 41 = .ok (.iconst (-1), 1) := by decide +kernel
theorem dX4_carrier_42 : decode cX4_carrier 42 = .ok (.ireturn, 1) := by decide +kernel
theorem dX4_carrier_43 : decode cX4_carrier 43 = .ok (.bipush 6, 2) := by decide +kernel
theorem dX4_carrier_45 : decode cX4_carrier 45 = .ok (.iload_n 1, 1) := by decide +kernel
theorem dX4_carrier_46 : decode cX4_carrier 46 = .ok (.imul, 1) := by decide +kernel
theorem dX4_carrier_47 : decode cX4_carrier 47 = .ok (.aload_n 0, 1) := by decide +kernel
theorem dX4_carrier_48 : decode cX4_carrier 48 = .ok (.getfield 54, 3) := by decide +kernel
theorem dX4_carrier_51 : decode cX4_carrier 51 = .ok (.iload_n 1, 1) := by decide +kernel
theorem dX4_carrier_52 : decode cX4_carrier 52 = .ok (.iaload, 1) := by decide +kernel
theorem dX4_carrier_53 : decode cX4_carrier 53 = .ok (.iadd, 1) := by decide +kernel
theorem dX4_carrier_54 : decode cX4_carrier 54 = .ok (.istore_n 3, 1) := by decide +kernel
theorem dX4_carrier_55 : decode cX4_carrier 55 = .ok (.aload_n 0, 1) := by decide +kernel
theorem dX4_carrier_56 : decode cX4_carrier 56 = .ok (.getfield 54, 3) := by decide +kernel
theorem dX4_carrier_59 : decode cX4_carrier 59 = .ok (.iload_n 1, 1) := by decide +kernel
theorem dX4_carrier_60 : decode cX4_carrier 60 = .ok (.iaload, 1) := by decide +kernel
theorem dX4_carrier_61 : decode cX4_carrier 61 = .ok (.ifCond .le 17, 3) := by decide +kernel
theorem dX4_carrier_64 : decode cX4_carrier 64 = .ok (.aload_n 0, 1) := by decide +kernel
theorem dX4_carrier_65 : decode cX4_carrier 65 = .ok (.getfield 57, 3) := by decide +kernel
theorem dX4_carrier_68 : decode cX4_carrier 68 = .ok (.iload_n 3, 1) := by decide +kernel
theorem dX4_carrier_69 : decode cX4_carrier 69 = .ok (.iconst 1, 1) := by decide +kernel
theorem dX4_carrier_70 : decode cX4_carrier 70 = .ok (.isub, 1) := by decide +kernel
theorem dX4_carrier_71 : decode cX4_carrier 71 = .ok (.iaload, 1) := by decide +kernel
theorem dX4_carrier_72 : decode cX4_carrier 72 = .ok (.iload_n 2, 1) := by decide +kernel
theorem dX4_carrier_73 : decode cX4_carrier 73 = .ok (.if_icmp .ne 5, 3) := by decide +kernel
theorem dX4_carrier_76 : decode cX4_carrier 76 = .ok (.iconst (-1), 1) := by decide +kernel
theorem dX4_carrier_77 : decode cX4_carrier 77 = .ok (.ireturn, 1) := by decide +kernel
theorem dX4_carrier_78 : decode cX4_carrier 78 = .ok (.aload_n 0, 1) := by decide +kernel
theorem dX4_carrier_79 : decode cX4_carrier 79 = .ok (.getfield 57, 3) := by decide +kernel
theorem dX4_carrier_82 : decode cX4_carrier 82 = .ok (.iload_n 3, 1) := by decide +kernel
theorem dX4_carrier_83 : decode cX4_carrier 83 = .ok (.iload_n 2, 1) := by decide +kernel
theorem dX4_carrier_84 : decode cX4_carrier 84 = .ok (.iastore, 1) := by decide +kernel
theorem dX4_carrier_85 : decode cX4_carrier 85 = .ok (.aload_n 0, 1) := by decide +kernel
theorem dX4_carrier_86 : decode cX4_carrier 86 = .ok (.getfield 54, 3) := by decide +kernel
theorem dX4_carrier_89 : decode cX4_carrier 89 = .ok (.iload_n 1, 1) := by decide +kernel
theorem dX4_carrier_90 : decode cX4_carrier 90 = .ok (.dup2, 1) := by decide +kernel
theorem dX4_carrier_91 : decode cX4_carrier 91 = .ok (.iaload, 1) := by decide +kernel
theorem dX4_carrier_92 : decode cX4_carrier 92 = .ok (.iconst 1, 1) := by decide +kernel
theorem dX4_carrier_93 : decode cX4_carrier 93 = .ok (.iadd, 1) := by decide +kernel
theorem dX4_carrier_94 : decode cX4_carrier 94 = .ok (.iastore, 1) := by decide +kernel
theorem dX4_carrier_95 : decode cX4_carrier 95 = .ok (.aload_n 0, 1) := by decide +kernel
theorem dX4_carrier_96 : decode cX4_carrier 96 = .ok (.getfield 54, 3) := by decide +kernel
theorem dX4_carrier_99 : decode cX4_carrier 99 = .ok (.iload_n 1, 1) := by decide +kernel
theorem dX4_carrier_100 : decode cX4_carrier 100 = .ok (.iaload, 1) := by decide +kernel
theorem dX4_carrier_101 : decode cX4_carrier 101 = .ok (.ireturn, 1) := by decide +kernel
theorem dX4_back_0 : decode cX4_back 0 = .ok (.aload_n 0, 1) := by decide +kernel
theorem dX4_back_1 : decode cX4_back 1 = .ok (.iload_n 1, 1) := by decide +kernel
theorem dX4_back_2 : decode cX4_back 2 = .ok (.invokevirtual 105, 3) := by decide +kernel
theorem dX4_back_5 : decode cX4_back 5 = .ok (.ifCond .eq 17, 3) := by decide +kernel
theorem dX4_back_8 : decode cX4_back 8 = .ok (.iload_n 2, 1) := by decide +kernel
theorem dX4_back_9 : decode cX4_back 9 = .ok (.ifCond .lt 13, 3) := by decide +kernel
theorem dX4_back_12 : decode cX4_back 12 = .ok (.iload_n 2, 1) := by decide +kernel
theorem dX4_back_13 : decode cX4_back 13 = .ok (.aload_n 0, 1) := by decide +kernel
theorem dX4_back_14 : decode cX4_back 14 = .ok (.getfield 54, 3) := by decide +kernel
theorem dX4_back_17 : decode cX4_back 17 = .ok (.iload_n 1, 1) := by decide +kernel
theorem dX4_back_18 : decode cX4_back 18 = .ok (.iaload, 1) := by decide +kernel
theorem dX4_back_19 : decode cX4_back 19 = .ok (.if_icmp .lt 5, 3) := by decide +kernel
theorem dX4_back_22 : decode cX4_back 22 = .ok (.iconst (-1), 1) := by decide +kernel
theorem dX4_back_23 : decode cX4_back 23 = .ok (.ireturn, 1) := by decide +kernel
theorem dX4_back_24 : decode cX4_back 24 = .ok (.aload_n 0, 1) := by decide +kernel
theorem dX4_back_25 : decode cX4_back 25 = .ok (.getfield 57, 3) := by decide +kernel
theorem dX4_back_28 : decode cX4_back 28 = .ok (.bipush 6, 2) := by decide +kernel
theorem dX4_back_30 : decode cX4_back 30 = .ok (.iload_n 1, 1) := by decide +kernel
theorem dX4_back_31 : decode cX4_back 31 = .ok (.imul, 1) := by decide +kernel
theorem dX4_back_32 : decode cX4_back 32 = .ok (.aload_n 0, 1) := by decide +kernel
theorem dX4_back_33 : decode cX4_back 33 = .ok (.getfield 54, 3) := by decide +kernel
theorem dX4_back_36 : decode cX4_back 36 = .ok (.iload_n 1, 1) := by decide +kernel
theorem dX4_back_37 : decode cX4_back 37 = .ok (.iaload, 1) := by decide +kernel
theorem dX4_back_38 : decode cX4_back 38 = .ok (.iadd, 1) := by decide +kernel
theorem dX4_back_39 : decode cX4_back 39 = .ok (.iconst 1, 1) := by decide +kernel
theorem dX4_back_40 : decode cX4_back 40 = .ok (.isub, 1) := by decide +kernel
theorem dX4_back_41 : decode cX4_back 41 = .ok (.iload_n 2, 1) := by decide +kernel
theorem dX4_back_42 : decode cX4_back 42 = .ok (.isub, 1) := by decide +kernel
theorem dX4_back_43 : decode cX4_back 43 = .ok (.iaload, 1) := by decide +kernel
theorem dX4_back_44 : decode cX4_back 44 = .ok (.ireturn, 1) := by decide +kernel
theorem dX4_put_0 : decode cX4_put 0 = .ok (.aload_n 0, 1) := by decide +kernel
theorem dX4_put_1 : decode cX4_put 1 = .ok (.aload_n 0, 1) := by decide +kernel
theorem dX4_put_2 : decode cX4_put 2 = .ok (.getfield 126, 3) := by decide +kernel
theorem dX4_put_5 : decode cX4_put 5 = .ok (.ifCond .ne 7, 3) := by decide +kernel
theorem dX4_put_8 : decode cX4_put 8 = .ok (.iload_n 1, 1) := by decide +kernel
theorem dX4_put_9 : decode cX4_put 9 = .ok (.goto 7, 3) := by decide +kernel
theorem dX4_put_12 : decode cX4_put 12 = .ok (.aload_n 0, 1) := by decide +kernel
theorem dX4_put_13 : decode cX4_put 13 = .ok (.getfield 129, 3) := by decide +kernel
theorem dX4_put_16 : decode cX4_put 16 = .ok (.putfield 129, 3) := by decide +kernel
theorem dX4_put_19 : decode cX4_put 19 = .ok (.aload_n 0, 1) := by decide +kernel
theorem dX4_put_20 : decode cX4_put 20 = .ok (.dup, 1) := by decide +kernel
theorem dX4_put_21 : decode cX4_put 21 = .ok (.getfield 126, 3) := by decide +kernel
theorem dX4_put_24 : decode cX4_put 24 = .ok (.iconst 1, 1) := by decide +kernel
theorem dX4_put_25 : decode cX4_put 25 = .ok (.isub, 1) := by decide +kernel
theorem dX4_put_26 : decode cX4_put 26 = .ok (.putfield 126, 3) := by decide +kernel
theorem dX4_put_29 : decode cX4_put 29 = .ok (.return_, 1) := by decide +kernel
theorem dX4_putNumber_0 : decode cX4_putNumber 0 = .ok (.lconst 1, 1) := by decide +kernel
theorem dX4_putNumber_1 : decode cX4_putNumber 1 = .ok (.lstore_n 3, 1) := by decide +kernel
theorem dX4_putNumber_2 : decode cX4_putNumber 2 = .ok (.lload_n 1, 1) := by decide +kernel
theorem dX4_putNumber_3 : decode cX4_putNumber 3 = .ok (.lload_n 3, 1) := by decide +kernel
theorem dX4_putNumber_4 : decode cX4_putNumber 4 = .ok (.ldiv, 1) := by decide +kernel
theorem dX4_putNumber_5 : decode cX4_putNumber 5 = .ok (.ldc2_w 132, 3) := by decide +kernel
theorem dX4_putNumber_8 : decode cX4_putNumber 8 = .ok (.lcmp, 1) := by decide +kernel
theorem dX4_putNumber_9 : decode cX4_putNumber 9 = .ok (.ifCond .le 12, 3) := by decide +kernel
theorem dX4_putNumber_12 : decode cX4_putNumber 12 = .ok (.lload_n 3, 1) := by decide +kernel
theorem dX4_putNumber_13 : decode cX4_putNumber 13 = .ok (.ldc2_w 134, 3) := by decide +kernel
theorem dX4_putNumber_16 : decode cX4_putNumber 16 = .ok (.lmul, 1) := by decide +kernel
theorem dX4_putNumber_17 : decode cX4_putNumber 17 = .ok (.lstore_n 3, 1) := by decide +kernel
theorem dX4_putNumber_18 : decode cX4_putNumber 18 = .ok (.goto (-16), 3) := by decide +kernel
theorem dX4_putNumber_21 : decode cX4_putNumber 21 = .ok (.lload_n 3, 1) := by decide +kernel
theorem dX4_putNumber_22 : decode cX4_putNumber 22 = .ok (.lconst 0, 1) := by decide +kernel
theorem dX4_putNumber_23 : decode cX4_putNumber 23 = .ok (.lcmp, 1) := by decide +kernel
theorem dX4_putNumber_24 : decode cX4_putNumber 24 = .ok (.ifCond .le 28, 3) := by decide +kernel
theorem dX4_putNumber_27 : decode cX4_putNumber 27 = .ok (.aload_n 0, 1) := by decide +kernel
theorem dX4_putNumber_28 : decode cX4_putNumber 28 = .ok (.ldc2_w 136, 3) := by decide +kernel
theorem dX4_putNumber_31 : decode cX4_putNumber 31 = .ok (.lload_n 1, 1) := by decide +kernel
theorem dX4_putNumber_32 : decode cX4_putNumber 32 = .ok (.lload_n 3, 1) := by decide +kernel
theorem dX4_putNumber_33 : decode cX4_putNumber 33 = .ok (.ldiv, 1) := by decide +kernel
theorem dX4_putNumber_34 : decode cX4_putNumber 34 = .ok (.ldc2_w 134, 3) := by decide +kernel
theorem dX4_putNumber_37 : decode cX4_putNumber 37 = .ok (.lrem, 1) := by decide +kernel
theorem dX4_putNumber_38 : decode cX4_putNumber 38 = .ok (.ladd, 1) := by decide +kernel
theorem dX4_putNumber_39 : decode cX4_putNumber 39 = .ok (.l2i, 1) := by decide +kernel
theorem dX4_putNumber_40 : decode cX4_putNumber 40 = .ok (.invokevirtual 138, 3) := by decide +kernel
theorem dX4_putNumber_43 : decode cX4_putNumber 43 = .ok (.lload_n 3, 1) := by decide +kernel
theorem dX4_putNumber_44 : decode cX4_putNumber 44 = .ok (.ldc2_w 134, 3) := by decide +kernel
theorem dX4_putNumber_47 : decode cX4_putNumber 47 = .ok (.ldiv, 1) := by decide +kernel
theorem dX4_putNumber_48 : decode cX4_putNumber 48 = .ok (.lstore_n 3, 1) := by decide +kernel
theorem dX4_putNumber_49 : decode cX4_putNumber 49 = .ok (.goto (-28), 3) := by decide +kernel
theorem dX4_putNumber_52 : decode cX4_putNumber 52 = .ok (.return_, 1) := by decide +kernel
theorem dX4_letterOf_0 : decode cX4_letterOf 0 = .ok (.iload_n 0, 1) := by decide +kernel
theorem dX4_letterOf_1 : decode cX4_letterOf 1 = .ok (.tableswitch 50 0 4 #[35, 38, 41, 44, 47], 35) := by decide +kernel
theorem dX4_letterOf_36 : decode cX4_letterOf 36 = .ok (.bipush 116, 2) := by decide +kernel
theorem dX4_letterOf_38 : decode cX4_letterOf 38 = .ok (.ireturn, 1) := by decide +kernel
theorem dX4_letterOf_39 : decode cX4_letterOf 39 = .ok (.bipush 107, 2) := by decide +kernel
theorem dX4_letterOf_41 : decode cX4_letterOf 41 = .ok (.ireturn, 1) := by decide +kernel
theorem dX4_letterOf_42 : decode cX4_letterOf 42 = .ok (.bipush 118, 2) := by decide +kernel
theorem dX4_letterOf_44 : decode cX4_letterOf 44 = .ok (.ireturn, 1) := by decide +kernel
theorem dX4_letterOf_45 : decode cX4_letterOf 45 = .ok (.bipush 99, 2) := by decide +kernel
theorem dX4_letterOf_47 : decode cX4_letterOf 47 = .ok (.ireturn, 1) := by decide +kernel
theorem dX4_letterOf_48 : decode cX4_letterOf 48 = .ok (.bipush 114, 2) := by decide +kernel
theorem dX4_letterOf_50 : decode cX4_letterOf 50 = .ok (.ireturn, 1) := by decide +kernel
theorem dX4_letterOf_51 : decode cX4_letterOf 51 = .ok (.bipush 120, 2) := by decide +kernel
theorem dX4_letterOf_53 : decode cX4_letterOf 53 = .ok (.ireturn, 1) := by decide +kernel
theorem dX4_print_0 : decode cX4_print 0 = .ok (.aload_n 0, 1) := by decide +kernel
theorem dX4_print_1 : decode cX4_print 1 = .ok (.iload_n 1, 1) := by decide +kernel
theorem dX4_print_2 : decode cX4_print 2 = .ok (.invokevirtual 88, 3) := by decide +kernel
theorem dX4_print_5 : decode cX4_print 5 = .ok (.ifCond .eq 7, 3) := by decide +kernel
theorem dX4_print_8 : decode cX4_print 8 = .ok (.iload_n 2, 1) := by decide +kernel
theorem dX4_print_9 : decode cX4_print 9 = .ok (.ifCond .ge 5, 3) := by decide +kernel
theorem dX4_print_12 : decode cX4_print 12 = .ok (.iconst (-1), 1) := by decide +kernel
theorem dX4_print_13 : decode cX4_print 13 = .ok (.ireturn, 1) := by decide +kernel
theorem dX4_print_14 : decode cX4_print 14 = .ok (.aload_n 0, 1) := by decide +kernel
theorem dX4_print_15 : decode cX4_print 15 = .ok (.iload_n 2, 1) := by decide +kernel
theorem dX4_print_16 : decode cX4_print 16 = .ok (.putfield 126, 3) := by decide +kernel
theorem dX4_print_19 : decode cX4_print 19 = .ok (.aload_n 0, 1) := by decide +kernel
theorem dX4_print_20 : decode cX4_print 20 = .ok (.iconst (-1), 1) := by decide +kernel
theorem dX4_print_21 : decode cX4_print 21 = .ok (.putfield 129, 3) := by decide +kernel
theorem dX4_print_24 : decode cX4_print 24 = .ok (.aload_n 0, 1) := by decide +kernel
theorem dX4_print_25 : decode cX4_print 25 = .ok (.iload_n 1, 1) := by decide +kernel
theorem dX4_print_26 : decode cX4_print 26 = .ok (.i2l, 1) := by decide +kernel
theorem dX4_print_27 : decode cX4_print 27 = .ok (.invokevirtual 142, 3) := by decide +kernel
theorem dX4_print_30 : decode cX4_print 30 = .ok (.aload_n 0, 1) := by decide +kernel
theorem dX4_print_31 : decode cX4_print 31 = .ok (.bipush 32, 2) := by decide +kernel
theorem dX4_print_33 : decode cX4_print 33 = .ok (.invokevirtual 138, 3) := by decide +kernel
theorem dX4_print_36 : decode cX4_print 36 = .ok (.aload_n 0, 1) := by decide +kernel
theorem dX4_print_37 : decode cX4_print 37 = .ok (.aload_n 0, 1) := by decide +kernel
theorem dX4_print_38 : decode cX4_print 38 = .ok (.getfield 7, 3) := by decide +kernel
theorem dX4_print_41 : decode cX4_print 41 = .ok (.iload_n 1, 1) := by decide +kernel
theorem dX4_print_42 : decode cX4_print 42 = .ok (.laload, 1) := by decide +kernel
theorem dX4_print_43 : decode cX4_print 43 = .ok (.invokevirtual 142, 3) := by decide +kernel
theorem dX4_print_46 : decode cX4_print 46 = .ok (.aload_n 0, 1) := by decide +kernel
theorem dX4_print_47 : decode cX4_print 47 = .ok (.bipush 32, 2) := by decide +kernel
theorem dX4_print_49 : decode cX4_print 49 = .ok (.invokevirtual 138, 3) := by decide +kernel
theorem dX4_print_52 : decode cX4_print 52 = .ok (.aload_n 0, 1) := by decide +kernel
theorem dX4_print_53 : decode cX4_print 53 = .ok (.aload_n 0, 1) := by decide +kernel
theorem dX4_print_54 : decode cX4_print 54 = .ok (.getfield 13, 3) := by decide +kernel
theorem dX4_print_57 : decode cX4_print 57 = .ok (.iload_n 1, 1) := by decide +kernel
theorem dX4_print_58 : decode cX4_print 58 = .ok (.iaload, 1) := by decide +kernel
theorem dX4_print_59 : decode cX4_print 59 = .ok (.i2l, 1) := by decide +kernel
theorem dX4_print_60 : decode cX4_print 60 = .ok (.invokevirtual 142, 3) := by decide +kernel
theorem dX4_print_63 : decode cX4_print 63 = .ok (.aload_n 0, 1) := by decide +kernel
theorem dX4_print_64 : decode cX4_print 64 = .ok (.bipush 32, 2) := by decide +kernel
theorem dX4_print_66 : decode cX4_print 66 = .ok (.invokevirtual 138, 3) := by decide +kernel
theorem dX4_print_69 : decode cX4_print 69 = .ok (.aload_n 0, 1) := by decide +kernel
theorem dX4_print_70 : decode cX4_print 70 = .ok (.aload_n 0, 1) := by decide +kernel
theorem dX4_print_71 : decode cX4_print 71 = .ok (.getfield 17, 3) := by decide +kernel
theorem dX4_print_74 : decode cX4_print 74 = .ok (.iload_n 1, 1) := by decide +kernel
theorem dX4_print_75 : decode cX4_print 75 = .ok (.iaload, 1) := by decide +kernel
theorem dX4_print_76 : decode cX4_print 76 = .ok (.i2l, 1) := by decide +kernel
theorem dX4_print_77 : decode cX4_print 77 = .ok (.invokevirtual 142, 3) := by decide +kernel
theorem dX4_print_80 : decode cX4_print 80 = .ok (.aload_n 0, 1) := by decide +kernel
theorem dX4_print_81 : decode cX4_print 81 = .ok (.bipush 32, 2) := by decide +kernel
theorem dX4_print_83 : decode cX4_print 83 = .ok (.invokevirtual 138, 3) := by decide +kernel
theorem dX4_print_86 : decode cX4_print 86 = .ok (.aload_n 0, 1) := by decide +kernel
theorem dX4_print_87 : decode cX4_print 87 = .ok (.aload_n 0, 1) := by decide +kernel
theorem dX4_print_88 : decode cX4_print 88 = .ok (.iload_n 1, 1) := by decide +kernel
theorem dX4_print_89 : decode cX4_print 89 = .ok (.invokevirtual 97, 3) := by decide +kernel
theorem dX4_print_92 : decode cX4_print 92 = .ok (.i2l, 1) := by decide +kernel
theorem dX4_print_93 : decode cX4_print 93 = .ok (.invokevirtual 142, 3) := by decide +kernel
theorem dX4_print_96 : decode cX4_print 96 = .ok (.iconst 0, 1) := by decide +kernel
theorem dX4_print_97 : decode cX4_print 97 = .ok (.istore_n 3, 1) := by decide +kernel
theorem dX4_print_98 : decode cX4_print 98 = .ok (.iload_n 3, 1) := by decide +kernel
theorem dX4_print_99 : decode cX4_print 99 = .ok (.aload_n 0, 1) := by decide +kernel
theorem dX4_print_100 : decode cX4_print 100 = .ok (.getfield 70, 3) := by decide +kernel
theorem dX4_print_103 : decode cX4_print 103 = .ok (.if_icmp .ge 60, 3) := by decide +kernel
theorem dX4_print_106 : decode cX4_print 106 = .ok (.aload_n 0, 1) := by decide +kernel
theorem dX4_print_107 : decode cX4_print 107 = .ok (.getfield 36, 3) := by decide +kernel
theorem dX4_print_110 : decode cX4_print 110 = .ok (.iload_n 3, 1) := by decide +kernel
theorem dX4_print_111 : decode cX4_print 111 = .ok (.iaload, 1) := by decide +kernel
theorem dX4_print_112 : decode cX4_print 112 = .ok (.iload_n 1, 1) := by decide +kernel
theorem dX4_print_113 : decode cX4_print 113 = .ok (.if_icmp .ne 44, 3) := by decide +kernel
theorem dX4_print_116 : decode cX4_print 116 = .ok (.aload_n 0, 1) := by decide +kernel
theorem dX4_print_117 : decode cX4_print 117 = .ok (.bipush 44, 2) := by decide +kernel
theorem dX4_print_119 : decode cX4_print 119 = .ok (.invokevirtual 138, 3) := by decide +kernel
theorem dX4_print_122 : decode cX4_print 122 = .ok (.aload_n 0, 1) := by decide +kernel
theorem dX4_print_123 : decode cX4_print 123 = .ok (.iload_n 3, 1) := by decide +kernel
theorem dX4_print_124 : decode cX4_print 124 = .ok (.i2l, 1) := by decide +kernel
theorem dX4_print_125 : decode cX4_print 125 = .ok (.invokevirtual 142, 3) := by decide +kernel
theorem dX4_print_128 : decode cX4_print 128 = .ok (.aload_n 0, 1) := by decide +kernel
theorem dX4_print_129 : decode cX4_print 129 = .ok (.bipush 58, 2) := by decide +kernel
theorem dX4_print_131 : decode cX4_print 131 = .ok (.invokevirtual 138, 3) := by decide +kernel
theorem dX4_print_134 : decode cX4_print 134 = .ok (.aload_n 0, 1) := by decide +kernel
theorem dX4_print_135 : decode cX4_print 135 = .ok (.aload_n 0, 1) := by decide +kernel
theorem dX4_print_136 : decode cX4_print 136 = .ok (.getfield 39, 3) := by decide +kernel
theorem dX4_print_139 : decode cX4_print 139 = .ok (.iload_n 3, 1) := by decide +kernel
theorem dX4_print_140 : decode cX4_print 140 = .ok (.laload, 1) := by decide +kernel
theorem dX4_print_141 : decode cX4_print 141 = .ok (.invokevirtual 142, 3) := by decide +kernel
theorem dX4_print_144 : decode cX4_print 144 = .ok (.aload_n 0, 1) := by decide +kernel
theorem dX4_print_145 : decode cX4_print 145 = .ok (.aload_n 0, 1) := by decide +kernel
theorem dX4_print_146 : decode cX4_print 146 = .ok (.getfield 45, 3) := by decide +kernel
theorem dX4_print_149 : decode cX4_print 149 = .ok (.iload_n 3, 1) := by decide +kernel
theorem dX4_print_150 : decode cX4_print 150 = .ok (.iaload, 1) := by decide +kernel
theorem dX4_print_151 : decode cX4_print 151 = .ok (.invokestatic 146, 3) := by decide +kernel
theorem dX4_print_154 : decode cX4_print 154 = .ok (.invokevirtual 138, 3) := by decide +kernel
theorem dX4_print_157 : decode cX4_print 157 = .ok (.iinc 3 1, 3) := by decide +kernel
theorem dX4_print_160 : decode cX4_print 160 = .ok (.goto (-62), 3) := by decide +kernel
theorem dX4_print_163 : decode cX4_print 163 = .ok (.aload_n 0, 1) := by decide +kernel
theorem dX4_print_164 : decode cX4_print 164 = .ok (.getfield 129, 3) := by decide +kernel
theorem dX4_print_167 : decode cX4_print 167 = .ok (.ireturn, 1) := by decide +kernel
