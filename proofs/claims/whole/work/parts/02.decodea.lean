/-! decode rows of X0, X1, X2. Printed by wip/gen/names.py. -/
theorem dX0_init_0 : decode cX0_init 0 = .ok (.aload_n 0, 1) := by decide +kernel
theorem dX0_init_1 : decode cX0_init 1 = .ok (.invokespecial 3, 3) := by decide +kernel
theorem dX0_init_4 : decode cX0_init 4 = .ok (.aload_n 0, 1) := by decide +kernel
theorem dX0_init_5 : decode cX0_init 5 = .ok (.bipush 6, 2) := by decide +kernel
theorem dX0_init_7 : decode cX0_init 7 = .ok (.newarray .int, 2) := by decide +kernel
theorem dX0_init_9 : decode cX0_init 9 = .ok (.putfield 9, 3) := by decide +kernel
theorem dX0_init_12 : decode cX0_init 12 = .ok (.aload_n 0, 1) := by decide +kernel
theorem dX0_init_13 : decode cX0_init 13 = .ok (.iload_n 1, 1) := by decide +kernel
theorem dX0_init_14 : decode cX0_init 14 = .ok (.putfield 15, 3) := by decide +kernel
theorem dX0_init_17 : decode cX0_init 17 = .ok (.aload_n 0, 1) := by decide +kernel
theorem dX0_init_18 : decode cX0_init 18 = .ok (.lload_n 2, 1) := by decide +kernel
theorem dX0_init_19 : decode cX0_init 19 = .ok (.putfield 19, 3) := by decide +kernel
theorem dX0_init_22 : decode cX0_init 22 = .ok (.aload_n 0, 1) := by decide +kernel
theorem dX0_init_23 : decode cX0_init 23 = .ok (.iload 4, 2) := by decide +kernel
theorem dX0_init_25 : decode cX0_init 25 = .ok (.putfield 23, 3) := by decide +kernel
theorem dX0_init_28 : decode cX0_init 28 = .ok (.aload_n 0, 1) := by decide +kernel
theorem dX0_init_29 : decode cX0_init 29 = .ok (.iconst 0, 1) := by decide +kernel
theorem dX0_init_30 : decode cX0_init 30 = .ok (.putfield 26, 3) := by decide +kernel
theorem dX0_init_33 : decode cX0_init 33 = .ok (.aload_n 0, 1) := by decide +kernel
theorem dX0_init_34 : decode cX0_init 34 = .ok (.iload 5, 2) := by decide +kernel
theorem dX0_init_36 : decode cX0_init 36 = .ok (.putfield 29, 3) := by decide +kernel
theorem dX0_init_39 : decode cX0_init 39 = .ok (.return_, 1) := by decide +kernel
theorem dX0_enter_0 : decode cX0_enter 0 = .ok (.aload_n 0, 1) := by decide +kernel
theorem dX0_enter_1 : decode cX0_enter 1 = .ok (.iload_n 1, 1) := by decide +kernel
theorem dX0_enter_2 : decode cX0_enter 2 = .ok (.putfield 26, 3) := by decide +kernel
theorem dX0_enter_5 : decode cX0_enter 5 = .ok (.aload_n 0, 1) := by decide +kernel
theorem dX0_enter_6 : decode cX0_enter 6 = .ok (.iload_n 2, 1) := by decide +kernel
theorem dX0_enter_7 : decode cX0_enter 7 = .ok (.putfield 29, 3) := by decide +kernel
theorem dX0_enter_10 : decode cX0_enter 10 = .ok (.return_, 1) := by decide +kernel
theorem dX0_usesGrams_0 : decode cX0_usesGrams 0 = .ok (.aload_n 0, 1) := by decide +kernel
theorem dX0_usesGrams_1 : decode cX0_usesGrams 1 = .ok (.getfield 26, 3) := by decide +kernel
theorem dX0_usesGrams_4 : decode cX0_usesGrams 4 = .ok (.iconst 4, 1) := by decide +kernel
theorem dX0_usesGrams_5 : decode cX0_usesGrams 5 = .ok (.if_icmp .eq 15, 3) := by decide +kernel
theorem dX0_usesGrams_8 : decode cX0_usesGrams 8 = .ok (.aload_n 0, 1) := by decide +kernel
theorem dX0_usesGrams_9 : decode cX0_usesGrams 9 = .ok (.getfield 26, 3) := by decide +kernel
theorem dX0_usesGrams_12 : decode cX0_usesGrams 12 = .ok (.iconst 5, 1) := by decide +kernel
theorem dX0_usesGrams_13 : decode cX0_usesGrams 13 = .ok (.if_icmp .eq 7, 3) := by decide +kernel
theorem dX0_usesGrams_16 : decode cX0_usesGrams 16 = .ok (.iconst 1, 1) := by decide +kernel
theorem dX0_usesGrams_17 : decode cX0_usesGrams 17 = .ok (.goto 4, 3) := by decide +kernel
theorem dX0_usesGrams_20 : decode cX0_usesGrams 20 = .ok (.iconst 0, 1) := by decide +kernel
theorem dX0_usesGrams_21 : decode cX0_usesGrams 21 = .ok (.ireturn, 1) := by decide +kernel
theorem dX0_addCarrier_0 : decode cX0_addCarrier 0 = .ok (.aload_n 0, 1) := by decide +kernel
theorem dX0_addCarrier_1 : decode cX0_addCarrier 1 = .ok (.getfield 32, 3) := by decide +kernel
theorem dX0_addCarrier_4 : decode cX0_addCarrier 4 = .ok (.bipush 6, 2) := by decide +kernel
theorem dX0_addCarrier_6 : decode cX0_addCarrier 6 = .ok (.if_icmp .ge 12, 3) := by decide +kernel
theorem dX0_addCarrier_9 : decode cX0_addCarrier 9 = .ok (.aload_n 0, 1) := by decide +kernel
theorem dX0_addCarrier_10 : decode cX0_addCarrier 10 = .ok (.iconst 0, 1) := by decide +kernel
theorem dX0_addCarrier_11 : decode cX0_addCarrier 11 = .ok (.invokevirtual 35, 3) := by decide +kernel
theorem dX0_addCarrier_14 : decode cX0_addCarrier 14 = .ok (.iload_n 1, 1) := by decide +kernel
theorem dX0_addCarrier_15 : decode cX0_addCarrier 15 = .ok (.if_icmp .ne 5, 3) := by decide +kernel
theorem dX0_addCarrier_18 : decode cX0_addCarrier 18 = .ok (.iconst (-1), 1) := by decide +kernel
theorem dX0_addCarrier_19 : decode cX0_addCarrier 19 = .ok (.ireturn, 1) := by decide +kernel
theorem dX0_addCarrier_20 : decode cX0_addCarrier 20 = .ok (.aload_n 0, 1) := by decide +kernel
theorem dX0_addCarrier_21 : decode cX0_addCarrier 21 = .ok (.getfield 9, 3) := by decide +kernel
theorem dX0_addCarrier_24 : decode cX0_addCarrier 24 = .ok (.aload_n 0, 1) := by decide +kernel
theorem dX0_addCarrier_25 : decode cX0_addCarrier 25 = .ok (.getfield 32, 3) := by decide +kernel
theorem dX0_addCarrier_28 : decode cX0_addCarrier 28 = .ok (.iload_n 1, 1) := by decide +kernel
theorem dX0_addCarrier_29 : decode cX0_addCarrier 29 = .ok (.iastore, 1) := by decide +kernel
theorem dX0_addCarrier_30 : decode cX0_addCarrier 30 = .ok (.aload_n 0, 1) := by decide +kernel
theorem dX0_addCarrier_31 : decode cX0_addCarrier 31 = .ok (.dup, 1) := by decide +kernel
theorem dX0_addCarrier_32 : decode cX0_addCarrier 32 = .ok (.getfield 32, 3) := by decide +kernel
theorem dX0_addCarrier_35 : decode cX0_addCarrier 35 = .ok (.iconst 1, 1) := by decide +kernel
theorem dX0_addCarrier_36 : decode cX0_addCarrier 36 = .ok (.iadd, 1) := by decide +kernel
theorem dX0_addCarrier_37 : decode cX0_addCarrier 37 = .ok (.putfield 32, 3) := by decide +kernel
theorem dX0_addCarrier_40 : decode cX0_addCarrier 40 = .ok (.aload_n 0, 1) := by decide +kernel
theorem dX0_addCarrier_41 : decode cX0_addCarrier 41 = .ok (.getfield 32, 3) := by decide +kernel
theorem dX0_addCarrier_44 : decode cX0_addCarrier 44 = .ok (.ireturn, 1) := by decide +kernel
theorem dX0_carrierBack_0 : decode cX0_carrierBack 0 = .ok (.iload_n 1, 1) := by decide +kernel
theorem dX0_carrierBack_1 : decode cX0_carrierBack 1 = .ok (.ifCond .lt 11, 3) := by decide +kernel
theorem dX0_carrierBack_4 : decode cX0_carrierBack 4 = .ok (.iload_n 1, 1) := by decide +kernel
theorem dX0_carrierBack_5 : decode cX0_carrierBack 5 = .ok (.aload_n 0, 1) := by decide +kernel
theorem dX0_carrierBack_6 : decode cX0_carrierBack 6 = .ok (.getfield 32, 3) := by decide +kernel
theorem dX0_carrierBack_9 : decode cX0_carrierBack 9 = .ok (.if_icmp .lt 7, 3) := by decide +kernel
theorem dX0_carrierBack_12 : decode cX0_carrierBack 12 = .ok (.iconst (-1), 1) := by decide +kernel
theorem dX0_carrierBack_13 : decode cX0_carrierBack 13 = .ok (.goto 16, 3) := by decide +kernel
theorem dX0_carrierBack_16 : decode cX0_carrierBack 16 = .ok (.aload_n 0, 1) := by decide +kernel
theorem dX0_carrierBack_17 : decode cX0_carrierBack 17 = .ok (.getfield 9, 3) := by decide +kernel
theorem dX0_carrierBack_20 : decode cX0_carrierBack 20 = .ok (.aload_n 0, 1) := by decide +kernel
theorem dX0_carrierBack_21 : decode cX0_carrierBack 21 = .ok (.getfield 32, 3) := by decide +kernel
theorem dX0_carrierBack_24 : decode cX0_carrierBack 24 = .ok (.iconst 1, 1) := by decide +kernel
theorem dX0_carrierBack_25 : decode cX0_carrierBack 25 = .ok (.isub, 1) := by decide +kernel
theorem dX0_carrierBack_26 : decode cX0_carrierBack 26 = .ok (.iload_n 1, 1) := by decide +kernel
theorem dX0_carrierBack_27 : decode cX0_carrierBack 27 = .ok (.isub, 1) := by decide +kernel
theorem dX0_carrierBack_28 : decode cX0_carrierBack 28 = .ok (.iaload, 1) := by decide +kernel
theorem dX0_carrierBack_29 : decode cX0_carrierBack 29 = .ok (.ireturn, 1) := by decide +kernel
theorem dX0_letter_0 : decode cX0_letter 0 = .ok (.aload_n 0, 1) := by decide +kernel
theorem dX0_letter_1 : decode cX0_letter 1 = .ok (.getfield 26, 3) := by decide +kernel
theorem dX0_letter_4 : decode cX0_letter 4 = .ok (.ifCond .lt 12, 3) := by decide +kernel
theorem dX0_letter_7 : decode cX0_letter 7 = .ok (.aload_n 0, 1) := by decide +kernel
theorem dX0_letter_8 : decode cX0_letter 8 = .ok (.getfield 26, 3) := by decide +kernel
theorem dX0_letter_11 : decode cX0_letter 11 = .ok (.bipush 6, 2) := by decide +kernel
theorem dX0_letter_13 : decode cX0_letter 13 = .ok (.if_icmp .lt 8, 3) := by decide +kernel
theorem dX0_letter_16 : decode cX0_letter 16 = .ok (.bipush 63, 2) := by decide +kernel
theorem dX0_letter_18 : decode cX0_letter 18 = .ok (.goto 11, 3) := by decide +kernel
theorem dX0_letter_21 : decode cX0_letter 21 = .ok (.getstatic 39, 3) := by decide +kernel
theorem dX0_letter_24 : decode cX0_letter 24 = .ok (.aload_n 0, 1) := by decide +kernel
theorem dX0_letter_25 : decode cX0_letter 25 = .ok (.getfield 26, 3) := by decide +kernel
theorem dX0_letter_28 : decode cX0_letter 28 = .ok (.caload, 1) := by decide +kernel
theorem dX0_letter_29 : decode cX0_letter 29 = .ok (.ireturn, 1) := by decide +kernel
theorem dX1_init_0 : decode cX1_init 0 = .ok (.aload_n 0, 1) := by decide +kernel
theorem dX1_init_1 : decode cX1_init 1 = .ok (.invokespecial 3, 3) := by decide +kernel
theorem dX1_init_4 : decode cX1_init 4 = .ok (.aload_n 0, 1) := by decide +kernel
theorem dX1_init_5 : decode cX1_init 5 = .ok (.bipush 6, 2) := by decide +kernel
theorem dX1_init_7 : decode cX1_init 7 = .ok (.newarray .int, 2) := by decide +kernel
theorem dX1_init_9 : decode cX1_init 9 = .ok (.putfield 9, 3) := by decide +kernel
theorem dX1_init_12 : decode cX1_init 12 = .ok (.aload_n 0, 1) := by decide +kernel
theorem dX1_init_13 : decode cX1_init 13 = .ok (.bipush 6, 2) := by decide +kernel
theorem dX1_init_15 : decode cX1_init 15 = .ok (.newarray .int, 2) := by decide +kernel
theorem dX1_init_17 : decode cX1_init 17 = .ok (.putfield 15, 3) := by decide +kernel
theorem dX1_init_20 : decode cX1_init 20 = .ok (.aload_n 0, 1) := by decide +kernel
theorem dX1_init_21 : decode cX1_init 21 = .ok (.bipush 6, 2) := by decide +kernel
theorem dX1_init_23 : decode cX1_init 23 = .ok (.newarray .int, 2) := by decide +kernel
theorem dX1_init_25 : decode cX1_init 25 = .ok (.putfield 18, 3) := by decide +kernel
theorem dX1_init_28 : decode cX1_init 28 = .ok (.aload_n 0, 1) := by decide +kernel
theorem dX1_init_29 : decode cX1_init 29 = .ok (.lload_n 1, 1) := by decide +kernel
theorem dX1_init_30 : decode cX1_init 30 = .ok (.putfield 21, 3) := by decide +kernel
theorem dX1_init_33 : decode cX1_init 33 = .ok (.aload_n 0, 1) := by decide +kernel
theorem dX1_init_34 : decode cX1_init 34 = .ok (.iload_n 3, 1) := by decide +kernel
theorem dX1_init_35 : decode cX1_init 35 = .ok (.putfield 25, 3) := by decide +kernel
theorem dX1_init_38 : decode cX1_init 38 = .ok (.aload_n 0, 1) := by decide +kernel
theorem dX1_init_39 : decode cX1_init 39 = .ok (.iload 4, 2) := by decide +kernel
theorem dX1_init_41 : decode cX1_init 41 = .ok (.putfield 29, 3) := by decide +kernel
theorem dX1_init_44 : decode cX1_init 44 = .ok (.return_, 1) := by decide +kernel
theorem dX1_covers_0 : decode cX1_covers 0 = .ok (.iload_n 1, 1) := by decide +kernel
theorem dX1_covers_1 : decode cX1_covers 1 = .ok (.aload_n 0, 1) := by decide +kernel
theorem dX1_covers_2 : decode cX1_covers 2 = .ok (.getfield 25, 3) := by decide +kernel
theorem dX1_covers_5 : decode cX1_covers 5 = .ok (.if_icmp .lt 15, 3) := by decide +kernel
theorem dX1_covers_8 : decode cX1_covers 8 = .ok (.iload_n 1, 1) := by decide +kernel
theorem dX1_covers_9 : decode cX1_covers 9 = .ok (.aload_n 0, 1) := by decide +kernel
theorem dX1_covers_10 : decode cX1_covers 10 = .ok (.getfield 29, 3) := by decide +kernel
theorem dX1_covers_13 : decode cX1_covers 13 = .ok (.if_icmp .gt 7, 3) := by decide +kernel
theorem dX1_covers_16 : decode cX1_covers 16 = .ok (.iconst 1, 1) := by decide +kernel
theorem dX1_covers_17 : decode cX1_covers 17 = .ok (.goto 4, 3) := by decide +kernel
theorem dX1_covers_20 : decode cX1_covers 20 = .ok (.iconst 0, 1) := by decide +kernel
theorem dX1_covers_21 : decode cX1_covers 21 = .ok (.ireturn, 1) := by decide +kernel
theorem dX1_ask_0 : decode cX1_ask 0 = .ok (.iload_n 1, 1) := by decide +kernel
theorem dX1_ask_1 : decode cX1_ask 1 = .ok (.ifCond .lt 18, 3) := by decide +kernel
theorem dX1_ask_4 : decode cX1_ask 4 = .ok (.iload_n 1, 1) := by decide +kernel
theorem dX1_ask_5 : decode cX1_ask 5 = .ok (.bipush 6, 2) := by decide +kernel
theorem dX1_ask_7 : decode cX1_ask 7 = .ok (.if_icmp .ge 12, 3) := by decide +kernel
theorem dX1_ask_10 : decode cX1_ask 10 = .ok (.aload_n 0, 1) := by decide +kernel
theorem dX1_ask_11 : decode cX1_ask 11 = .ok (.getfield 9, 3) := by decide +kernel
theorem dX1_ask_14 : decode cX1_ask 14 = .ok (.iload_n 1, 1) := by decide +kernel
theorem dX1_ask_15 : decode cX1_ask 15 = .ok (.iaload, 1) := by decide +kernel
theorem dX1_ask_16 : decode cX1_ask 16 = .ok (.ifCond .eq 5, 3) := by decide +kernel
theorem dX1_ask_19 : decode cX1_ask 19 = .ok (.iconst 0, 1) := by decide +kernel
theorem dX1_ask_20 : decode cX1_ask 20 = .ok (.ireturn, 1) := by decide +kernel
theorem dX1_ask_21 : decode cX1_ask 21 = .ok (.aload_n 0, 1) := by decide +kernel
theorem dX1_ask_22 : decode cX1_ask 22 = .ok (.getfield 9, 3) := by decide +kernel
theorem dX1_ask_25 : decode cX1_ask 25 = .ok (.iload_n 1, 1) := by decide +kernel
theorem dX1_ask_26 : decode cX1_ask 26 = .ok (.iconst 1, 1) := by decide +kernel
theorem dX1_ask_27 : decode cX1_ask 27 = .ok (.iastore, 1) := by decide +kernel
theorem dX1_ask_28 : decode cX1_ask 28 = .ok (.aload_n 0, 1) := by decide +kernel
theorem dX1_ask_29 : decode cX1_ask 29 = .ok (.getfield 15, 3) := by decide +kernel
theorem dX1_ask_32 : decode cX1_ask 32 = .ok (.iload_n 1, 1) := by decide +kernel
theorem dX1_ask_33 : decode cX1_ask 33 = .ok (.iload_n 3, 1) := by decide +kernel
theorem dX1_ask_34 : decode cX1_ask 34 = .ok (.iastore, 1) := by decide +kernel
theorem dX1_ask_35 : decode cX1_ask 35 = .ok (.aload_n 0, 1) := by decide +kernel
theorem dX1_ask_36 : decode cX1_ask 36 = .ok (.getfield 18, 3) := by decide +kernel
theorem dX1_ask_39 : decode cX1_ask 39 = .ok (.iload_n 1, 1) := by decide +kernel
theorem dX1_ask_40 : decode cX1_ask 40 = .ok (.iload_n 2, 1) := by decide +kernel
theorem dX1_ask_41 : decode cX1_ask 41 = .ok (.iastore, 1) := by decide +kernel
theorem dX1_ask_42 : decode cX1_ask 42 = .ok (.iconst 1, 1) := by decide +kernel
theorem dX1_ask_43 : decode cX1_ask 43 = .ok (.ireturn, 1) := by decide +kernel
theorem dX1_answer_0 : decode cX1_answer 0 = .ok (.iload_n 1, 1) := by decide +kernel
theorem dX1_answer_1 : decode cX1_answer 1 = .ok (.ifCond .lt 19, 3) := by decide +kernel
theorem dX1_answer_4 : decode cX1_answer 4 = .ok (.iload_n 1, 1) := by decide +kernel
theorem dX1_answer_5 : decode cX1_answer 5 = .ok (.bipush 6, 2) := by decide +kernel
theorem dX1_answer_7 : decode cX1_answer 7 = .ok (.if_icmp .ge 13, 3) := by decide +kernel
theorem dX1_answer_10 : decode cX1_answer 10 = .ok (.aload_n 0, 1) := by decide +kernel
theorem dX1_answer_11 : decode cX1_answer 11 = .ok (.getfield 9, 3) := by decide +kernel
theorem dX1_answer_14 : decode cX1_answer 14 = .ok (.iload_n 1, 1) := by decide +kernel
theorem dX1_answer_15 : decode cX1_answer 15 = .ok (.iaload, 1) := by decide +kernel
theorem dX1_answer_16 : decode cX1_answer 16 = .ok (.iconst 1, 1) := by decide +kernel
theorem dX1_answer_17 : decode cX1_answer 17 = .ok (.if_icmp .eq 5, 3) := by decide +kernel
theorem dX1_answer_20 : decode cX1_answer 20 = .ok (.iconst 0, 1) := by decide +kernel
theorem dX1_answer_21 : decode cX1_answer 21 = .ok (.ireturn, 1) := by decide +kernel
theorem dX1_answer_22 : decode cX1_answer 22 = .ok (.aload_n 0, 1) := by decide +kernel
theorem dX1_answer_23 : decode cX1_answer 23 = .ok (.getfield 9, 3) := by decide +kernel
theorem dX1_answer_26 : decode cX1_answer 26 = .ok (.iload_n 1, 1) := by decide +kernel
theorem dX1_answer_27 : decode cX1_answer 27 = .ok (.iload_n 2, 1) := by decide +kernel
theorem dX1_answer_28 : decode cX1_answer 28 = .ok (.ifCond .eq 7, 3) := by decide +kernel
theorem dX1_answer_31 : decode cX1_answer 31 = .ok (.iconst 2, 1) := by decide +kernel
theorem dX1_answer_32 : decode cX1_answer 32 = .ok (.goto 4, 3) := by decide +kernel
theorem dX1_answer_35 : decode cX1_answer 35 = .ok (.iconst 3, 1) := by decide +kernel
theorem dX1_answer_36 : decode cX1_answer 36 = .ok (.iastore, 1) := by decide +kernel
theorem dX1_answer_37 : decode cX1_answer 37 = .ok (.iconst 1, 1) := by decide +kernel
theorem dX1_answer_38 : decode cX1_answer 38 = .ok (.ireturn, 1) := by decide +kernel
theorem dX1_agreeSilently_0 : decode cX1_agreeSilently 0 = .ok (.iconst 0, 1) := by decide +kernel
theorem dX1_agreeSilently_1 : decode cX1_agreeSilently 1 = .ok (.istore_n 2, 1) := by decide +kernel
theorem dX1_agreeSilently_2 : decode cX1_agreeSilently 2 = .ok (.iconst 0, 1) := by decide +kernel
theorem dX1_agreeSilently_3 : decode cX1_agreeSilently 3 = .ok (.istore_n 3, 1) := by decide +kernel
theorem dX1_agreeSilently_4 : decode cX1_agreeSilently 4 = .ok (.iload_n 3, 1) := by decide +kernel
theorem dX1_agreeSilently_5 : decode cX1_agreeSilently 5 = .ok (.bipush 6, 2) := by decide +kernel
theorem dX1_agreeSilently_7 : decode cX1_agreeSilently 7 = .ok (.if_icmp .ge 46, 3) := by decide +kernel
theorem dX1_agreeSilently_10 : decode cX1_agreeSilently 10 = .ok (.aload_n 0, 1) := by decide +kernel
theorem dX1_agreeSilently_11 : decode cX1_agreeSilently 11 = .ok (.getfield 9, 3) := by decide +kernel
theorem dX1_agreeSilently_14 : decode cX1_agreeSilently 14 = .ok (.iload_n 3, 1) := by decide +kernel
theorem dX1_agreeSilently_15 : decode cX1_agreeSilently 15 = .ok (.iaload, 1) := by decide +kernel
theorem dX1_agreeSilently_16 : decode cX1_agreeSilently 16 = .ok (.iconst 1, 1) := by decide +kernel
theorem dX1_agreeSilently_17 : decode cX1_agreeSilently 17 = .ok (.if_icmp .ne 30, 3) := by decide +kernel
theorem dX1_agreeSilently_20 : decode cX1_agreeSilently 20 = .ok (.iload_n 1, 1) := by decide +kernel
theorem dX1_agreeSilently_21 : decode cX1_agreeSilently 21 = .ok (.aload_n 0, 1) := by decide +kernel
theorem dX1_agreeSilently_22 : decode cX1_agreeSilently 22 = .ok (.getfield 15, 3) := by decide +kernel
theorem dX1_agreeSilently_25 : decode cX1_agreeSilently 25 = .ok (.iload_n 3, 1) := by decide +kernel
theorem dX1_agreeSilently_26 : decode cX1_agreeSilently 26 = .ok (.iaload, 1) := by decide +kernel
theorem dX1_agreeSilently_27 : decode cX1_agreeSilently 27 = .ok (.isub, 1) := by decide +kernel
theorem dX1_agreeSilently_28 : decode cX1_agreeSilently 28 = .ok (.aload_n 0, 1) := by decide +kernel
theorem dX1_agreeSilently_29 : decode cX1_agreeSilently 29 = .ok (.getfield 18, 3) := by decide +kernel
theorem dX1_agreeSilently_32 : decode cX1_agreeSilently 32 = .ok (.iload_n 3, 1) := by decide +kernel
theorem dX1_agreeSilently_33 : decode cX1_agreeSilently 33 = .ok (.iaload, 1) := by decide +kernel
theorem dX1_agreeSilently_34 : decode cX1_agreeSilently 34 = .ok (.if_icmp .le 13, 3) := by decide +kernel
theorem dX1_agreeSilently_37 : decode cX1_agreeSilently 37 = .ok (.aload_n 0, 1) := by decide +kernel
theorem dX1_agreeSilently_38 : decode cX1_agreeSilently 38 = .ok (.getfield 9, 3) := by decide +kernel
theorem dX1_agreeSilently_41 : decode cX1_agreeSilently 41 = .ok (.iload_n 3, 1) := by decide +kernel
theorem dX1_agreeSilently_42 : decode cX1_agreeSilently 42 = .ok (.iconst 2, 1) := by decide +kernel
theorem dX1_agreeSilently_43 : decode cX1_agreeSilently 43 = .ok (.iastore, 1) := by decide +kernel
theorem dX1_agreeSilently_44 : decode cX1_agreeSilently 44 = .ok (.iinc 2 1, 3) := by decide +kernel
theorem dX1_agreeSilently_47 : decode cX1_agreeSilently 47 = .ok (.iinc 3 1, 3) := by decide +kernel
theorem dX1_agreeSilently_50 : decode cX1_agreeSilently 50 = .ok (.goto (-46), 3) := by decide +kernel
theorem dX1_agreeSilently_53 : decode cX1_agreeSilently 53 = .ok (.iload_n 2, 1) := by decide +kernel
theorem dX1_agreeSilently_54 : decode cX1_agreeSilently 54 = .ok (.ireturn, 1) := by decide +kernel
theorem dX1_stateOn_0 : decode cX1_stateOn 0 = .ok (.aload_n 0, 1) := by decide +kernel
theorem dX1_stateOn_1 : decode cX1_stateOn 1 = .ok (.iconst 3, 1) := by decide +kernel
theorem dX1_stateOn_2 : decode cX1_stateOn 2 = .ok (.invokevirtual 32, 3) := by decide +kernel
theorem dX1_stateOn_5 : decode cX1_stateOn 5 = .ok (.ifCond .le 5, 3) := by decide +kernel
theorem dX1_stateOn_8 : decode cX1_stateOn 8 = .ok (.iconst 2, 1) := by decide +kernel
theorem dX1_stateOn_9 : decode cX1_stateOn 9 = .ok (.ireturn, 1) := by decide +kernel
theorem dX1_stateOn_10 : decode cX1_stateOn 10 = .ok (.iload_n 1, 1) := by decide +kernel
theorem dX1_stateOn_11 : decode cX1_stateOn 11 = .ok (.aload_n 0, 1) := by decide +kernel
theorem dX1_stateOn_12 : decode cX1_stateOn 12 = .ok (.getfield 29, 3) := by decide +kernel
theorem dX1_stateOn_15 : decode cX1_stateOn 15 = .ok (.if_icmp .le 5, 3) := by decide +kernel
theorem dX1_stateOn_18 : decode cX1_stateOn 18 = .ok (.iconst 3, 1) := by decide +kernel
theorem dX1_stateOn_19 : decode cX1_stateOn 19 = .ok (.ireturn, 1) := by decide +kernel
theorem dX1_stateOn_20 : decode cX1_stateOn 20 = .ok (.aload_n 0, 1) := by decide +kernel
theorem dX1_stateOn_21 : decode cX1_stateOn 21 = .ok (.iconst 2, 1) := by decide +kernel
theorem dX1_stateOn_22 : decode cX1_stateOn 22 = .ok (.invokevirtual 32, 3) := by decide +kernel
theorem dX1_stateOn_25 : decode cX1_stateOn 25 = .ok (.ifCond .le 15, 3) := by decide +kernel
theorem dX1_stateOn_28 : decode cX1_stateOn 28 = .ok (.aload_n 0, 1) := by decide +kernel
theorem dX1_stateOn_29 : decode cX1_stateOn 29 = .ok (.iconst 1, 1) := by decide +kernel
theorem dX1_stateOn_30 : decode cX1_stateOn 30 = .ok (.invokevirtual 32, 3) := by decide +kernel
theorem dX1_stateOn_33 : decode cX1_stateOn 33 = .ok (.ifCond .ne 7, 3) := by decide +kernel
theorem dX1_stateOn_36 : decode cX1_stateOn 36 = .ok (.iconst 1, 1) := by decide +kernel
theorem dX1_stateOn_37 : decode cX1_stateOn 37 = .ok (.goto 4, 3) := by decide +kernel
theorem dX1_stateOn_40 : decode cX1_stateOn 40 = .ok (.iconst 0, 1) := by decide +kernel
theorem dX1_stateOn_41 : decode cX1_stateOn 41 = .ok (.ireturn, 1) := by decide +kernel
theorem dX1_countOf_0 : decode cX1_countOf 0 = .ok (.iconst 0, 1) := by decide +kernel
theorem dX1_countOf_1 : decode cX1_countOf 1 = .ok (.istore_n 2, 1) := by decide +kernel
theorem dX1_countOf_2 : decode cX1_countOf 2 = .ok (.iconst 0, 1) := by decide +kernel
theorem dX1_countOf_3 : decode cX1_countOf 3 = .ok (.istore_n 3, 1) := by decide +kernel
theorem dX1_countOf_4 : decode cX1_countOf 4 = .ok (.iload_n 3, 1) := by decide +kernel
theorem dX1_countOf_5 : decode cX1_countOf 5 = .ok (.bipush 6, 2) := by decide +kernel
theorem dX1_countOf_7 : decode cX1_countOf 7 = .ok (.if_icmp .ge 22, 3) := by decide +kernel
theorem dX1_countOf_10 : decode cX1_countOf 10 = .ok (.aload_n 0, 1) := by decide +kernel
theorem dX1_countOf_11 : decode cX1_countOf 11 = .ok (.getfield 9, 3) := by decide +kernel
theorem dX1_countOf_14 : decode cX1_countOf 14 = .ok (.iload_n 3, 1) := by decide +kernel
theorem dX1_countOf_15 : decode cX1_countOf 15 = .ok (.iaload, 1) := by decide +kernel
theorem dX1_countOf_16 : decode cX1_countOf 16 = .ok (.iload_n 1, 1) := by decide +kernel
theorem dX1_countOf_17 : decode cX1_countOf 17 = .ok (.if_icmp .ne 6, 3) := by decide +kernel
theorem dX1_countOf_20 : decode cX1_countOf 20 = .ok (.iinc 2 1, 3) := by decide +kernel
theorem dX1_countOf_23 : decode cX1_countOf 23 = .ok (.iinc 3 1, 3) := by decide +kernel
theorem dX1_countOf_26 : decode cX1_countOf 26 = .ok (.goto (-22), 3) := by decide +kernel
theorem dX1_countOf_29 : decode cX1_countOf 29 = .ok (.iload_n 2, 1) := by decide +kernel
theorem dX1_countOf_30 : decode cX1_countOf 30 = .ok (.ireturn, 1) := by decide +kernel
theorem dX2_init_0 : decode cX2_init 0 = .ok (.aload_n 0, 1) := by decide +kernel
theorem dX2_init_1 : decode cX2_init 1 = .ok (.invokespecial 3, 3) := by decide +kernel
theorem dX2_init_4 : decode cX2_init 4 = .ok (.aload_n 0, 1) := by decide +kernel
theorem dX2_init_5 : decode cX2_init 5 = .ok (.sipush 208, 3) := by decide +kernel
theorem dX2_init_8 : decode cX2_init 8 = .ok (.newarray .byte, 2) := by decide +kernel
theorem dX2_init_10 : decode cX2_init 10 = .ok (.putfield 9, 3) := by decide +kernel
theorem dX2_init_13 : decode cX2_init 13 = .ok (.return_, 1) := by decide +kernel
theorem dX2_clear_0 : decode cX2_clear 0 = .ok (.aload_n 0, 1) := by decide +kernel
theorem dX2_clear_1 : decode cX2_clear 1 = .ok (.iconst 0, 1) := by decide +kernel
theorem dX2_clear_2 : decode cX2_clear 2 = .ok (.putfield 15, 3) := by decide +kernel
theorem dX2_clear_5 : decode cX2_clear 5 = .ok (.return_, 1) := by decide +kernel
theorem dX2_add_0 : decode cX2_add 0 = .ok (.aload_n 0, 1) := by decide +kernel
theorem dX2_add_1 : decode cX2_add 1 = .ok (.getfield 15, 3) := by decide +kernel
theorem dX2_add_4 : decode cX2_add 4 = .ok (.sipush 208, 3) := by decide +kernel
theorem dX2_add_7 : decode cX2_add 7 = .ok (.if_icmp .ge 24, 3) := by decide +kernel
theorem dX2_add_10 : decode cX2_add 10 = .ok (.aload_n 0, 1) := by decide +kernel
theorem dX2_add_11 : decode cX2_add 11 = .ok (.getfield 9, 3) := by decide +kernel
theorem dX2_add_14 : decode cX2_add 14 = .ok (.aload_n 0, 1) := by decide +kernel
theorem dX2_add_15 : decode cX2_add 15 = .ok (.getfield 15, 3) := by decide +kernel
theorem dX2_add_18 : decode cX2_add 18 = .ok (.iload_n 1, 1) := by decide +kernel
theorem dX2_add_19 : decode cX2_add 19 = .ok (.i2b, 1) := by decide +kernel
theorem dX2_add_20 : decode cX2_add 20 = .ok (.bastore, 1) := by decide +kernel
theorem dX2_add_21 : decode cX2_add 21 = .ok (.aload_n 0, 1) := by decide +kernel
theorem dX2_add_22 : decode cX2_add 22 = .ok (.dup, 1) := by decide +kernel
theorem dX2_add_23 : decode cX2_add 23 = .ok (.getfield 15, 3) := by decide +kernel
theorem dX2_add_26 : decode cX2_add 26 = .ok (.iconst 1, 1) := by decide +kernel
theorem dX2_add_27 : decode cX2_add 27 = .ok (.iadd, 1) := by decide +kernel
theorem dX2_add_28 : decode cX2_add 28 = .ok (.putfield 15, 3) := by decide +kernel
theorem dX2_add_31 : decode cX2_add 31 = .ok (.return_, 1) := by decide +kernel
theorem dX2_addNumber_0 : decode cX2_addNumber 0 = .ok (.iconst 0, 1) := by decide +kernel
theorem dX2_addNumber_1 : decode cX2_addNumber 1 = .ok (.istore_n 3, 1) := by decide +kernel
theorem dX2_addNumber_2 : decode cX2_addNumber 2 = .ok (.ldc2_w 19, 3) := by decide +kernel
theorem dX2_addNumber_5 : decode cX2_addNumber 5 = .ok (.lstore 4, 2) := by decide +kernel
theorem dX2_addNumber_7 : decode cX2_addNumber 7 = .ok (.lload 4, 2) := by decide +kernel
theorem dX2_addNumber_9 : decode cX2_addNumber 9 = .ok (.lconst 1, 1) := by decide +kernel
theorem dX2_addNumber_10 : decode cX2_addNumber 10 = .ok (.lcmp, 1) := by decide +kernel
theorem dX2_addNumber_11 : decode cX2_addNumber 11 = .ok (.ifCond .lt 64, 3) := by decide +kernel
theorem dX2_addNumber_14 : decode cX2_addNumber 14 = .ok (.lload_n 1, 1) := by decide +kernel
theorem dX2_addNumber_15 : decode cX2_addNumber 15 = .ok (.lload 4, 2) := by decide +kernel
theorem dX2_addNumber_17 : decode cX2_addNumber 17 = .ok (.ldiv, 1) := by decide +kernel
theorem dX2_addNumber_18 : decode cX2_addNumber 18 = .ok (.ldc2_w 21, 3) := by decide +kernel
theorem dX2_addNumber_21 : decode cX2_addNumber 21 = .ok (.lrem, 1) := by decide +kernel
theorem dX2_addNumber_22 : decode cX2_addNumber 22 = .ok (.lstore 6, 2) := by decide +kernel
theorem dX2_addNumber_24 : decode cX2_addNumber 24 = .ok (.iload_n 3, 1) := by decide +kernel
theorem dX2_addNumber_25 : decode cX2_addNumber 25 = .ok (.ifCond .ne 17, 3) := by decide +kernel
theorem dX2_addNumber_28 : decode cX2_addNumber 28 = .ok (.lload 6, 2) := by decide +kernel
theorem dX2_addNumber_30 : decode cX2_addNumber 30 = .ok (.lconst 0, 1) := by decide +kernel
theorem dX2_addNumber_31 : decode cX2_addNumber 31 = .ok (.lcmp, 1) := by decide +kernel
theorem dX2_addNumber_32 : decode cX2_addNumber 32 = .ok (.ifCond .ne 10, 3) := by decide +kernel
theorem dX2_addNumber_35 : decode cX2_addNumber 35 = .ok (.lload 4, 2) := by decide +kernel
theorem dX2_addNumber_37 : decode cX2_addNumber 37 = .ok (.lconst 1, 1) := by decide +kernel
theorem dX2_addNumber_38 : decode cX2_addNumber 38 = .ok (.lcmp, 1) := by decide +kernel
theorem dX2_addNumber_39 : decode cX2_addNumber 39 = .ok (.ifCond .ne 7, 3) := by decide +kernel
theorem dX2_addNumber_42 : decode cX2_addNumber 42 = .ok (.iconst 1, 1) := by decide +kernel
theorem dX2_addNumber_43 : decode cX2_addNumber 43 = .ok (.goto 4, 3) := by decide +kernel
theorem dX2_addNumber_46 : decode cX2_addNumber 46 = .ok (.iconst 0, 1) := by decide +kernel
theorem dX2_addNumber_47 : decode cX2_addNumber 47 = .ok (.istore_n 3, 1) := by decide +kernel
theorem dX2_addNumber_48 : decode cX2_addNumber 48 = .ok (.iload_n 3, 1) := by decide +kernel
theorem dX2_addNumber_49 : decode cX2_addNumber 49 = .ok (.ifCond .eq 15, 3) := by decide +kernel
theorem dX2_addNumber_52 : decode cX2_addNumber 52 = .ok (.aload_n 0, 1) := by decide +kernel
theorem dX2_addNumber_53 : decode cX2_addNumber 53 = .ok (.ldc2_w 23, 3) := by decide +kernel
theorem dX2_addNumber_56 : decode cX2_addNumber 56 = .ok (.lload 6, 2) := by decide +kernel
theorem dX2_addNumber_58 : decode cX2_addNumber 58 = .ok (.ladd, 1) := by decide +kernel
theorem dX2_addNumber_59 : decode cX2_addNumber 59 = .ok (.l2i, 1) := by decide +kernel
theorem dX2_addNumber_60 : decode cX2_addNumber 60 = .ok (.i2c, 1) := by decide +kernel
theorem dX2_addNumber_61 : decode cX2_addNumber 61 = .ok (.invokevirtual 25, 3) := by decide +kernel
theorem dX2_addNumber_64 : decode cX2_addNumber 64 = .ok (.lload 4, 2) := by decide +kernel
theorem dX2_addNumber_66 : decode cX2_addNumber 66 = .ok (.ldc2_w 21, 3) := by decide +kernel
theorem dX2_addNumber_69 : decode cX2_addNumber 69 = .ok (.ldiv, 1) := by decide +kernel
theorem dX2_addNumber_70 : decode cX2_addNumber 70 = .ok (.lstore 4, 2) := by decide +kernel
theorem dX2_addNumber_72 : decode cX2_addNumber 72 = .ok (.goto (-65), 3) := by decide +kernel
theorem dX2_addNumber_75 : decode cX2_addNumber 75 = .ok (.return_, 1) := by decide +kernel
theorem dX2_byteAt_0 : decode cX2_byteAt 0 = .ok (.iload_n 1, 1) := by decide +kernel
theorem dX2_byteAt_1 : decode cX2_byteAt 1 = .ok (.ifCond .lt 11, 3) := by decide +kernel
theorem dX2_byteAt_4 : decode cX2_byteAt 4 = .ok (.iload_n 1, 1) := by decide +kernel
theorem dX2_byteAt_5 : decode cX2_byteAt 5 = .ok (.aload_n 0, 1) := by decide +kernel
theorem dX2_byteAt_6 : decode cX2_byteAt 6 = .ok (.getfield 15, 3) := by decide +kernel
theorem dX2_byteAt_9 : decode cX2_byteAt 9 = .ok (.if_icmp .lt 7, 3) := by decide +kernel
theorem dX2_byteAt_12 : decode cX2_byteAt 12 = .ok (.iconst (-1), 1) := by decide +kernel
theorem dX2_byteAt_13 : decode cX2_byteAt 13 = .ok (.goto 9, 3) := by decide +kernel
theorem dX2_byteAt_16 : decode cX2_byteAt 16 = .ok (.aload_n 0, 1) := by decide +kernel
theorem dX2_byteAt_17 : decode cX2_byteAt 17 = .ok (.getfield 9, 3) := by decide +kernel
theorem dX2_byteAt_20 : decode cX2_byteAt 20 = .ok (.iload_n 1, 1) := by decide +kernel
theorem dX2_byteAt_21 : decode cX2_byteAt 21 = .ok (.baload, 1) := by decide +kernel
theorem dX2_byteAt_22 : decode cX2_byteAt 22 = .ok (.ireturn, 1) := by decide +kernel
