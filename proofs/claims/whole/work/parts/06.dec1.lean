theorem dX1_choose_45 : decode cX1_choose 45 = .ok (.iload_n 3, 1) := by decide +kernel
theorem dX1_choose_46 : decode cX1_choose 46 = .ok (.iastore, 1) := by decide +kernel
theorem dX1_choose_47 : decode cX1_choose 47 = .ok (.aload_n 0, 1) := by decide +kernel
theorem dX1_choose_48 : decode cX1_choose 48 = .ok (.getfield 15, 3) := by decide +kernel
theorem dX1_choose_51 : decode cX1_choose 51 = .ok (.iload 6, 2) := by decide +kernel
theorem dX1_choose_53 : decode cX1_choose 53 = .ok (.iload 4, 2) := by decide +kernel
theorem dX1_choose_55 : decode cX1_choose 55 = .ok (.iastore, 1) := by decide +kernel
theorem dX1_choose_56 : decode cX1_choose 56 = .ok (.aload_n 0, 1) := by decide +kernel
theorem dX1_choose_57 : decode cX1_choose 57 = .ok (.getfield 18, 3) := by decide +kernel
theorem dX1_choose_60 : decode cX1_choose 60 = .ok (.iload 6, 2) := by decide +kernel
theorem dX1_choose_62 : decode cX1_choose 62 = .ok (.iload 5, 2) := by decide +kernel
theorem dX1_choose_64 : decode cX1_choose 64 = .ok (.iastore, 1) := by decide +kernel
theorem dX1_choose_65 : decode cX1_choose 65 = .ok (.iload 4, 2) := by decide +kernel
theorem dX1_choose_67 : decode cX1_choose 67 = .ok (.iload_n 3, 1) := by decide +kernel
theorem dX1_choose_68 : decode cX1_choose 68 = .ok (.iadd, 1) := by decide +kernel
theorem dX1_choose_69 : decode cX1_choose 69 = .ok (.istore 4, 2) := by decide +kernel
theorem dX1_choose_71 : decode cX1_choose 71 = .ok (.iload 5, 2) := by decide +kernel
theorem dX1_choose_73 : decode cX1_choose 73 = .ok (.iload_n 3, 1) := by decide +kernel
theorem dX1_choose_74 : decode cX1_choose 74 = .ok (.iload_n 3, 1) := by decide +kernel
theorem dX1_choose_75 : decode cX1_choose 75 = .ok (.iconst 1, 1) := by decide +kernel
theorem dX1_choose_76 : decode cX1_choose 76 = .ok (.iadd, 1) := by decide +kernel
theorem dX1_choose_77 : decode cX1_choose 77 = .ok (.imul, 1) := by decide +kernel
theorem dX1_choose_78 : decode cX1_choose 78 = .ok (.iconst 2, 1) := by decide +kernel
theorem dX1_choose_79 : decode cX1_choose 79 = .ok (.idiv, 1) := by decide +kernel
theorem dX1_choose_80 : decode cX1_choose 80 = .ok (.iadd, 1) := by decide +kernel
theorem dX1_choose_81 : decode cX1_choose 81 = .ok (.istore 5, 2) := by decide +kernel
theorem dX1_choose_83 : decode cX1_choose 83 = .ok (.iload_n 3, 1) := by decide +kernel
theorem dX1_choose_84 : decode cX1_choose 84 = .ok (.iload_n 1, 1) := by decide +kernel
theorem dX1_choose_85 : decode cX1_choose 85 = .ok (.imul, 1) := by decide +kernel
theorem dX1_choose_86 : decode cX1_choose 86 = .ok (.istore_n 3, 1) := by decide +kernel
theorem dX1_choose_87 : decode cX1_choose 87 = .ok (.iinc 6 1, 3) := by decide +kernel
theorem dX1_choose_90 : decode cX1_choose 90 = .ok (.goto (-60), 3) := by decide +kernel
theorem dX1_choose_93 : decode cX1_choose 93 = .ok (.return_, 1) := by decide +kernel
theorem dX1_firstLetter_0 : decode cX1_firstLetter 0 = .ok (.iload_n 1, 1) := by decide +kernel
theorem dX1_firstLetter_1 : decode cX1_firstLetter 1 = .ok (.ifCond .le 14, 3) := by decide +kernel
theorem dX1_firstLetter_4 : decode cX1_firstLetter 4 = .ok (.aload_n 0, 1) := by decide +kernel
theorem dX1_firstLetter_5 : decode cX1_firstLetter 5 = .ok (.getfield 9, 3) := by decide +kernel
theorem dX1_firstLetter_8 : decode cX1_firstLetter 8 = .ok (.iload_n 1, 1) := by decide +kernel
theorem dX1_firstLetter_9 : decode cX1_firstLetter 9 = .ok (.iconst 1, 1) := by decide +kernel
theorem dX1_firstLetter_10 : decode cX1_firstLetter 10 = .ok (.isub, 1) := by decide +kernel
theorem dX1_firstLetter_11 : decode cX1_firstLetter 11 = .ok (.iaload, 1) := by decide +kernel
theorem dX1_firstLetter_12 : decode cX1_firstLetter 12 = .ok (.goto 4, 3) := by decide +kernel
theorem dX1_firstLetter_15 : decode cX1_firstLetter 15 = .ok (.iconst 0, 1) := by decide +kernel
theorem dX1_firstLetter_16 : decode cX1_firstLetter 16 = .ok (.istore_n 3, 1) := by decide +kernel
theorem dX1_firstLetter_17 : decode cX1_firstLetter 17 = .ok (.iload_n 3, 1) := by decide +kernel
theorem dX1_firstLetter_18 : decode cX1_firstLetter 18 = .ok (.ifCond .le 9, 3) := by decide +kernel
theorem dX1_firstLetter_21 : decode cX1_firstLetter 21 = .ok (.iload_n 2, 1) := by decide +kernel
theorem dX1_firstLetter_22 : decode cX1_firstLetter 22 = .ok (.iload_n 3, 1) := by decide +kernel
theorem dX1_firstLetter_23 : decode cX1_firstLetter 23 = .ok (.idiv, 1) := by decide +kernel
theorem dX1_firstLetter_24 : decode cX1_firstLetter 24 = .ok (.goto 4, 3) := by decide +kernel
theorem dX1_firstLetter_27 : decode cX1_firstLetter 27 = .ok (.iconst 0, 1) := by decide +kernel
theorem dX1_firstLetter_28 : decode cX1_firstLetter 28 = .ok (.ireturn, 1) := by decide +kernel
theorem dX1_formAt_0 : decode cX1_formAt 0 = .ok (.aload_n 0, 1) := by decide +kernel
theorem dX1_formAt_1 : decode cX1_formAt 1 = .ok (.getfield 18, 3) := by decide +kernel
theorem dX1_formAt_4 : decode cX1_formAt 4 = .ok (.iload_n 1, 1) := by decide +kernel
theorem dX1_formAt_5 : decode cX1_formAt 5 = .ok (.iaload, 1) := by decide +kernel
theorem dX1_formAt_6 : decode cX1_formAt 6 = .ok (.iload_n 2, 1) := by decide +kernel
theorem dX1_formAt_7 : decode cX1_formAt 7 = .ok (.iload_n 2, 1) := by decide +kernel
theorem dX1_formAt_8 : decode cX1_formAt 8 = .ok (.iconst 1, 1) := by decide +kernel
theorem dX1_formAt_9 : decode cX1_formAt 9 = .ok (.iadd, 1) := by decide +kernel
theorem dX1_formAt_10 : decode cX1_formAt 10 = .ok (.imul, 1) := by decide +kernel
theorem dX1_formAt_11 : decode cX1_formAt 11 = .ok (.iconst 2, 1) := by decide +kernel
theorem dX1_formAt_12 : decode cX1_formAt 12 = .ok (.idiv, 1) := by decide +kernel
theorem dX1_formAt_13 : decode cX1_formAt 13 = .ok (.iadd, 1) := by decide +kernel
theorem dX1_formAt_14 : decode cX1_formAt 14 = .ok (.ireturn, 1) := by decide +kernel
theorem dX1_hasLength_0 : decode cX1_hasLength 0 = .ok (.iload_n 1, 1) := by decide +kernel
theorem dX1_hasLength_1 : decode cX1_hasLength 1 = .ok (.ifCond .lt 15, 3) := by decide +kernel
theorem dX1_hasLength_4 : decode cX1_hasLength 4 = .ok (.iload_n 1, 1) := by decide +kernel
theorem dX1_hasLength_5 : decode cX1_hasLength 5 = .ok (.aload_n 0, 1) := by decide +kernel
theorem dX1_hasLength_6 : decode cX1_hasLength 6 = .ok (.getfield 35, 3) := by decide +kernel
theorem dX1_hasLength_9 : decode cX1_hasLength 9 = .ok (.if_icmp .gt 7, 3) := by decide +kernel
theorem dX1_hasLength_12 : decode cX1_hasLength 12 = .ok (.iconst 1, 1) := by decide +kernel
theorem dX1_hasLength_13 : decode cX1_hasLength 13 = .ok (.goto 4, 3) := by decide +kernel
theorem dX1_hasLength_16 : decode cX1_hasLength 16 = .ok (.iconst 0, 1) := by decide +kernel
theorem dX1_hasLength_17 : decode cX1_hasLength 17 = .ok (.ireturn, 1) := by decide +kernel
theorem dX1_hasWord_0 : decode cX1_hasWord 0 = .ok (.aload_n 0, 1) := by decide +kernel
theorem dX1_hasWord_1 : decode cX1_hasWord 1 = .ok (.iload_n 1, 1) := by decide +kernel
theorem dX1_hasWord_2 : decode cX1_hasWord 2 = .ok (.invokevirtual 38, 3) := by decide +kernel
theorem dX1_hasWord_5 : decode cX1_hasWord 5 = .ok (.ifCond .eq 21, 3) := by decide +kernel
theorem dX1_hasWord_8 : decode cX1_hasWord 8 = .ok (.iload_n 2, 1) := by decide +kernel
theorem dX1_hasWord_9 : decode cX1_hasWord 9 = .ok (.ifCond .lt 17, 3) := by decide +kernel
theorem dX1_hasWord_12 : decode cX1_hasWord 12 = .ok (.iload_n 2, 1) := by decide +kernel
theorem dX1_hasWord_13 : decode cX1_hasWord 13 = .ok (.aload_n 0, 1) := by decide +kernel
theorem dX1_hasWord_14 : decode cX1_hasWord 14 = .ok (.getfield 9, 3) := by decide +kernel
theorem dX1_hasWord_17 : decode cX1_hasWord 17 = .ok (.iload_n 1, 1) := by decide +kernel
theorem dX1_hasWord_18 : decode cX1_hasWord 18 = .ok (.iaload, 1) := by decide +kernel
theorem dX1_hasWord_19 : decode cX1_hasWord 19 = .ok (.if_icmp .ge 7, 3) := by decide +kernel
theorem dX1_hasWord_22 : decode cX1_hasWord 22 = .ok (.iconst 1, 1) := by decide +kernel
theorem dX1_hasWord_23 : decode cX1_hasWord 23 = .ok (.goto 4, 3) := by decide +kernel
theorem dX1_hasWord_26 : decode cX1_hasWord 26 = .ok (.iconst 0, 1) := by decide +kernel
theorem dX1_hasWord_27 : decode cX1_hasWord 27 = .ok (.ireturn, 1) := by decide +kernel
theorem dX1_init_0 : decode cX1_init 0 = .ok (.aload_n 0, 1) := by decide +kernel
theorem dX1_init_1 : decode cX1_init 1 = .ok (.invokespecial 3, 3) := by decide +kernel
theorem dX1_init_4 : decode cX1_init 4 = .ok (.aload_n 0, 1) := by decide +kernel
theorem dX1_init_5 : decode cX1_init 5 = .ok (.bipush 9, 2) := by decide +kernel
theorem dX1_init_7 : decode cX1_init 7 = .ok (.newarray .int, 2) := by decide +kernel
theorem dX1_init_9 : decode cX1_init 9 = .ok (.putfield 9, 3) := by decide +kernel
theorem dX1_init_12 : decode cX1_init 12 = .ok (.aload_n 0, 1) := by decide +kernel
theorem dX1_init_13 : decode cX1_init 13 = .ok (.bipush 9, 2) := by decide +kernel
theorem dX1_init_15 : decode cX1_init 15 = .ok (.newarray .int, 2) := by decide +kernel
theorem dX1_init_17 : decode cX1_init 17 = .ok (.putfield 15, 3) := by decide +kernel
theorem dX1_init_20 : decode cX1_init 20 = .ok (.aload_n 0, 1) := by decide +kernel
theorem dX1_init_21 : decode cX1_init 21 = .ok (.bipush 9, 2) := by decide +kernel
theorem dX1_init_23 : decode cX1_init 23 = .ok (.newarray .int, 2) := by decide +kernel
theorem dX1_init_25 : decode cX1_init 25 = .ok (.putfield 18, 3) := by decide +kernel
theorem dX1_init_28 : decode cX1_init 28 = .ok (.aload_n 0, 1) := by decide +kernel
theorem dX1_init_29 : decode cX1_init 29 = .ok (.iconst 2, 1) := by decide +kernel
theorem dX1_init_30 : decode cX1_init 30 = .ok (.bipush 7, 2) := by decide +kernel
theorem dX1_init_32 : decode cX1_init 32 = .ok (.invokevirtual 21, 3) := by decide +kernel
theorem dX1_init_35 : decode cX1_init 35 = .ok (.return_, 1) := by decide +kernel
theorem dX1_inverse_0 : decode cX1_inverse 0 = .ok (.iconst 1, 1) := by decide +kernel
theorem dX1_inverse_1 : decode cX1_inverse 1 = .ok (.istore_n 2, 1) := by decide +kernel
theorem dX1_inverse_2 : decode cX1_inverse 2 = .ok (.iload_n 2, 1) := by decide +kernel
theorem dX1_inverse_3 : decode cX1_inverse 3 = .ok (.aload_n 0, 1) := by decide +kernel
theorem dX1_inverse_4 : decode cX1_inverse 4 = .ok (.getfield 29, 3) := by decide +kernel
theorem dX1_inverse_7 : decode cX1_inverse 7 = .ok (.if_icmp .ge 24, 3) := by decide +kernel
theorem dX1_inverse_10 : decode cX1_inverse 10 = .ok (.aload_n 0, 1) := by decide +kernel
theorem dX1_inverse_11 : decode cX1_inverse 11 = .ok (.iload_n 1, 1) := by decide +kernel
theorem dX1_inverse_12 : decode cX1_inverse 12 = .ok (.i2l, 1) := by decide +kernel
theorem dX1_inverse_13 : decode cX1_inverse 13 = .ok (.iload_n 2, 1) := by decide +kernel
theorem dX1_inverse_14 : decode cX1_inverse 14 = .ok (.i2l, 1) := by decide +kernel
theorem dX1_inverse_15 : decode cX1_inverse 15 = .ok (.lmul, 1) := by decide +kernel
theorem dX1_inverse_16 : decode cX1_inverse 16 = .ok (.invokevirtual 50, 3) := by decide +kernel
theorem dX1_inverse_19 : decode cX1_inverse 19 = .ok (.iconst 1, 1) := by decide +kernel
theorem dX1_inverse_20 : decode cX1_inverse 20 = .ok (.if_icmp .ne 5, 3) := by decide +kernel
theorem dX1_inverse_23 : decode cX1_inverse 23 = .ok (.iload_n 2, 1) := by decide +kernel
theorem dX1_inverse_24 : decode cX1_inverse 24 = .ok (.ireturn, 1) := by decide +kernel
theorem dX1_inverse_25 : decode cX1_inverse 25 = .ok (.iinc 2 1, 3) := by decide +kernel
theorem dX1_inverse_28 : decode cX1_inverse 28 = .ok (.goto (-26), 3) := by decide +kernel
theorem dX1_inverse_31 : decode cX1_inverse 31 = .ok (.iconst 0, 1) := by decide +kernel
theorem dX1_inverse_32 : decode cX1_inverse 32 = .ok (.ireturn, 1) := by decide +kernel
theorem dX1_join_0 : decode cX1_join 0 = .ok (.iload_n 1, 1) := by decide +kernel
theorem dX1_join_1 : decode cX1_join 1 = .ok (.aload_n 0, 1) := by decide +kernel
theorem dX1_join_2 : decode cX1_join 2 = .ok (.getfield 9, 3) := by decide +kernel
theorem dX1_join_5 : decode cX1_join 5 = .ok (.iload_n 2, 1) := by decide +kernel
theorem dX1_join_6 : decode cX1_join 6 = .ok (.iaload, 1) := by decide +kernel
theorem dX1_join_7 : decode cX1_join 7 = .ok (.imul, 1) := by decide +kernel
theorem dX1_join_8 : decode cX1_join 8 = .ok (.iload_n 3, 1) := by decide +kernel
theorem dX1_join_9 : decode cX1_join 9 = .ok (.iadd, 1) := by decide +kernel
theorem dX1_join_10 : decode cX1_join 10 = .ok (.ireturn, 1) := by decide +kernel
theorem dX1_lastLetter_0 : decode cX1_lastLetter 0 = .ok (.iload_n 1, 1) := by decide +kernel
theorem dX1_lastLetter_1 : decode cX1_lastLetter 1 = .ok (.aload_n 0, 1) := by decide +kernel
theorem dX1_lastLetter_2 : decode cX1_lastLetter 2 = .ok (.iload_n 1, 1) := by decide +kernel
theorem dX1_lastLetter_3 : decode cX1_lastLetter 3 = .ok (.invokevirtual 46, 3) := by decide +kernel
theorem dX1_lastLetter_6 : decode cX1_lastLetter 6 = .ok (.aload_n 0, 1) := by decide +kernel
theorem dX1_lastLetter_7 : decode cX1_lastLetter 7 = .ok (.getfield 25, 3) := by decide +kernel
theorem dX1_lastLetter_10 : decode cX1_lastLetter 10 = .ok (.imul, 1) := by decide +kernel
theorem dX1_lastLetter_11 : decode cX1_lastLetter 11 = .ok (.isub, 1) := by decide +kernel
theorem dX1_lastLetter_12 : decode cX1_lastLetter 12 = .ok (.ireturn, 1) := by decide +kernel
theorem dX1_letters_0 : decode cX1_letters 0 = .ok (.aload_n 0, 1) := by decide +kernel
theorem dX1_letters_1 : decode cX1_letters 1 = .ok (.getfield 25, 3) := by decide +kernel
theorem dX1_letters_4 : decode cX1_letters 4 = .ok (.ireturn, 1) := by decide +kernel
theorem dX1_longest_0 : decode cX1_longest 0 = .ok (.aload_n 0, 1) := by decide +kernel
theorem dX1_longest_1 : decode cX1_longest 1 = .ok (.getfield 35, 3) := by decide +kernel
theorem dX1_longest_4 : decode cX1_longest 4 = .ok (.ireturn, 1) := by decide +kernel
theorem dX1_placeOf_0 : decode cX1_placeOf 0 = .ok (.aload_n 0, 1) := by decide +kernel
theorem dX1_placeOf_1 : decode cX1_placeOf 1 = .ok (.getfield 15, 3) := by decide +kernel
theorem dX1_placeOf_4 : decode cX1_placeOf 4 = .ok (.iload_n 1, 1) := by decide +kernel
theorem dX1_placeOf_5 : decode cX1_placeOf 5 = .ok (.iaload, 1) := by decide +kernel
theorem dX1_placeOf_6 : decode cX1_placeOf 6 = .ok (.iload_n 2, 1) := by decide +kernel
theorem dX1_placeOf_7 : decode cX1_placeOf 7 = .ok (.iadd, 1) := by decide +kernel
theorem dX1_placeOf_8 : decode cX1_placeOf 8 = .ok (.ireturn, 1) := by decide +kernel
theorem dX1_prime_0 : decode cX1_prime 0 = .ok (.aload_n 0, 1) := by decide +kernel
theorem dX1_prime_1 : decode cX1_prime 1 = .ok (.getfield 29, 3) := by decide +kernel
theorem dX1_prime_4 : decode cX1_prime 4 = .ok (.ireturn, 1) := by decide +kernel
theorem dX1_rest_0 : decode cX1_rest 0 = .ok (.aload_n 0, 1) := by decide +kernel
theorem dX1_rest_1 : decode cX1_rest 1 = .ok (.getfield 29, 3) := by decide +kernel
theorem dX1_rest_4 : decode cX1_rest 4 = .ok (.iconst 2, 1) := by decide +kernel
theorem dX1_rest_5 : decode cX1_rest 5 = .ok (.if_icmp .ge 5, 3) := by decide +kernel
theorem dX1_rest_8 : decode cX1_rest 8 = .ok (.iconst 0, 1) := by decide +kernel
theorem dX1_rest_9 : decode cX1_rest 9 = .ok (.ireturn, 1) := by decide +kernel
theorem dX1_rest_10 : decode cX1_rest 10 = .ok (.lload_n 1, 1) := by decide +kernel
theorem dX1_rest_11 : decode cX1_rest 11 = .ok (.aload_n 0, 1) := by decide +kernel
theorem dX1_rest_12 : decode cX1_rest 12 = .ok (.getfield 29, 3) := by decide +kernel
theorem dX1_rest_15 : decode cX1_rest 15 = .ok (.i2l, 1) := by decide +kernel
theorem dX1_rest_16 : decode cX1_rest 16 = .ok (.lrem, 1) := by decide +kernel
theorem dX1_rest_17 : decode cX1_rest 17 = .ok (.l2i, 1) := by decide +kernel
theorem dX1_rest_18 : decode cX1_rest 18 = .ok (.istore_n 3, 1) := by decide +kernel
theorem dX1_rest_19 : decode cX1_rest 19 = .ok (.iload_n 3, 1) := by decide +kernel
theorem dX1_rest_20 : decode cX1_rest 20 = .ok (.ifCond .ge 12, 3) := by decide +kernel
theorem dX1_rest_23 : decode cX1_rest 23 = .ok (.iload_n 3, 1) := by decide +kernel
theorem dX1_rest_24 : decode cX1_rest 24 = .ok (.aload_n 0, 1) := by decide +kernel
theorem dX1_rest_25 : decode cX1_rest 25 = .ok (.getfield 29, 3) := by decide +kernel
theorem dX1_rest_28 : decode cX1_rest 28 = .ok (.iadd, 1) := by decide +kernel
theorem dX1_rest_29 : decode cX1_rest 29 = .ok (.goto 4, 3) := by decide +kernel
theorem dX1_rest_32 : decode cX1_rest 32 = .ok (.iload_n 3, 1) := by decide +kernel
theorem dX1_rest_33 : decode cX1_rest 33 = .ok (.ireturn, 1) := by decide +kernel
theorem dX1_withoutFirst_0 : decode cX1_withoutFirst 0 = .ok (.iload_n 1, 1) := by decide +kernel
theorem dX1_withoutFirst_1 : decode cX1_withoutFirst 1 = .ok (.ifCond .le 23, 3) := by decide +kernel
theorem dX1_withoutFirst_4 : decode cX1_withoutFirst 4 = .ok (.iload_n 2, 1) := by decide +kernel
theorem dX1_withoutFirst_5 : decode cX1_withoutFirst 5 = .ok (.aload_n 0, 1) := by decide +kernel
theorem dX1_withoutFirst_6 : decode cX1_withoutFirst 6 = .ok (.iload_n 1, 1) := by decide +kernel
theorem dX1_withoutFirst_7 : decode cX1_withoutFirst 7 = .ok (.iload_n 2, 1) := by decide +kernel
theorem dX1_withoutFirst_8 : decode cX1_withoutFirst 8 = .ok (.invokevirtual 42, 3) := by decide +kernel
theorem dX1_withoutFirst_11 : decode cX1_withoutFirst 11 = .ok (.aload_n 0, 1) := by decide +kernel
theorem dX1_withoutFirst_12 : decode cX1_withoutFirst 12 = .ok (.getfield 9, 3) := by decide +kernel
theorem dX1_withoutFirst_15 : decode cX1_withoutFirst 15 = .ok (.iload_n 1, 1) := by decide +kernel
theorem dX1_withoutFirst_16 : decode cX1_withoutFirst 16 = .ok (.iconst 1, 1) := by decide +kernel
theorem dX1_withoutFirst_17 : decode cX1_withoutFirst 17 = .ok (.isub, 1) := by decide +kernel
theorem dX1_withoutFirst_18 : decode cX1_withoutFirst 18 = .ok (.iaload, 1) := by decide +kernel
theorem dX1_withoutFirst_19 : decode cX1_withoutFirst 19 = .ok (.imul, 1) := by decide +kernel
theorem dX1_withoutFirst_20 : decode cX1_withoutFirst 20 = .ok (.isub, 1) := by decide +kernel
theorem dX1_withoutFirst_21 : decode cX1_withoutFirst 21 = .ok (.goto 4, 3) := by decide +kernel
theorem dX1_withoutFirst_24 : decode cX1_withoutFirst 24 = .ok (.iconst 0, 1) := by decide +kernel
theorem dX1_withoutFirst_25 : decode cX1_withoutFirst 25 = .ok (.ireturn, 1) := by decide +kernel
theorem dX1_withoutLast_0 : decode cX1_withoutLast 0 = .ok (.aload_n 0, 1) := by decide +kernel
theorem dX1_withoutLast_1 : decode cX1_withoutLast 1 = .ok (.getfield 25, 3) := by decide +kernel
theorem dX1_withoutLast_4 : decode cX1_withoutLast 4 = .ok (.ifCond .le 12, 3) := by decide +kernel
theorem dX1_withoutLast_7 : decode cX1_withoutLast 7 = .ok (.iload_n 1, 1) := by decide +kernel
theorem dX1_withoutLast_8 : decode cX1_withoutLast 8 = .ok (.aload_n 0, 1) := by decide +kernel
theorem dX1_withoutLast_9 : decode cX1_withoutLast 9 = .ok (.getfield 25, 3) := by decide +kernel
theorem dX1_withoutLast_12 : decode cX1_withoutLast 12 = .ok (.idiv, 1) := by decide +kernel
theorem dX1_withoutLast_13 : decode cX1_withoutLast 13 = .ok (.goto 4, 3) := by decide +kernel
theorem dX1_withoutLast_16 : decode cX1_withoutLast 16 = .ok (.iconst 0, 1) := by decide +kernel
theorem dX1_withoutLast_17 : decode cX1_withoutLast 17 = .ok (.ireturn, 1) := by decide +kernel
theorem dX1_words_0 : decode cX1_words 0 = .ok (.aload_n 0, 1) := by decide +kernel
theorem dX1_words_1 : decode cX1_words 1 = .ok (.getfield 9, 3) := by decide +kernel
theorem dX1_words_4 : decode cX1_words 4 = .ok (.iload_n 1, 1) := by decide +kernel
theorem dX1_words_5 : decode cX1_words 5 = .ok (.iaload, 1) := by decide +kernel
theorem dX1_words_6 : decode cX1_words 6 = .ok (.ireturn, 1) := by decide +kernel
theorem dX2_init_0 : decode cX2_init 0 = .ok (.aload_n 0, 1) := by decide +kernel
theorem dX2_init_1 : decode cX2_init 1 = .ok (.invokespecial 3, 3) := by decide +kernel
theorem dX2_init_4 : decode cX2_init 4 = .ok (.aload_n 0, 1) := by decide +kernel
theorem dX2_init_5 : decode cX2_init 5 = .ok (.sipush 6561, 3) := by decide +kernel
theorem dX2_init_8 : decode cX2_init 8 = .ok (.newarray .int, 2) := by decide +kernel
theorem dX2_init_10 : decode cX2_init 10 = .ok (.putfield 9, 3) := by decide +kernel
theorem dX2_init_13 : decode cX2_init 13 = .ok (.aload_n 0, 1) := by decide +kernel
theorem dX2_init_14 : decode cX2_init 14 = .ok (.bipush 81, 2) := by decide +kernel
theorem dX2_init_16 : decode cX2_init 16 = .ok (.newarray .boolean, 2) := by decide +kernel
theorem dX2_init_18 : decode cX2_init 18 = .ok (.putfield 15, 3) := by decide +kernel
theorem dX2_init_21 : decode cX2_init 21 = .ok (.aload_n 0, 1) := by decide +kernel
theorem dX2_init_22 : decode cX2_init 22 = .ok (.bipush 81, 2) := by decide +kernel
theorem dX2_init_24 : decode cX2_init 24 = .ok (.newarray .int, 2) := by decide +kernel
theorem dX2_init_26 : decode cX2_init 26 = .ok (.putfield 19, 3) := by decide +kernel
theorem dX2_init_29 : decode cX2_init 29 = .ok (.aload_n 0, 1) := by decide +kernel
theorem dX2_init_30 : decode cX2_init 30 = .ok (.aload_n 1, 1) := by decide +kernel
theorem dX2_init_31 : decode cX2_init 31 = .ok (.putfield 22, 3) := by decide +kernel
theorem dX2_init_34 : decode cX2_init 34 = .ok (.return_, 1) := by decide +kernel
theorem dX2_keep_0 : decode cX2_keep 0 = .ok (.aload_n 0, 1) := by decide +kernel
theorem dX2_keep_1 : decode cX2_keep 1 = .ok (.getfield 22, 3) := by decide +kernel
theorem dX2_keep_4 : decode cX2_keep 4 = .ok (.aload_n 0, 1) := by decide +kernel
theorem dX2_keep_5 : decode cX2_keep 5 = .ok (.getfield 19, 3) := by decide +kernel
theorem dX2_keep_8 : decode cX2_keep 8 = .ok (.iload_n 1, 1) := by decide +kernel
theorem dX2_keep_9 : decode cX2_keep 9 = .ok (.iaload, 1) := by decide +kernel
theorem dX2_keep_10 : decode cX2_keep 10 = .ok (.invokevirtual 55, 3) := by decide +kernel
theorem dX2_keep_13 : decode cX2_keep 13 = .ok (.istore_n 2, 1) := by decide +kernel
theorem dX2_keep_14 : decode cX2_keep 14 = .ok (.iload_n 1, 1) := by decide +kernel
theorem dX2_keep_15 : decode cX2_keep 15 = .ok (.istore_n 3, 1) := by decide +kernel
theorem dX2_keep_16 : decode cX2_keep 16 = .ok (.iload_n 3, 1) := by decide +kernel
theorem dX2_keep_17 : decode cX2_keep 17 = .ok (.aload_n 0, 1) := by decide +kernel
theorem dX2_keep_18 : decode cX2_keep 18 = .ok (.getfield 35, 3) := by decide +kernel
theorem dX2_keep_21 : decode cX2_keep 21 = .ok (.if_icmp .ge 37, 3) := by decide +kernel
theorem dX2_keep_24 : decode cX2_keep 24 = .ok (.aload_n 0, 1) := by decide +kernel
theorem dX2_keep_25 : decode cX2_keep 25 = .ok (.getfield 9, 3) := by decide +kernel
theorem dX2_keep_28 : decode cX2_keep 28 = .ok (.iload_n 1, 1) := by decide +kernel
theorem dX2_keep_29 : decode cX2_keep 29 = .ok (.bipush 81, 2) := by decide +kernel
theorem dX2_keep_31 : decode cX2_keep 31 = .ok (.imul, 1) := by decide +kernel
theorem dX2_keep_32 : decode cX2_keep 32 = .ok (.iload_n 3, 1) := by decide +kernel
theorem dX2_keep_33 : decode cX2_keep 33 = .ok (.iadd, 1) := by decide +kernel
theorem dX2_keep_34 : decode cX2_keep 34 = .ok (.aload_n 0, 1) := by decide +kernel
theorem dX2_keep_35 : decode cX2_keep 35 = .ok (.getfield 22, 3) := by decide +kernel
theorem dX2_keep_38 : decode cX2_keep 38 = .ok (.aload_n 0, 1) := by decide +kernel
theorem dX2_keep_39 : decode cX2_keep 39 = .ok (.getfield 19, 3) := by decide +kernel
theorem dX2_keep_42 : decode cX2_keep 42 = .ok (.iload_n 3, 1) := by decide +kernel
theorem dX2_keep_43 : decode cX2_keep 43 = .ok (.iaload, 1) := by decide +kernel
theorem dX2_keep_44 : decode cX2_keep 44 = .ok (.i2l, 1) := by decide +kernel
theorem dX2_keep_45 : decode cX2_keep 45 = .ok (.iload_n 2, 1) := by decide +kernel
theorem dX2_keep_46 : decode cX2_keep 46 = .ok (.i2l, 1) := by decide +kernel
theorem dX2_keep_47 : decode cX2_keep 47 = .ok (.lmul, 1) := by decide +kernel
theorem dX2_keep_48 : decode cX2_keep 48 = .ok (.invokevirtual 42, 3) := by decide +kernel
theorem dX2_keep_51 : decode cX2_keep 51 = .ok (.iastore, 1) := by decide +kernel
theorem dX2_keep_52 : decode cX2_keep 52 = .ok (.iinc 3 1, 3) := by decide +kernel
theorem dX2_keep_55 : decode cX2_keep 55 = .ok (.goto (-39), 3) := by decide +kernel
theorem dX2_keep_58 : decode cX2_keep 58 = .ok (.aload_n 0, 1) := by decide +kernel
theorem dX2_keep_59 : decode cX2_keep 59 = .ok (.getfield 15, 3) := by decide +kernel
theorem dX2_keep_62 : decode cX2_keep 62 = .ok (.iload_n 1, 1) := by decide +kernel
theorem dX2_keep_63 : decode cX2_keep 63 = .ok (.iconst 1, 1) := by decide +kernel
theorem dX2_keep_64 : decode cX2_keep 64 = .ok (.bastore, 1) := by decide +kernel
theorem dX2_keep_65 : decode cX2_keep 65 = .ok (.aload_n 0, 1) := by decide +kernel
theorem dX2_keep_66 : decode cX2_keep 66 = .ok (.dup, 1) := by decide +kernel
theorem dX2_keep_67 : decode cX2_keep 67 = .ok (.getfield 39, 3) := by decide +kernel
theorem dX2_keep_70 : decode cX2_keep 70 = .ok (.iconst 1, 1) := by decide +kernel
theorem dX2_keep_71 : decode cX2_keep 71 = .ok (.iadd, 1) := by decide +kernel
theorem dX2_keep_72 : decode cX2_keep 72 = .ok (.putfield 39, 3) := by decide +kernel
theorem dX2_keep_75 : decode cX2_keep 75 = .ok (.return_, 1) := by decide +kernel
theorem dX2_open_0 : decode cX2_open 0 = .ok (.aload_n 0, 1) := by decide +kernel
theorem dX2_open_1 : decode cX2_open 1 = .ok (.iconst 0, 1) := by decide +kernel
theorem dX2_open_2 : decode cX2_open 2 = .ok (.iload_n 1, 1) := by decide +kernel
theorem dX2_open_3 : decode cX2_open 3 = .ok (.bipush 81, 2) := by decide +kernel
theorem dX2_open_5 : decode cX2_open 5 = .ok (.invokestatic 26, 3) := by decide +kernel
theorem dX2_open_8 : decode cX2_open 8 = .ok (.invokestatic 32, 3) := by decide +kernel
theorem dX2_open_11 : decode cX2_open 11 = .ok (.putfield 35, 3) := by decide +kernel
theorem dX2_open_14 : decode cX2_open 14 = .ok (.aload_n 0, 1) := by decide +kernel
theorem dX2_open_15 : decode cX2_open 15 = .ok (.iconst 0, 1) := by decide +kernel
theorem dX2_open_16 : decode cX2_open 16 = .ok (.putfield 39, 3) := by decide +kernel
theorem dX2_open_19 : decode cX2_open 19 = .ok (.iconst 0, 1) := by decide +kernel
theorem dX2_open_20 : decode cX2_open 20 = .ok (.istore_n 2, 1) := by decide +kernel
theorem dX2_open_21 : decode cX2_open 21 = .ok (.iload_n 2, 1) := by decide +kernel
theorem dX2_open_22 : decode cX2_open 22 = .ok (.aload_n 0, 1) := by decide +kernel
theorem dX2_open_23 : decode cX2_open 23 = .ok (.getfield 35, 3) := by decide +kernel
theorem dX2_open_26 : decode cX2_open 26 = .ok (.if_icmp .ge 16, 3) := by decide +kernel
theorem dX2_open_29 : decode cX2_open 29 = .ok (.aload_n 0, 1) := by decide +kernel
theorem dX2_open_30 : decode cX2_open 30 = .ok (.getfield 15, 3) := by decide +kernel
theorem dX2_open_33 : decode cX2_open 33 = .ok (.iload_n 2, 1) := by decide +kernel
theorem dX2_open_34 : decode cX2_open 34 = .ok (.iconst 0, 1) := by decide +kernel
theorem dX2_open_35 : decode cX2_open 35 = .ok (.bastore, 1) := by decide +kernel
theorem dX2_open_36 : decode cX2_open 36 = .ok (.iinc 2 1, 3) := by decide +kernel
theorem dX2_open_39 : decode cX2_open 39 = .ok (.goto (-18), 3) := by decide +kernel
theorem dX2_open_42 : decode cX2_open 42 = .ok (.return_, 1) := by decide +kernel
theorem dX2_rank_0 : decode cX2_rank 0 = .ok (.aload_n 0, 1) := by decide +kernel
theorem dX2_rank_1 : decode cX2_rank 1 = .ok (.getfield 39, 3) := by decide +kernel
theorem dX2_rank_4 : decode cX2_rank 4 = .ok (.ireturn, 1) := by decide +kernel
theorem dX2_set_0 : decode cX2_set 0 = .ok (.iload_n 1, 1) := by decide +kernel
theorem dX2_set_1 : decode cX2_set 1 = .ok (.ifCond .lt 26, 3) := by decide +kernel
theorem dX2_set_4 : decode cX2_set 4 = .ok (.iload_n 1, 1) := by decide +kernel
theorem dX2_set_5 : decode cX2_set 5 = .ok (.aload_n 0, 1) := by decide +kernel
theorem dX2_set_6 : decode cX2_set 6 = .ok (.getfield 35, 3) := by decide +kernel
theorem dX2_set_9 : decode cX2_set 9 = .ok (.if_icmp .ge 18, 3) := by decide +kernel
theorem dX2_set_12 : decode cX2_set 12 = .ok (.aload_n 0, 1) := by decide +kernel
theorem dX2_set_13 : decode cX2_set 13 = .ok (.getfield 19, 3) := by decide +kernel
theorem dX2_set_16 : decode cX2_set 16 = .ok (.iload_n 1, 1) := by decide +kernel
theorem dX2_set_17 : decode cX2_set 17 = .ok (.aload_n 0, 1) := by decide +kernel
theorem dX2_set_18 : decode cX2_set 18 = .ok (.getfield 22, 3) := by decide +kernel
theorem dX2_set_21 : decode cX2_set 21 = .ok (.iload_n 2, 1) := by decide +kernel
theorem dX2_set_22 : decode cX2_set 22 = .ok (.i2l, 1) := by decide +kernel
theorem dX2_set_23 : decode cX2_set 23 = .ok (.invokevirtual 42, 3) := by decide +kernel
theorem dX2_set_26 : decode cX2_set 26 = .ok (.iastore, 1) := by decide +kernel
theorem dX2_set_27 : decode cX2_set 27 = .ok (.return_, 1) := by decide +kernel
theorem dX2_subtractRow_0 : decode cX2_subtractRow 0 = .ok (.aload_n 0, 1) := by decide +kernel
theorem dX2_subtractRow_1 : decode cX2_subtractRow 1 = .ok (.getfield 19, 3) := by decide +kernel
theorem dX2_subtractRow_4 : decode cX2_subtractRow 4 = .ok (.iload_n 1, 1) := by decide +kernel
theorem dX2_subtractRow_5 : decode cX2_subtractRow 5 = .ok (.iaload, 1) := by decide +kernel
theorem dX2_subtractRow_6 : decode cX2_subtractRow 6 = .ok (.istore_n 2, 1) := by decide +kernel
theorem dX2_subtractRow_7 : decode cX2_subtractRow 7 = .ok (.iload_n 1, 1) := by decide +kernel
theorem dX2_subtractRow_8 : decode cX2_subtractRow 8 = .ok (.istore_n 3, 1) := by decide +kernel
theorem dX2_subtractRow_9 : decode cX2_subtractRow 9 = .ok (.iload_n 3, 1) := by decide +kernel
theorem dX2_subtractRow_10 : decode cX2_subtractRow 10 = .ok (.aload_n 0, 1) := by decide +kernel
theorem dX2_subtractRow_11 : decode cX2_subtractRow 11 = .ok (.getfield 35, 3) := by decide +kernel
theorem dX2_subtractRow_14 : decode cX2_subtractRow 14 = .ok (.if_icmp .ge 45, 3) := by decide +kernel
theorem dX2_subtractRow_17 : decode cX2_subtractRow 17 = .ok (.aload_n 0, 1) := by decide +kernel
theorem dX2_subtractRow_18 : decode cX2_subtractRow 18 = .ok (.getfield 19, 3) := by decide +kernel
theorem dX2_subtractRow_21 : decode cX2_subtractRow 21 = .ok (.iload_n 3, 1) := by decide +kernel
theorem dX2_subtractRow_22 : decode cX2_subtractRow 22 = .ok (.aload_n 0, 1) := by decide +kernel
theorem dX2_subtractRow_23 : decode cX2_subtractRow 23 = .ok (.getfield 22, 3) := by decide +kernel
theorem dX2_subtractRow_26 : decode cX2_subtractRow 26 = .ok (.aload_n 0, 1) := by decide +kernel
theorem dX2_subtractRow_27 : decode cX2_subtractRow 27 = .ok (.getfield 19, 3) := by decide +kernel
theorem dX2_subtractRow_30 : decode cX2_subtractRow 30 = .ok (.iload_n 3, 1) := by decide +kernel
theorem dX2_subtractRow_31 : decode cX2_subtractRow 31 = .ok (.iaload, 1) := by decide +kernel
theorem dX2_subtractRow_32 : decode cX2_subtractRow 32 = .ok (.i2l, 1) := by decide +kernel
theorem dX2_subtractRow_33 : decode cX2_subtractRow 33 = .ok (.iload_n 2, 1) := by decide +kernel
theorem dX2_subtractRow_34 : decode cX2_subtractRow 34 = .ok (.i2l, 1) := by decide +kernel
theorem dX2_subtractRow_35 : decode cX2_subtractRow 35 = .ok (.aload_n 0, 1) := by decide +kernel
theorem dX2_subtractRow_36 : decode cX2_subtractRow 36 = .ok (.getfield 9, 3) := by decide +kernel
theorem dX2_subtractRow_39 : decode cX2_subtractRow 39 = .ok (.iload_n 1, 1) := by decide +kernel
theorem dX2_subtractRow_40 : decode cX2_subtractRow 40 = .ok (.bipush 81, 2) := by decide +kernel
theorem dX2_subtractRow_42 : decode cX2_subtractRow 42 = .ok (.imul, 1) := by decide +kernel
theorem dX2_subtractRow_43 : decode cX2_subtractRow 43 = .ok (.iload_n 3, 1) := by decide +kernel
theorem dX2_subtractRow_44 : decode cX2_subtractRow 44 = .ok (.iadd, 1) := by decide +kernel
theorem dX2_subtractRow_45 : decode cX2_subtractRow 45 = .ok (.iaload, 1) := by decide +kernel
theorem dX2_subtractRow_46 : decode cX2_subtractRow 46 = .ok (.i2l, 1) := by decide +kernel
theorem dX2_subtractRow_47 : decode cX2_subtractRow 47 = .ok (.lmul, 1) := by decide +kernel
theorem dX2_subtractRow_48 : decode cX2_subtractRow 48 = .ok (.lsub, 1) := by decide +kernel
theorem dX2_subtractRow_49 : decode cX2_subtractRow 49 = .ok (.invokevirtual 42, 3) := by decide +kernel
theorem dX2_subtractRow_52 : decode cX2_subtractRow 52 = .ok (.iastore, 1) := by decide +kernel
theorem dX2_subtractRow_53 : decode cX2_subtractRow 53 = .ok (.iinc 3 1, 3) := by decide +kernel
theorem dX2_subtractRow_56 : decode cX2_subtractRow 56 = .ok (.goto (-47), 3) := by decide +kernel
theorem dX2_subtractRow_59 : decode cX2_subtractRow 59 = .ok (.return_, 1) := by decide +kernel
theorem dX2_take_0 : decode cX2_take 0 = .ok (.iconst 0, 1) := by decide +kernel
theorem dX2_take_1 : decode cX2_take 1 = .ok (.istore_n 1, 1) := by decide +kernel
theorem dX2_take_2 : decode cX2_take 2 = .ok (.iload_n 1, 1) := by decide +kernel
theorem dX2_take_3 : decode cX2_take 3 = .ok (.aload_n 0, 1) := by decide +kernel
theorem dX2_take_4 : decode cX2_take 4 = .ok (.getfield 35, 3) := by decide +kernel
theorem dX2_take_7 : decode cX2_take 7 = .ok (.if_icmp .ge 38, 3) := by decide +kernel
theorem dX2_take_10 : decode cX2_take 10 = .ok (.aload_n 0, 1) := by decide +kernel
theorem dX2_take_11 : decode cX2_take 11 = .ok (.getfield 19, 3) := by decide +kernel
theorem dX2_take_14 : decode cX2_take 14 = .ok (.iload_n 1, 1) := by decide +kernel
theorem dX2_take_15 : decode cX2_take 15 = .ok (.iaload, 1) := by decide +kernel
theorem dX2_take_16 : decode cX2_take 16 = .ok (.ifCond .eq 23, 3) := by decide +kernel
theorem dX2_take_19 : decode cX2_take 19 = .ok (.aload_n 0, 1) := by decide +kernel
theorem dX2_take_20 : decode cX2_take 20 = .ok (.getfield 15, 3) := by decide +kernel
theorem dX2_take_23 : decode cX2_take 23 = .ok (.iload_n 1, 1) := by decide +kernel
theorem dX2_take_24 : decode cX2_take 24 = .ok (.baload, 1) := by decide +kernel
theorem dX2_take_25 : decode cX2_take 25 = .ok (.ifCond .ne 9, 3) := by decide +kernel
theorem dX2_take_28 : decode cX2_take 28 = .ok (.aload_n 0, 1) := by decide +kernel
theorem dX2_take_29 : decode cX2_take 29 = .ok (.iload_n 1, 1) := by decide +kernel
theorem dX2_take_30 : decode cX2_take 30 = .ok (.invokevirtual 48, 3) := by decide +kernel
theorem dX2_take_33 : decode cX2_take 33 = .ok (.return_, 1) := by decide +kernel
theorem dX2_take_34 : decode cX2_take 34 = .ok (.aload_n 0, 1) := by decide +kernel
theorem dX2_take_35 : decode cX2_take 35 = .ok (.iload_n 1, 1) := by decide +kernel
theorem dX2_take_36 : decode cX2_take 36 = .ok (.invokevirtual 52, 3) := by decide +kernel
theorem dX2_take_39 : decode cX2_take 39 = .ok (.iinc 1 1, 3) := by decide +kernel
theorem dX2_take_42 : decode cX2_take 42 = .ok (.goto (-40), 3) := by decide +kernel
theorem dX2_take_45 : decode cX2_take 45 = .ok (.return_, 1) := by decide +kernel
theorem dX3_allHaveLength_0 : decode cX3_allHaveLength 0 = .ok (.iconst 0, 1) := by decide +kernel
theorem dX3_allHaveLength_1 : decode cX3_allHaveLength 1 = .ok (.istore_n 2, 1) := by decide +kernel
theorem dX3_allHaveLength_2 : decode cX3_allHaveLength 2 = .ok (.iload_n 2, 1) := by decide +kernel
theorem dX3_allHaveLength_3 : decode cX3_allHaveLength 3 = .ok (.aload_n 0, 1) := by decide +kernel
theorem dX3_allHaveLength_4 : decode cX3_allHaveLength 4 = .ok (.getfield 18, 3) := by decide +kernel
theorem dX3_allHaveLength_7 : decode cX3_allHaveLength 7 = .ok (.if_icmp .ge 21, 3) := by decide +kernel
theorem dX3_allHaveLength_10 : decode cX3_allHaveLength 10 = .ok (.aload_n 0, 1) := by decide +kernel
theorem dX3_allHaveLength_11 : decode cX3_allHaveLength 11 = .ok (.getfield 9, 3) := by decide +kernel
theorem dX3_allHaveLength_14 : decode cX3_allHaveLength 14 = .ok (.iload_n 2, 1) := by decide +kernel
theorem dX3_allHaveLength_15 : decode cX3_allHaveLength 15 = .ok (.iaload, 1) := by decide +kernel
theorem dX3_allHaveLength_16 : decode cX3_allHaveLength 16 = .ok (.iload_n 1, 1) := by decide +kernel
theorem dX3_allHaveLength_17 : decode cX3_allHaveLength 17 = .ok (.if_icmp .eq 5, 3) := by decide +kernel
theorem dX3_allHaveLength_20 : decode cX3_allHaveLength 20 = .ok (.iconst 0, 1) := by decide +kernel
theorem dX3_allHaveLength_21 : decode cX3_allHaveLength 21 = .ok (.ireturn, 1) := by decide +kernel
theorem dX3_allHaveLength_22 : decode cX3_allHaveLength 22 = .ok (.iinc 2 1, 3) := by decide +kernel
theorem dX3_allHaveLength_25 : decode cX3_allHaveLength 25 = .ok (.goto (-23), 3) := by decide +kernel
theorem dX3_allHaveLength_28 : decode cX3_allHaveLength 28 = .ok (.iconst 1, 1) := by decide +kernel
theorem dX3_allHaveLength_29 : decode cX3_allHaveLength 29 = .ok (.ireturn, 1) := by decide +kernel
theorem dX3_clear_0 : decode cX3_clear 0 = .ok (.aload_n 0, 1) := by decide +kernel
theorem dX3_clear_1 : decode cX3_clear 1 = .ok (.iconst 0, 1) := by decide +kernel
theorem dX3_clear_2 : decode cX3_clear 2 = .ok (.putfield 18, 3) := by decide +kernel
theorem dX3_clear_5 : decode cX3_clear 5 = .ok (.return_, 1) := by decide +kernel
theorem dX3_init_0 : decode cX3_init 0 = .ok (.aload_n 0, 1) := by decide +kernel
theorem dX3_init_1 : decode cX3_init 1 = .ok (.invokespecial 3, 3) := by decide +kernel
theorem dX3_init_4 : decode cX3_init 4 = .ok (.aload_n 0, 1) := by decide +kernel
theorem dX3_init_5 : decode cX3_init 5 = .ok (.bipush 9, 2) := by decide +kernel
theorem dX3_init_7 : decode cX3_init 7 = .ok (.newarray .int, 2) := by decide +kernel
theorem dX3_init_9 : decode cX3_init 9 = .ok (.putfield 9, 3) := by decide +kernel
theorem dX3_init_12 : decode cX3_init 12 = .ok (.aload_n 0, 1) := by decide +kernel
theorem dX3_init_13 : decode cX3_init 13 = .ok (.sipush 729, 3) := by decide +kernel
theorem dX3_init_16 : decode cX3_init 16 = .ok (.newarray .int, 2) := by decide +kernel
theorem dX3_init_18 : decode cX3_init 18 = .ok (.putfield 15, 3) := by decide +kernel
theorem dX3_init_21 : decode cX3_init 21 = .ok (.return_, 1) := by decide +kernel
theorem dX3_lengthOf_0 : decode cX3_lengthOf 0 = .ok (.aload_n 0, 1) := by decide +kernel
theorem dX3_lengthOf_1 : decode cX3_lengthOf 1 = .ok (.getfield 9, 3) := by decide +kernel
theorem dX3_lengthOf_4 : decode cX3_lengthOf 4 = .ok (.iload_n 1, 1) := by decide +kernel
theorem dX3_lengthOf_5 : decode cX3_lengthOf 5 = .ok (.iaload, 1) := by decide +kernel
theorem dX3_lengthOf_6 : decode cX3_lengthOf 6 = .ok (.ireturn, 1) := by decide +kernel
theorem dX3_numberOf_0 : decode cX3_numberOf 0 = .ok (.aload_n 0, 1) := by decide +kernel
theorem dX3_numberOf_1 : decode cX3_numberOf 1 = .ok (.getfield 15, 3) := by decide +kernel
theorem dX3_numberOf_4 : decode cX3_numberOf 4 = .ok (.iload_n 1, 1) := by decide +kernel
theorem dX3_numberOf_5 : decode cX3_numberOf 5 = .ok (.bipush 81, 2) := by decide +kernel
theorem dX3_numberOf_7 : decode cX3_numberOf 7 = .ok (.imul, 1) := by decide +kernel
theorem dX3_numberOf_8 : decode cX3_numberOf 8 = .ok (.iload_n 2, 1) := by decide +kernel
theorem dX3_numberOf_9 : decode cX3_numberOf 9 = .ok (.iadd, 1) := by decide +kernel
theorem dX3_numberOf_10 : decode cX3_numberOf 10 = .ok (.iaload, 1) := by decide +kernel
theorem dX3_numberOf_11 : decode cX3_numberOf 11 = .ok (.ireturn, 1) := by decide +kernel
theorem dX3_open_0 : decode cX3_open 0 = .ok (.aload_n 0, 1) := by decide +kernel
theorem dX3_open_1 : decode cX3_open 1 = .ok (.getfield 18, 3) := by decide +kernel
theorem dX3_open_4 : decode cX3_open 4 = .ok (.bipush 9, 2) := by decide +kernel
theorem dX3_open_6 : decode cX3_open 6 = .ok (.if_icmp .ge 23, 3) := by decide +kernel
theorem dX3_open_9 : decode cX3_open 9 = .ok (.aload_n 0, 1) := by decide +kernel
theorem dX3_open_10 : decode cX3_open 10 = .ok (.getfield 9, 3) := by decide +kernel
theorem dX3_open_13 : decode cX3_open 13 = .ok (.aload_n 0, 1) := by decide +kernel
theorem dX3_open_14 : decode cX3_open 14 = .ok (.getfield 18, 3) := by decide +kernel
theorem dX3_open_17 : decode cX3_open 17 = .ok (.iload_n 1, 1) := by decide +kernel
theorem dX3_open_18 : decode cX3_open 18 = .ok (.iastore, 1) := by decide +kernel
theorem dX3_open_19 : decode cX3_open 19 = .ok (.aload_n 0, 1) := by decide +kernel
theorem dX3_open_20 : decode cX3_open 20 = .ok (.dup, 1) := by decide +kernel
theorem dX3_open_21 : decode cX3_open 21 = .ok (.getfield 18, 3) := by decide +kernel
theorem dX3_open_24 : decode cX3_open 24 = .ok (.iconst 1, 1) := by decide +kernel
theorem dX3_open_25 : decode cX3_open 25 = .ok (.iadd, 1) := by decide +kernel
theorem dX3_open_26 : decode cX3_open 26 = .ok (.putfield 18, 3) := by decide +kernel
theorem dX3_open_29 : decode cX3_open 29 = .ok (.return_, 1) := by decide +kernel
theorem dX3_removeLatest_0 : decode cX3_removeLatest 0 = .ok (.aload_n 0, 1) := by decide +kernel
theorem dX3_removeLatest_1 : decode cX3_removeLatest 1 = .ok (.getfield 18, 3) := by decide +kernel
theorem dX3_removeLatest_4 : decode cX3_removeLatest 4 = .ok (.ifCond .le 13, 3) := by decide +kernel
theorem dX3_removeLatest_7 : decode cX3_removeLatest 7 = .ok (.aload_n 0, 1) := by decide +kernel
theorem dX3_removeLatest_8 : decode cX3_removeLatest 8 = .ok (.dup, 1) := by decide +kernel
theorem dX3_removeLatest_9 : decode cX3_removeLatest 9 = .ok (.getfield 18, 3) := by decide +kernel
theorem dX3_removeLatest_12 : decode cX3_removeLatest 12 = .ok (.iconst 1, 1) := by decide +kernel
theorem dX3_removeLatest_13 : decode cX3_removeLatest 13 = .ok (.isub, 1) := by decide +kernel
theorem dX3_removeLatest_14 : decode cX3_removeLatest 14 = .ok (.putfield 18, 3) := by decide +kernel
theorem dX3_removeLatest_17 : decode cX3_removeLatest 17 = .ok (.return_, 1) := by decide +kernel
theorem dX3_set_0 : decode cX3_set 0 = .ok (.aload_n 0, 1) := by decide +kernel
theorem dX3_set_1 : decode cX3_set 1 = .ok (.getfield 18, 3) := by decide +kernel
theorem dX3_set_4 : decode cX3_set 4 = .ok (.ifCond .le 30, 3) := by decide +kernel
theorem dX3_set_7 : decode cX3_set 7 = .ok (.iload_n 1, 1) := by decide +kernel
theorem dX3_set_8 : decode cX3_set 8 = .ok (.ifCond .lt 26, 3) := by decide +kernel
theorem dX3_set_11 : decode cX3_set 11 = .ok (.iload_n 1, 1) := by decide +kernel
theorem dX3_set_12 : decode cX3_set 12 = .ok (.bipush 81, 2) := by decide +kernel
theorem dX3_set_14 : decode cX3_set 14 = .ok (.if_icmp .ge 20, 3) := by decide +kernel
theorem dX3_set_17 : decode cX3_set 17 = .ok (.aload_n 0, 1) := by decide +kernel
theorem dX3_set_18 : decode cX3_set 18 = .ok (.getfield 15, 3) := by decide +kernel
theorem dX3_set_21 : decode cX3_set 21 = .ok (.aload_n 0, 1) := by decide +kernel
theorem dX3_set_22 : decode cX3_set 22 = .ok (.getfield 18, 3) := by decide +kernel
theorem dX3_set_25 : decode cX3_set 25 = .ok (.iconst 1, 1) := by decide +kernel
theorem dX3_set_26 : decode cX3_set 26 = .ok (.isub, 1) := by decide +kernel
theorem dX3_set_27 : decode cX3_set 27 = .ok (.bipush 81, 2) := by decide +kernel
theorem dX3_set_29 : decode cX3_set 29 = .ok (.imul, 1) := by decide +kernel
theorem dX3_set_30 : decode cX3_set 30 = .ok (.iload_n 1, 1) := by decide +kernel
theorem dX3_set_31 : decode cX3_set 31 = .ok (.iadd, 1) := by decide +kernel
theorem dX3_set_32 : decode cX3_set 32 = .ok (.iload_n 2, 1) := by decide +kernel
theorem dX3_set_33 : decode cX3_set 33 = .ok (.iastore, 1) := by decide +kernel
theorem dX3_set_34 : decode cX3_set 34 = .ok (.return_, 1) := by decide +kernel
theorem dX3_size_0 : decode cX3_size 0 = .ok (.aload_n 0, 1) := by decide +kernel
theorem dX3_size_1 : decode cX3_size 1 = .ok (.getfield 18, 3) := by decide +kernel
theorem dX3_size_4 : decode cX3_size 4 = .ok (.ireturn, 1) := by decide +kernel
theorem dX4_closeTerm_0 : decode cX4_closeTerm 0 = .ok (.aload_n 1, 1) := by decide +kernel
theorem dX4_closeTerm_1 : decode cX4_closeTerm 1 = .ok (.aload_n 0, 1) := by decide +kernel
theorem dX4_closeTerm_2 : decode cX4_closeTerm 2 = .ok (.getfield 56, 3) := by decide +kernel
theorem dX4_closeTerm_5 : decode cX4_closeTerm 5 = .ok (.aload_n 0, 1) := by decide +kernel
theorem dX4_closeTerm_6 : decode cX4_closeTerm 6 = .ok (.getfield 59, 3) := by decide +kernel
theorem dX4_closeTerm_9 : decode cX4_closeTerm 9 = .ok (.aload_n 0, 1) := by decide +kernel
theorem dX4_closeTerm_10 : decode cX4_closeTerm 10 = .ok (.getfield 50, 3) := by decide +kernel
theorem dX4_closeTerm_13 : decode cX4_closeTerm 13 = .ok (.aload_n 0, 1) := by decide +kernel
theorem dX4_closeTerm_14 : decode cX4_closeTerm 14 = .ok (.getfield 53, 3) := by decide +kernel
theorem dX4_closeTerm_17 : decode cX4_closeTerm 17 = .ok (.imul, 1) := by decide +kernel
theorem dX4_closeTerm_18 : decode cX4_closeTerm 18 = .ok (.i2l, 1) := by decide +kernel
theorem dX4_closeTerm_19 : decode cX4_closeTerm 19 = .ok (.invokevirtual 62, 3) := by decide +kernel
theorem dX4_closeTerm_22 : decode cX4_closeTerm 22 = .ok (.return_, 1) := by decide +kernel
theorem dX4_init_0 : decode cX4_init 0 = .ok (.aload_n 0, 1) := by decide +kernel
theorem dX4_init_1 : decode cX4_init 1 = .ok (.invokespecial 3, 3) := by decide +kernel
theorem dX4_init_4 : decode cX4_init 4 = .ok (.aload_n 0, 1) := by decide +kernel
theorem dX4_init_5 : decode cX4_init 5 = .ok (.aload_n 1, 1) := by decide +kernel
theorem dX4_init_6 : decode cX4_init 6 = .ok (.putfield 9, 3) := by decide +kernel
theorem dX4_init_9 : decode cX4_init 9 = .ok (.return_, 1) := by decide +kernel
theorem dX4_needsTerm_0 : decode cX4_needsTerm 0 = .ok (.aload_n 0, 1) := by decide +kernel
theorem dX4_needsTerm_1 : decode cX4_needsTerm 1 = .ok (.getfield 46, 3) := by decide +kernel
theorem dX4_needsTerm_4 : decode cX4_needsTerm 4 = .ok (.ifCond .eq 11, 3) := by decide +kernel
theorem dX4_needsTerm_7 : decode cX4_needsTerm 7 = .ok (.aload_n 0, 1) := by decide +kernel
theorem dX4_needsTerm_8 : decode cX4_needsTerm 8 = .ok (.getfield 46, 3) := by decide +kernel
theorem dX4_needsTerm_11 : decode cX4_needsTerm 11 = .ok (.iconst 1, 1) := by decide +kernel
theorem dX4_needsTerm_12 : decode cX4_needsTerm 12 = .ok (.if_icmp .ne 7, 3) := by decide +kernel
theorem dX4_needsTerm_15 : decode cX4_needsTerm 15 = .ok (.iconst 1, 1) := by decide +kernel
theorem dX4_needsTerm_16 : decode cX4_needsTerm 16 = .ok (.goto 4, 3) := by decide +kernel
theorem dX4_needsTerm_19 : decode cX4_needsTerm 19 = .ok (.iconst 0, 1) := by decide +kernel
theorem dX4_needsTerm_20 : decode cX4_needsTerm 20 = .ok (.ireturn, 1) := by decide +kernel
theorem dX4_openTerm_0 : decode cX4_openTerm 0 = .ok (.aload_n 0, 1) := by decide +kernel
theorem dX4_openTerm_1 : decode cX4_openTerm 1 = .ok (.iload_n 1, 1) := by decide +kernel
theorem dX4_openTerm_2 : decode cX4_openTerm 2 = .ok (.putfield 46, 3) := by decide +kernel
theorem dX4_openTerm_5 : decode cX4_openTerm 5 = .ok (.aload_n 0, 1) := by decide +kernel
theorem dX4_openTerm_6 : decode cX4_openTerm 6 = .ok (.iload_n 2, 1) := by decide +kernel
theorem dX4_openTerm_7 : decode cX4_openTerm 7 = .ok (.putfield 50, 3) := by decide +kernel
theorem dX4_openTerm_10 : decode cX4_openTerm 10 = .ok (.aload_n 0, 1) := by decide +kernel
theorem dX4_openTerm_11 : decode cX4_openTerm 11 = .ok (.iconst 1, 1) := by decide +kernel
theorem dX4_openTerm_12 : decode cX4_openTerm 12 = .ok (.putfield 53, 3) := by decide +kernel
theorem dX4_openTerm_15 : decode cX4_openTerm 15 = .ok (.aload_n 0, 1) := by decide +kernel
theorem dX4_openTerm_16 : decode cX4_openTerm 16 = .ok (.iconst 0, 1) := by decide +kernel
theorem dX4_openTerm_17 : decode cX4_openTerm 17 = .ok (.putfield 56, 3) := by decide +kernel
theorem dX4_openTerm_20 : decode cX4_openTerm 20 = .ok (.aload_n 0, 1) := by decide +kernel
theorem dX4_openTerm_21 : decode cX4_openTerm 21 = .ok (.iconst 0, 1) := by decide +kernel
theorem dX4_openTerm_22 : decode cX4_openTerm 22 = .ok (.putfield 59, 3) := by decide +kernel
theorem dX4_openTerm_25 : decode cX4_openTerm 25 = .ok (.return_, 1) := by decide +kernel
theorem dX4_read_0 : decode cX4_read 0 = .ok (.aload_n 2, 1) := by decide +kernel
theorem dX4_read_1 : decode cX4_read 1 = .ok (.invokevirtual 15, 3) := by decide +kernel
theorem dX4_read_4 : decode cX4_read 4 = .ok (.aload_n 0, 1) := by decide +kernel
theorem dX4_read_5 : decode cX4_read 5 = .ok (.iconst 0, 1) := by decide +kernel
theorem dX4_read_6 : decode cX4_read 6 = .ok (.iconst 1, 1) := by decide +kernel
theorem dX4_read_7 : decode cX4_read 7 = .ok (.invokevirtual 20, 3) := by decide +kernel
theorem dX4_read_10 : decode cX4_read 10 = .ok (.iconst 0, 1) := by decide +kernel
theorem dX4_read_11 : decode cX4_read 11 = .ok (.istore_n 3, 1) := by decide +kernel
theorem dX4_read_12 : decode cX4_read 12 = .ok (.iload_n 3, 1) := by decide +kernel
theorem dX4_read_13 : decode cX4_read 13 = .ok (.aload_n 1, 1) := by decide +kernel
theorem dX4_read_14 : decode cX4_read 14 = .ok (.invokevirtual 24, 3) := by decide +kernel
theorem dX4_read_17 : decode cX4_read 17 = .ok (.if_icmp .ge 34, 3) := by decide +kernel
theorem dX4_read_20 : decode cX4_read 20 = .ok (.aload_n 0, 1) := by decide +kernel
theorem dX4_read_21 : decode cX4_read 21 = .ok (.aload_n 1, 1) := by decide +kernel
theorem dX4_read_22 : decode cX4_read 22 = .ok (.iload_n 3, 1) := by decide +kernel
theorem dX4_read_23 : decode cX4_read 23 = .ok (.invokevirtual 30, 3) := by decide +kernel
theorem dX4_read_26 : decode cX4_read 26 = .ok (.iload_n 3, 1) := by decide +kernel
theorem dX4_read_27 : decode cX4_read 27 = .ok (.aload_n 2, 1) := by decide +kernel
theorem dX4_read_28 : decode cX4_read 28 = .ok (.invokevirtual 34, 3) := by decide +kernel
theorem dX4_read_31 : decode cX4_read 31 = .ok (.istore 4, 2) := by decide +kernel
theorem dX4_read_33 : decode cX4_read 33 = .ok (.iload 4, 2) := by decide +kernel
theorem dX4_read_35 : decode cX4_read 35 = .ok (.iconst (-1), 1) := by decide +kernel
theorem dX4_read_36 : decode cX4_read 36 = .ok (.if_icmp .eq 9, 3) := by decide +kernel
theorem dX4_read_39 : decode cX4_read 39 = .ok (.bipush (-20), 2) := by decide +kernel
theorem dX4_read_41 : decode cX4_read 41 = .ok (.iload 4, 2) := by decide +kernel
theorem dX4_read_43 : decode cX4_read 43 = .ok (.isub, 1) := by decide +kernel
theorem dX4_read_44 : decode cX4_read 44 = .ok (.ireturn, 1) := by decide +kernel
theorem dX4_read_45 : decode cX4_read 45 = .ok (.iinc 3 1, 3) := by decide +kernel
theorem dX4_read_48 : decode cX4_read 48 = .ok (.goto (-36), 3) := by decide +kernel
theorem dX4_read_51 : decode cX4_read 51 = .ok (.aload_n 0, 1) := by decide +kernel
theorem dX4_read_52 : decode cX4_read 52 = .ok (.invokevirtual 38, 3) := by decide +kernel
theorem dX4_read_55 : decode cX4_read 55 = .ok (.ifCond .eq 11, 3) := by decide +kernel
theorem dX4_read_58 : decode cX4_read 58 = .ok (.bipush (-20), 2) := by decide +kernel
theorem dX4_read_60 : decode cX4_read 60 = .ok (.aload_n 1, 1) := by decide +kernel
theorem dX4_read_61 : decode cX4_read 61 = .ok (.invokevirtual 24, 3) := by decide +kernel
theorem dX4_read_64 : decode cX4_read 64 = .ok (.isub, 1) := by decide +kernel
theorem dX4_read_65 : decode cX4_read 65 = .ok (.ireturn, 1) := by decide +kernel
theorem dX4_read_66 : decode cX4_read 66 = .ok (.aload_n 0, 1) := by decide +kernel
theorem dX4_read_67 : decode cX4_read 67 = .ok (.aload_n 2, 1) := by decide +kernel
theorem dX4_read_68 : decode cX4_read 68 = .ok (.invokevirtual 42, 3) := by decide +kernel
theorem dX4_read_71 : decode cX4_read 71 = .ok (.iconst 0, 1) := by decide +kernel
theorem dX4_read_72 : decode cX4_read 72 = .ok (.ireturn, 1) := by decide +kernel
theorem dX4_takeByte_0 : decode cX4_takeByte 0 = .ok (.iload_n 1, 1) := by decide +kernel
theorem dX4_takeByte_1 : decode cX4_takeByte 1 = .ok (.bipush 32, 2) := by decide +kernel
theorem dX4_takeByte_3 : decode cX4_takeByte 3 = .ok (.if_icmp .ne 18, 3) := by decide +kernel
theorem dX4_takeByte_6 : decode cX4_takeByte 6 = .ok (.aload_n 0, 1) := by decide +kernel
theorem dX4_takeByte_7 : decode cX4_takeByte 7 = .ok (.getfield 46, 3) := by decide +kernel
theorem dX4_takeByte_10 : decode cX4_takeByte 10 = .ok (.iconst 2, 1) := by decide +kernel
theorem dX4_takeByte_11 : decode cX4_takeByte 11 = .ok (.if_icmp .ne 8, 3) := by decide +kernel
theorem dX4_takeByte_14 : decode cX4_takeByte 14 = .ok (.aload_n 0, 1) := by decide +kernel
theorem dX4_takeByte_15 : decode cX4_takeByte 15 = .ok (.iconst 3, 1) := by decide +kernel
theorem dX4_takeByte_16 : decode cX4_takeByte 16 = .ok (.putfield 46, 3) := by decide +kernel
theorem dX4_takeByte_19 : decode cX4_takeByte 19 = .ok (.iconst (-1), 1) := by decide +kernel
theorem dX4_takeByte_20 : decode cX4_takeByte 20 = .ok (.ireturn, 1) := by decide +kernel
theorem dX4_takeByte_21 : decode cX4_takeByte 21 = .ok (.iload_n 1, 1) := by decide +kernel
theorem dX4_takeByte_22 : decode cX4_takeByte 22 = .ok (.bipush 48, 2) := by decide +kernel
theorem dX4_takeByte_24 : decode cX4_takeByte 24 = .ok (.if_icmp .lt 19, 3) := by decide +kernel
theorem dX4_takeByte_27 : decode cX4_takeByte 27 = .ok (.iload_n 1, 1) := by decide +kernel
theorem dX4_takeByte_28 : decode cX4_takeByte 28 = .ok (.bipush 57, 2) := by decide +kernel
theorem dX4_takeByte_30 : decode cX4_takeByte 30 = .ok (.if_icmp .gt 13, 3) := by decide +kernel
theorem dX4_takeByte_33 : decode cX4_takeByte 33 = .ok (.aload_n 0, 1) := by decide +kernel
theorem dX4_takeByte_34 : decode cX4_takeByte 34 = .ok (.iload_n 1, 1) := by decide +kernel
theorem dX4_takeByte_35 : decode cX4_takeByte 35 = .ok (.bipush 48, 2) := by decide +kernel
theorem dX4_takeByte_37 : decode cX4_takeByte 37 = .ok (.isub, 1) := by decide +kernel
theorem dX4_takeByte_38 : decode cX4_takeByte 38 = .ok (.iload_n 2, 1) := by decide +kernel
theorem dX4_takeByte_39 : decode cX4_takeByte 39 = .ok (.invokevirtual 66, 3) := by decide +kernel
theorem dX4_takeByte_42 : decode cX4_takeByte 42 = .ok (.ireturn, 1) := by decide +kernel
theorem dX4_takeByte_43 : decode cX4_takeByte 43 = .ok (.iload_n 1, 1) := by decide +kernel
theorem dX4_takeByte_44 : decode cX4_takeByte 44 = .ok (.bipush 43, 2) := by decide +kernel
theorem dX4_takeByte_46 : decode cX4_takeByte 46 = .ok (.if_icmp .eq 9, 3) := by decide +kernel
theorem dX4_takeByte_49 : decode cX4_takeByte 49 = .ok (.iload_n 1, 1) := by decide +kernel
theorem dX4_takeByte_50 : decode cX4_takeByte 50 = .ok (.bipush 45, 2) := by decide +kernel
theorem dX4_takeByte_52 : decode cX4_takeByte 52 = .ok (.if_icmp .ne 21, 3) := by decide +kernel
theorem dX4_takeByte_55 : decode cX4_takeByte 55 = .ok (.aload_n 0, 1) := by decide +kernel
theorem dX4_takeByte_56 : decode cX4_takeByte 56 = .ok (.iload_n 1, 1) := by decide +kernel
theorem dX4_takeByte_57 : decode cX4_takeByte 57 = .ok (.bipush 45, 2) := by decide +kernel
theorem dX4_takeByte_59 : decode cX4_takeByte 59 = .ok (.if_icmp .ne 7, 3) := by decide +kernel
theorem dX4_takeByte_62 : decode cX4_takeByte 62 = .ok (.iconst (-1), 1) := by decide +kernel
theorem dX4_takeByte_63 : decode cX4_takeByte 63 = .ok (.goto 4, 3) := by decide +kernel
theorem dX4_takeByte_66 : decode cX4_takeByte 66 = .ok (.iconst 1, 1) := by decide +kernel
theorem dX4_takeByte_67 : decode cX4_takeByte 67 = .ok (.iload_n 2, 1) := by decide +kernel
theorem dX4_takeByte_68 : decode cX4_takeByte 68 = .ok (.aload_n 3, 1) := by decide +kernel
theorem dX4_takeByte_69 : decode cX4_takeByte 69 = .ok (.invokevirtual 70, 3) := by decide +kernel
theorem dX4_takeByte_72 : decode cX4_takeByte 72 = .ok (.ireturn, 1) := by decide +kernel
theorem dX4_takeByte_73 : decode cX4_takeByte 73 = .ok (.aload_n 0, 1) := by decide +kernel
theorem dX4_takeByte_74 : decode cX4_takeByte 74 = .ok (.iload_n 1, 1) := by decide +kernel
theorem dX4_takeByte_75 : decode cX4_takeByte 75 = .ok (.bipush 97, 2) := by decide +kernel
theorem dX4_takeByte_77 : decode cX4_takeByte 77 = .ok (.isub, 1) := by decide +kernel
theorem dX4_takeByte_78 : decode cX4_takeByte 78 = .ok (.iload_n 2, 1) := by decide +kernel
theorem dX4_takeByte_79 : decode cX4_takeByte 79 = .ok (.invokevirtual 73, 3) := by decide +kernel
theorem dX4_takeByte_82 : decode cX4_takeByte 82 = .ok (.ireturn, 1) := by decide +kernel
theorem dX4_takeDigit_0 : decode cX4_takeDigit 0 = .ok (.aload_n 0, 1) := by decide +kernel
theorem dX4_takeDigit_1 : decode cX4_takeDigit 1 = .ok (.invokevirtual 38, 3) := by decide +kernel
theorem dX4_takeDigit_4 : decode cX4_takeDigit 4 = .ok (.ifCond .eq 20, 3) := by decide +kernel
theorem dX4_takeDigit_7 : decode cX4_takeDigit 7 = .ok (.aload_n 0, 1) := by decide +kernel
theorem dX4_takeDigit_8 : decode cX4_takeDigit 8 = .ok (.iload_n 1, 1) := by decide +kernel
theorem dX4_takeDigit_9 : decode cX4_takeDigit 9 = .ok (.putfield 53, 3) := by decide +kernel
theorem dX4_takeDigit_12 : decode cX4_takeDigit 12 = .ok (.aload_n 0, 1) := by decide +kernel
theorem dX4_takeDigit_13 : decode cX4_takeDigit 13 = .ok (.iload_n 2, 1) := by decide +kernel
theorem dX4_takeDigit_14 : decode cX4_takeDigit 14 = .ok (.putfield 76, 3) := by decide +kernel
theorem dX4_takeDigit_17 : decode cX4_takeDigit 17 = .ok (.aload_n 0, 1) := by decide +kernel
theorem dX4_takeDigit_18 : decode cX4_takeDigit 18 = .ok (.iconst 2, 1) := by decide +kernel
theorem dX4_takeDigit_19 : decode cX4_takeDigit 19 = .ok (.putfield 46, 3) := by decide +kernel
theorem dX4_takeDigit_22 : decode cX4_takeDigit 22 = .ok (.iconst (-1), 1) := by decide +kernel
theorem dX4_takeDigit_23 : decode cX4_takeDigit 23 = .ok (.ireturn, 1) := by decide +kernel
theorem dX4_takeDigit_24 : decode cX4_takeDigit 24 = .ok (.aload_n 0, 1) := by decide +kernel
theorem dX4_takeDigit_25 : decode cX4_takeDigit 25 = .ok (.getfield 46, 3) := by decide +kernel
theorem dX4_takeDigit_28 : decode cX4_takeDigit 28 = .ok (.iconst 2, 1) := by decide +kernel
theorem dX4_takeDigit_29 : decode cX4_takeDigit 29 = .ok (.if_icmp .eq 5, 3) := by decide +kernel
theorem dX4_takeDigit_32 : decode cX4_takeDigit 32 = .ok (.iload_n 2, 1) := by decide +kernel
theorem dX4_takeDigit_33 : decode cX4_takeDigit 33 = .ok (.ireturn, 1) := by decide +kernel
theorem dX4_takeDigit_34 : decode cX4_takeDigit 34 = .ok (.aload_n 0, 1) := by decide +kernel
theorem dX4_takeDigit_35 : decode cX4_takeDigit 35 = .ok (.aload_n 0, 1) := by decide +kernel
theorem dX4_takeDigit_36 : decode cX4_takeDigit 36 = .ok (.getfield 53, 3) := by decide +kernel
theorem dX4_takeDigit_39 : decode cX4_takeDigit 39 = .ok (.bipush 10, 2) := by decide +kernel
theorem dX4_takeDigit_41 : decode cX4_takeDigit 41 = .ok (.imul, 1) := by decide +kernel
theorem dX4_takeDigit_42 : decode cX4_takeDigit 42 = .ok (.iload_n 1, 1) := by decide +kernel
theorem dX4_takeDigit_43 : decode cX4_takeDigit 43 = .ok (.iadd, 1) := by decide +kernel
theorem dX4_takeDigit_44 : decode cX4_takeDigit 44 = .ok (.putfield 53, 3) := by decide +kernel
theorem dX4_takeDigit_47 : decode cX4_takeDigit 47 = .ok (.aload_n 0, 1) := by decide +kernel
theorem dX4_takeDigit_48 : decode cX4_takeDigit 48 = .ok (.getfield 53, 3) := by decide +kernel
theorem dX4_takeDigit_51 : decode cX4_takeDigit 51 = .ok (.sipush 999, 3) := by decide +kernel
theorem dX4_takeDigit_54 : decode cX4_takeDigit 54 = .ok (.if_icmp .le 10, 3) := by decide +kernel
theorem dX4_takeDigit_57 : decode cX4_takeDigit 57 = .ok (.aload_n 0, 1) := by decide +kernel
theorem dX4_takeDigit_58 : decode cX4_takeDigit 58 = .ok (.getfield 76, 3) := by decide +kernel
theorem dX4_takeDigit_61 : decode cX4_takeDigit 61 = .ok (.goto 4, 3) := by decide +kernel
theorem dX4_takeDigit_64 : decode cX4_takeDigit 64 = .ok (.iconst (-1), 1) := by decide +kernel
theorem dX4_takeDigit_65 : decode cX4_takeDigit 65 = .ok (.ireturn, 1) := by decide +kernel
theorem dX4_takeLetter_0 : decode cX4_takeLetter 0 = .ok (.iload_n 1, 1) := by decide +kernel
theorem dX4_takeLetter_1 : decode cX4_takeLetter 1 = .ok (.ifCond .lt 28, 3) := by decide +kernel
theorem dX4_takeLetter_4 : decode cX4_takeLetter 4 = .ok (.iload_n 1, 1) := by decide +kernel
theorem dX4_takeLetter_5 : decode cX4_takeLetter 5 = .ok (.aload_n 0, 1) := by decide +kernel
theorem dX4_takeLetter_6 : decode cX4_takeLetter 6 = .ok (.getfield 9, 3) := by decide +kernel
theorem dX4_takeLetter_9 : decode cX4_takeLetter 9 = .ok (.invokevirtual 79, 3) := by decide +kernel
theorem dX4_takeLetter_12 : decode cX4_takeLetter 12 = .ok (.if_icmp .ge 17, 3) := by decide +kernel
theorem dX4_takeLetter_15 : decode cX4_takeLetter 15 = .ok (.aload_n 0, 1) := by decide +kernel
theorem dX4_takeLetter_16 : decode cX4_takeLetter 16 = .ok (.getfield 56, 3) := by decide +kernel
theorem dX4_takeLetter_19 : decode cX4_takeLetter 19 = .ok (.aload_n 0, 1) := by decide +kernel
theorem dX4_takeLetter_20 : decode cX4_takeLetter 20 = .ok (.getfield 9, 3) := by decide +kernel
theorem dX4_takeLetter_23 : decode cX4_takeLetter 23 = .ok (.invokevirtual 83, 3) := by decide +kernel
theorem dX4_takeLetter_26 : decode cX4_takeLetter 26 = .ok (.if_icmp .lt 5, 3) := by decide +kernel
theorem dX4_takeLetter_29 : decode cX4_takeLetter 29 = .ok (.iload_n 2, 1) := by decide +kernel
theorem dX4_takeLetter_30 : decode cX4_takeLetter 30 = .ok (.ireturn, 1) := by decide +kernel
theorem dX4_takeLetter_31 : decode cX4_takeLetter 31 = .ok (.aload_n 0, 1) := by decide +kernel
theorem dX4_takeLetter_32 : decode cX4_takeLetter 32 = .ok (.aload_n 0, 1) := by decide +kernel
theorem dX4_takeLetter_33 : decode cX4_takeLetter 33 = .ok (.getfield 9, 3) := by decide +kernel
theorem dX4_takeLetter_36 : decode cX4_takeLetter 36 = .ok (.aload_n 0, 1) := by decide +kernel
theorem dX4_takeLetter_37 : decode cX4_takeLetter 37 = .ok (.getfield 59, 3) := by decide +kernel
theorem dX4_takeLetter_40 : decode cX4_takeLetter 40 = .ok (.iload_n 1, 1) := by decide +kernel
theorem dX4_takeLetter_41 : decode cX4_takeLetter 41 = .ok (.invokevirtual 86, 3) := by decide +kernel
theorem dX4_takeLetter_44 : decode cX4_takeLetter 44 = .ok (.putfield 59, 3) := by decide +kernel
theorem dX4_takeLetter_47 : decode cX4_takeLetter 47 = .ok (.aload_n 0, 1) := by decide +kernel
theorem dX4_takeLetter_48 : decode cX4_takeLetter 48 = .ok (.dup, 1) := by decide +kernel
theorem dX4_takeLetter_49 : decode cX4_takeLetter 49 = .ok (.getfield 56, 3) := by decide +kernel
theorem dX4_takeLetter_52 : decode cX4_takeLetter 52 = .ok (.iconst 1, 1) := by decide +kernel
theorem dX4_takeLetter_53 : decode cX4_takeLetter 53 = .ok (.iadd, 1) := by decide +kernel
theorem dX4_takeLetter_54 : decode cX4_takeLetter 54 = .ok (.putfield 56, 3) := by decide +kernel
theorem dX4_takeLetter_57 : decode cX4_takeLetter 57 = .ok (.aload_n 0, 1) := by decide +kernel
theorem dX4_takeLetter_58 : decode cX4_takeLetter 58 = .ok (.iconst 4, 1) := by decide +kernel
theorem dX4_takeLetter_59 : decode cX4_takeLetter 59 = .ok (.putfield 46, 3) := by decide +kernel
theorem dX4_takeLetter_62 : decode cX4_takeLetter 62 = .ok (.iconst (-1), 1) := by decide +kernel
theorem dX4_takeLetter_63 : decode cX4_takeLetter 63 = .ok (.ireturn, 1) := by decide +kernel
theorem dX4_takeSign_0 : decode cX4_takeSign 0 = .ok (.aload_n 0, 1) := by decide +kernel
theorem dX4_takeSign_1 : decode cX4_takeSign 1 = .ok (.getfield 46, 3) := by decide +kernel
theorem dX4_takeSign_4 : decode cX4_takeSign 4 = .ok (.iconst 1, 1) := by decide +kernel
theorem dX4_takeSign_5 : decode cX4_takeSign 5 = .ok (.if_icmp .eq 14, 3) := by decide +kernel
theorem dX4_takeSign_8 : decode cX4_takeSign 8 = .ok (.aload_n 0, 1) := by decide +kernel
theorem dX4_takeSign_9 : decode cX4_takeSign 9 = .ok (.getfield 46, 3) := by decide +kernel
theorem dX4_takeSign_12 : decode cX4_takeSign 12 = .ok (.ifCond .ne 9, 3) := by decide +kernel
theorem dX4_takeSign_15 : decode cX4_takeSign 15 = .ok (.iload_n 1, 1) := by decide +kernel
theorem dX4_takeSign_16 : decode cX4_takeSign 16 = .ok (.ifCond .le 5, 3) := by decide +kernel
theorem dX4_takeSign_19 : decode cX4_takeSign 19 = .ok (.iload_n 2, 1) := by decide +kernel
theorem dX4_takeSign_20 : decode cX4_takeSign 20 = .ok (.ireturn, 1) := by decide +kernel
theorem dX4_takeSign_21 : decode cX4_takeSign 21 = .ok (.aload_n 0, 1) := by decide +kernel
theorem dX4_takeSign_22 : decode cX4_takeSign 22 = .ok (.getfield 46, 3) := by decide +kernel
theorem dX4_takeSign_25 : decode cX4_takeSign 25 = .ok (.ifCond .eq 8, 3) := by decide +kernel
theorem dX4_takeSign_28 : decode cX4_takeSign 28 = .ok (.aload_n 0, 1) := by decide +kernel
theorem dX4_takeSign_29 : decode cX4_takeSign 29 = .ok (.aload_n 3, 1) := by decide +kernel
theorem dX4_takeSign_30 : decode cX4_takeSign 30 = .ok (.invokevirtual 42, 3) := by decide +kernel
theorem dX4_takeSign_33 : decode cX4_takeSign 33 = .ok (.aload_n 0, 1) := by decide +kernel
theorem dX4_takeSign_34 : decode cX4_takeSign 34 = .ok (.iconst 1, 1) := by decide +kernel
theorem dX4_takeSign_35 : decode cX4_takeSign 35 = .ok (.iload_n 1, 1) := by decide +kernel
theorem dX4_takeSign_36 : decode cX4_takeSign 36 = .ok (.invokevirtual 20, 3) := by decide +kernel
theorem dX4_takeSign_39 : decode cX4_takeSign 39 = .ok (.iconst (-1), 1) := by decide +kernel
theorem dX4_takeSign_40 : decode cX4_takeSign 40 = .ok (.ireturn, 1) := by decide +kernel
theorem dX5_at_0 : decode cX5_at 0 = .ok (.aload_n 0, 1) := by decide +kernel
theorem dX5_at_1 : decode cX5_at 1 = .ok (.iload_n 1, 1) := by decide +kernel
theorem dX5_at_2 : decode cX5_at 2 = .ok (.iconst 1, 1) := by decide +kernel
theorem dX5_at_3 : decode cX5_at 3 = .ok (.invokevirtual 28, 3) := by decide +kernel
theorem dX5_at_6 : decode cX5_at 6 = .ok (.ifCond .eq 12, 3) := by decide +kernel
theorem dX5_at_9 : decode cX5_at 9 = .ok (.aload_n 0, 1) := by decide +kernel
theorem dX5_at_10 : decode cX5_at 10 = .ok (.getfield 9, 3) := by decide +kernel
theorem dX5_at_13 : decode cX5_at 13 = .ok (.iload_n 1, 1) := by decide +kernel
theorem dX5_at_14 : decode cX5_at 14 = .ok (.laload, 1) := by decide +kernel
theorem dX5_at_15 : decode cX5_at 15 = .ok (.goto 4, 3) := by decide +kernel
theorem dX5_at_18 : decode cX5_at 18 = .ok (.lconst 0, 1) := by decide +kernel
theorem dX5_at_19 : decode cX5_at 19 = .ok (.lreturn, 1) := by decide +kernel
theorem dX5_has_0 : decode cX5_has 0 = .ok (.iload_n 1, 1) := by decide +kernel
theorem dX5_has_1 : decode cX5_has 1 = .ok (.ifCond .lt 25, 3) := by decide +kernel
theorem dX5_has_4 : decode cX5_has 4 = .ok (.iload_n 1, 1) := by decide +kernel
theorem dX5_has_5 : decode cX5_has 5 = .ok (.aload_n 0, 1) := by decide +kernel
theorem dX5_has_6 : decode cX5_has 6 = .ok (.getfield 19, 3) := by decide +kernel
theorem dX5_has_9 : decode cX5_has 9 = .ok (.if_icmp .gt 17, 3) := by decide +kernel
theorem dX5_has_12 : decode cX5_has 12 = .ok (.iload_n 2, 1) := by decide +kernel
theorem dX5_has_13 : decode cX5_has 13 = .ok (.aload_n 0, 1) := by decide +kernel
theorem dX5_has_14 : decode cX5_has 14 = .ok (.getfield 19, 3) := by decide +kernel
theorem dX5_has_17 : decode cX5_has 17 = .ok (.iload_n 1, 1) := by decide +kernel
theorem dX5_has_18 : decode cX5_has 18 = .ok (.isub, 1) := by decide +kernel
theorem dX5_has_19 : decode cX5_has 19 = .ok (.if_icmp .gt 7, 3) := by decide +kernel
theorem dX5_has_22 : decode cX5_has 22 = .ok (.iconst 1, 1) := by decide +kernel
theorem dX5_has_23 : decode cX5_has 23 = .ok (.goto 4, 3) := by decide +kernel
theorem dX5_has_26 : decode cX5_has 26 = .ok (.iconst 0, 1) := by decide +kernel
theorem dX5_has_27 : decode cX5_has 27 = .ok (.ireturn, 1) := by decide +kernel
theorem dX5_hold_0 : decode cX5_hold 0 = .ok (.aload_n 0, 1) := by decide +kernel
theorem dX5_hold_1 : decode cX5_hold 1 = .ok (.getfield 9, 3) := by decide +kernel
theorem dX5_hold_4 : decode cX5_hold 4 = .ok (.lconst 0, 1) := by decide +kernel
theorem dX5_hold_5 : decode cX5_hold 5 = .ok (.invokestatic 22, 3) := by decide +kernel
theorem dX5_hold_8 : decode cX5_hold 8 = .ok (.aload_n 0, 1) := by decide +kernel
theorem dX5_hold_9 : decode cX5_hold 9 = .ok (.iload_n 1, 1) := by decide +kernel
theorem dX5_hold_10 : decode cX5_hold 10 = .ok (.putfield 15, 3) := by decide +kernel
theorem dX5_hold_13 : decode cX5_hold 13 = .ok (.aload_n 0, 1) := by decide +kernel
theorem dX5_hold_14 : decode cX5_hold 14 = .ok (.iload_n 2, 1) := by decide +kernel
theorem dX5_hold_15 : decode cX5_hold 15 = .ok (.putfield 19, 3) := by decide +kernel
theorem dX5_hold_18 : decode cX5_hold 18 = .ok (.return_, 1) := by decide +kernel
theorem dX5_init_0 : decode cX5_init 0 = .ok (.aload_n 0, 1) := by decide +kernel
theorem dX5_init_1 : decode cX5_init 1 = .ok (.invokespecial 3, 3) := by decide +kernel
theorem dX5_init_4 : decode cX5_init 4 = .ok (.aload_n 0, 1) := by decide +kernel
theorem dX5_init_5 : decode cX5_init 5 = .ok (.bipush 90, 2) := by decide +kernel
theorem dX5_init_7 : decode cX5_init 7 = .ok (.newarray .long, 2) := by decide +kernel
theorem dX5_init_9 : decode cX5_init 9 = .ok (.putfield 9, 3) := by decide +kernel
theorem dX5_init_12 : decode cX5_init 12 = .ok (.aload_n 0, 1) := by decide +kernel
theorem dX5_init_13 : decode cX5_init 13 = .ok (.iconst (-1), 1) := by decide +kernel
theorem dX5_init_14 : decode cX5_init 14 = .ok (.putfield 15, 3) := by decide +kernel
theorem dX5_init_17 : decode cX5_init 17 = .ok (.return_, 1) := by decide +kernel
theorem dX5_isMissing_0 : decode cX5_isMissing 0 = .ok (.aload_n 0, 1) := by decide +kernel
theorem dX5_isMissing_1 : decode cX5_isMissing 1 = .ok (.getfield 15, 3) := by decide +kernel
theorem dX5_isMissing_4 : decode cX5_isMissing 4 = .ok (.iconst (-1), 1) := by decide +kernel
theorem dX5_isMissing_5 : decode cX5_isMissing 5 = .ok (.if_icmp .ne 7, 3) := by decide +kernel
theorem dX5_isMissing_8 : decode cX5_isMissing 8 = .ok (.iconst 1, 1) := by decide +kernel
theorem dX5_isMissing_9 : decode cX5_isMissing 9 = .ok (.goto 4, 3) := by decide +kernel
theorem dX5_isMissing_12 : decode cX5_isMissing 12 = .ok (.iconst 0, 1) := by decide +kernel
theorem dX5_isMissing_13 : decode cX5_isMissing 13 = .ok (.ireturn, 1) := by decide +kernel
theorem dX5_isOf_0 : decode cX5_isOf 0 = .ok (.aload_n 0, 1) := by decide +kernel
theorem dX5_isOf_1 : decode cX5_isOf 1 = .ok (.getfield 15, 3) := by decide +kernel
theorem dX5_isOf_4 : decode cX5_isOf 4 = .ok (.iload_n 1, 1) := by decide +kernel
theorem dX5_isOf_5 : decode cX5_isOf 5 = .ok (.if_icmp .ne 7, 3) := by decide +kernel
theorem dX5_isOf_8 : decode cX5_isOf 8 = .ok (.iconst 1, 1) := by decide +kernel
theorem dX5_isOf_9 : decode cX5_isOf 9 = .ok (.goto 4, 3) := by decide +kernel
theorem dX5_isOf_12 : decode cX5_isOf 12 = .ok (.iconst 0, 1) := by decide +kernel
theorem dX5_isOf_13 : decode cX5_isOf 13 = .ok (.ireturn, 1) := by decide +kernel
theorem dX5_release_0 : decode cX5_release 0 = .ok (.aload_n 0, 1) := by decide +kernel
theorem dX5_release_1 : decode cX5_release 1 = .ok (.iconst (-1), 1) := by decide +kernel
theorem dX5_release_2 : decode cX5_release 2 = .ok (.putfield 15, 3) := by decide +kernel
theorem dX5_release_5 : decode cX5_release 5 = .ok (.aload_n 0, 1) := by decide +kernel
theorem dX5_release_6 : decode cX5_release 6 = .ok (.getfield 19, 3) := by decide +kernel
theorem dX5_release_9 : decode cX5_release 9 = .ok (.ireturn, 1) := by decide +kernel
theorem dX5_set_0 : decode cX5_set 0 = .ok (.aload_n 0, 1) := by decide +kernel
theorem dX5_set_1 : decode cX5_set 1 = .ok (.iload_n 1, 1) := by decide +kernel
theorem dX5_set_2 : decode cX5_set 2 = .ok (.iconst 1, 1) := by decide +kernel
theorem dX5_set_3 : decode cX5_set 3 = .ok (.invokevirtual 28, 3) := by decide +kernel
theorem dX5_set_6 : decode cX5_set 6 = .ok (.ifCond .eq 24, 3) := by decide +kernel
theorem dX5_set_9 : decode cX5_set 9 = .ok (.aload_n 0, 1) := by decide +kernel
theorem dX5_set_10 : decode cX5_set 10 = .ok (.getfield 9, 3) := by decide +kernel
theorem dX5_set_13 : decode cX5_set 13 = .ok (.iload_n 1, 1) := by decide +kernel
theorem dX5_set_14 : decode cX5_set 14 = .ok (.aload_n 0, 1) := by decide +kernel
theorem dX5_set_15 : decode cX5_set 15 = .ok (.getfield 15, 3) := by decide +kernel
theorem dX5_set_18 : decode cX5_set 18 = .ok (.ifCond .ne 9, 3) := by decide +kernel
theorem dX5_set_21 : decode cX5_set 21 = .ok (.iload_n 2, 1) := by decide +kernel
theorem dX5_set_22 : decode cX5_set 22 = .ok (.i2b, 1) := by decide +kernel
theorem dX5_set_23 : decode cX5_set 23 = .ok (.i2l, 1) := by decide +kernel
theorem dX5_set_24 : decode cX5_set 24 = .ok (.goto 5, 3) := by decide +kernel
theorem dX5_set_27 : decode cX5_set 27 = .ok (.iload_n 2, 1) := by decide +kernel
theorem dX5_set_28 : decode cX5_set 28 = .ok (.i2l, 1) := by decide +kernel
theorem dX5_set_29 : decode cX5_set 29 = .ok (.lastore, 1) := by decide +kernel
theorem dX5_set_30 : decode cX5_set 30 = .ok (.return_, 1) := by decide +kernel
theorem dX6_add_0 : decode cX6_add 0 = .ok (.aload_n 0, 1) := by decide +kernel
theorem dX6_add_1 : decode cX6_add 1 = .ok (.getfield 15, 3) := by decide +kernel
theorem dX6_add_4 : decode cX6_add 4 = .ok (.iload_n 1, 1) := by decide +kernel
theorem dX6_add_5 : decode cX6_add 5 = .ok (.iload_n 2, 1) := by decide +kernel
theorem dX6_add_6 : decode cX6_add 6 = .ok (.invokevirtual 31, 3) := by decide +kernel
theorem dX6_add_9 : decode cX6_add 9 = .ok (.istore 5, 2) := by decide +kernel
theorem dX6_add_11 : decode cX6_add 11 = .ok (.aload_n 0, 1) := by decide +kernel
theorem dX6_add_12 : decode cX6_add 12 = .ok (.getfield 9, 3) := by decide +kernel
theorem dX6_add_15 : decode cX6_add 15 = .ok (.iload 5, 2) := by decide +kernel
theorem dX6_add_17 : decode cX6_add 17 = .ok (.aload_n 0, 1) := by decide +kernel
theorem dX6_add_18 : decode cX6_add 18 = .ok (.getfield 15, 3) := by decide +kernel
theorem dX6_add_21 : decode cX6_add 21 = .ok (.aload_n 0, 1) := by decide +kernel
theorem dX6_add_22 : decode cX6_add 22 = .ok (.getfield 9, 3) := by decide +kernel
theorem dX6_add_25 : decode cX6_add 25 = .ok (.iload 5, 2) := by decide +kernel
theorem dX6_add_27 : decode cX6_add 27 = .ok (.iaload, 1) := by decide +kernel
theorem dX6_add_28 : decode cX6_add 28 = .ok (.i2l, 1) := by decide +kernel
theorem dX6_add_29 : decode cX6_add 29 = .ok (.lload_n 3, 1) := by decide +kernel
theorem dX6_add_30 : decode cX6_add 30 = .ok (.ladd, 1) := by decide +kernel
theorem dX6_add_31 : decode cX6_add 31 = .ok (.invokevirtual 37, 3) := by decide +kernel
theorem dX6_add_34 : decode cX6_add 34 = .ok (.iastore, 1) := by decide +kernel
theorem dX6_add_35 : decode cX6_add 35 = .ok (.return_, 1) := by decide +kernel
theorem dX6_clear_0 : decode cX6_clear 0 = .ok (.aload_n 0, 1) := by decide +kernel
theorem dX6_clear_1 : decode cX6_clear 1 = .ok (.getfield 9, 3) := by decide +kernel
theorem dX6_clear_4 : decode cX6_clear 4 = .ok (.iconst 0, 1) := by decide +kernel
theorem dX6_clear_5 : decode cX6_clear 5 = .ok (.invokestatic 19, 3) := by decide +kernel
theorem dX6_clear_8 : decode cX6_clear 8 = .ok (.return_, 1) := by decide +kernel
theorem dX6_copy_0 : decode cX6_copy 0 = .ok (.aload_n 1, 1) := by decide +kernel
theorem dX6_copy_1 : decode cX6_copy 1 = .ok (.getfield 9, 3) := by decide +kernel
theorem dX6_copy_4 : decode cX6_copy 4 = .ok (.iconst 0, 1) := by decide +kernel
theorem dX6_copy_5 : decode cX6_copy 5 = .ok (.aload_n 0, 1) := by decide +kernel
theorem dX6_copy_6 : decode cX6_copy 6 = .ok (.getfield 9, 3) := by decide +kernel
theorem dX6_copy_9 : decode cX6_copy 9 = .ok (.iconst 0, 1) := by decide +kernel
theorem dX6_copy_10 : decode cX6_copy 10 = .ok (.sipush 364, 3) := by decide +kernel
theorem dX6_copy_13 : decode cX6_copy 13 = .ok (.invokestatic 25, 3) := by decide +kernel
theorem dX6_copy_16 : decode cX6_copy 16 = .ok (.return_, 1) := by decide +kernel
theorem dX6_hasTermsOf_0 : decode cX6_hasTermsOf 0 = .ok (.iconst 0, 1) := by decide +kernel
theorem dX6_hasTermsOf_1 : decode cX6_hasTermsOf 1 = .ok (.istore_n 2, 1) := by decide +kernel
theorem dX6_hasTermsOf_2 : decode cX6_hasTermsOf 2 = .ok (.iload_n 2, 1) := by decide +kernel
theorem dX6_hasTermsOf_3 : decode cX6_hasTermsOf 3 = .ok (.aload_n 0, 1) := by decide +kernel
theorem dX6_hasTermsOf_4 : decode cX6_hasTermsOf 4 = .ok (.getfield 15, 3) := by decide +kernel
theorem dX6_hasTermsOf_7 : decode cX6_hasTermsOf 7 = .ok (.iload_n 1, 1) := by decide +kernel
theorem dX6_hasTermsOf_8 : decode cX6_hasTermsOf 8 = .ok (.invokevirtual 41, 3) := by decide +kernel
theorem dX6_hasTermsOf_11 : decode cX6_hasTermsOf 11 = .ok (.if_icmp .ge 20, 3) := by decide +kernel
theorem dX6_hasTermsOf_14 : decode cX6_hasTermsOf 14 = .ok (.aload_n 0, 1) := by decide +kernel
theorem dX6_hasTermsOf_15 : decode cX6_hasTermsOf 15 = .ok (.iload_n 1, 1) := by decide +kernel
theorem dX6_hasTermsOf_16 : decode cX6_hasTermsOf 16 = .ok (.iload_n 2, 1) := by decide +kernel
theorem dX6_hasTermsOf_17 : decode cX6_hasTermsOf 17 = .ok (.invokevirtual 45, 3) := by decide +kernel
theorem dX6_hasTermsOf_20 : decode cX6_hasTermsOf 20 = .ok (.ifCond .eq 5, 3) := by decide +kernel
theorem dX6_hasTermsOf_23 : decode cX6_hasTermsOf 23 = .ok (.iconst 1, 1) := by decide +kernel
theorem dX6_hasTermsOf_24 : decode cX6_hasTermsOf 24 = .ok (.ireturn, 1) := by decide +kernel
theorem dX6_hasTermsOf_25 : decode cX6_hasTermsOf 25 = .ok (.iinc 2 1, 3) := by decide +kernel
theorem dX6_hasTermsOf_28 : decode cX6_hasTermsOf 28 = .ok (.goto (-26), 3) := by decide +kernel
theorem dX6_hasTermsOf_31 : decode cX6_hasTermsOf 31 = .ok (.iconst 0, 1) := by decide +kernel
theorem dX6_hasTermsOf_32 : decode cX6_hasTermsOf 32 = .ok (.ireturn, 1) := by decide +kernel
theorem dX6_init_0 : decode cX6_init 0 = .ok (.aload_n 0, 1) := by decide +kernel
theorem dX6_init_1 : decode cX6_init 1 = .ok (.invokespecial 3, 3) := by decide +kernel
theorem dX6_init_4 : decode cX6_init 4 = .ok (.aload_n 0, 1) := by decide +kernel
theorem dX6_init_5 : decode cX6_init 5 = .ok (.sipush 364, 3) := by decide +kernel
theorem dX6_init_8 : decode cX6_init 8 = .ok (.newarray .int, 2) := by decide +kernel
theorem dX6_init_10 : decode cX6_init 10 = .ok (.putfield 9, 3) := by decide +kernel
theorem dX6_init_13 : decode cX6_init 13 = .ok (.aload_n 0, 1) := by decide +kernel
theorem dX6_init_14 : decode cX6_init 14 = .ok (.aload_n 1, 1) := by decide +kernel
theorem dX6_init_15 : decode cX6_init 15 = .ok (.putfield 15, 3) := by decide +kernel
theorem dX6_init_18 : decode cX6_init 18 = .ok (.return_, 1) := by decide +kernel
theorem dX6_multiply_0 : decode cX6_multiply 0 = .ok (.iconst 0, 1) := by decide +kernel
theorem dX6_multiply_1 : decode cX6_multiply 1 = .ok (.istore_n 2, 1) := by decide +kernel
theorem dX6_multiply_2 : decode cX6_multiply 2 = .ok (.iload_n 2, 1) := by decide +kernel
theorem dX6_multiply_3 : decode cX6_multiply 3 = .ok (.sipush 364, 3) := by decide +kernel
theorem dX6_multiply_6 : decode cX6_multiply 6 = .ok (.if_icmp .ge 32, 3) := by decide +kernel
theorem dX6_multiply_9 : decode cX6_multiply 9 = .ok (.aload_n 0, 1) := by decide +kernel
theorem dX6_multiply_10 : decode cX6_multiply 10 = .ok (.getfield 9, 3) := by decide +kernel
theorem dX6_multiply_13 : decode cX6_multiply 13 = .ok (.iload_n 2, 1) := by decide +kernel
theorem dX6_multiply_14 : decode cX6_multiply 14 = .ok (.aload_n 0, 1) := by decide +kernel
theorem dX6_multiply_15 : decode cX6_multiply 15 = .ok (.getfield 15, 3) := by decide +kernel
theorem dX6_multiply_18 : decode cX6_multiply 18 = .ok (.aload_n 0, 1) := by decide +kernel
theorem dX6_multiply_19 : decode cX6_multiply 19 = .ok (.getfield 9, 3) := by decide +kernel
theorem dX6_multiply_22 : decode cX6_multiply 22 = .ok (.iload_n 2, 1) := by decide +kernel
theorem dX6_multiply_23 : decode cX6_multiply 23 = .ok (.iaload, 1) := by decide +kernel
theorem dX6_multiply_24 : decode cX6_multiply 24 = .ok (.i2l, 1) := by decide +kernel
theorem dX6_multiply_25 : decode cX6_multiply 25 = .ok (.iload_n 1, 1) := by decide +kernel
theorem dX6_multiply_26 : decode cX6_multiply 26 = .ok (.i2l, 1) := by decide +kernel
theorem dX6_multiply_27 : decode cX6_multiply 27 = .ok (.lmul, 1) := by decide +kernel
theorem dX6_multiply_28 : decode cX6_multiply 28 = .ok (.invokevirtual 37, 3) := by decide +kernel
theorem dX6_multiply_31 : decode cX6_multiply 31 = .ok (.iastore, 1) := by decide +kernel
theorem dX6_multiply_32 : decode cX6_multiply 32 = .ok (.iinc 2 1, 3) := by decide +kernel
theorem dX6_multiply_35 : decode cX6_multiply 35 = .ok (.goto (-33), 3) := by decide +kernel
theorem dX6_multiply_38 : decode cX6_multiply 38 = .ok (.return_, 1) := by decide +kernel
theorem dX6_numberOf_0 : decode cX6_numberOf 0 = .ok (.aload_n 0, 1) := by decide +kernel
theorem dX6_numberOf_1 : decode cX6_numberOf 1 = .ok (.getfield 9, 3) := by decide +kernel
theorem dX6_numberOf_4 : decode cX6_numberOf 4 = .ok (.aload_n 0, 1) := by decide +kernel
theorem dX6_numberOf_5 : decode cX6_numberOf 5 = .ok (.getfield 15, 3) := by decide +kernel
theorem dX6_numberOf_8 : decode cX6_numberOf 8 = .ok (.iload_n 1, 1) := by decide +kernel
theorem dX6_numberOf_9 : decode cX6_numberOf 9 = .ok (.iload_n 2, 1) := by decide +kernel
theorem dX6_numberOf_10 : decode cX6_numberOf 10 = .ok (.invokevirtual 31, 3) := by decide +kernel
theorem dX6_numberOf_13 : decode cX6_numberOf 13 = .ok (.iaload, 1) := by decide +kernel
theorem dX6_numberOf_14 : decode cX6_numberOf 14 = .ok (.ireturn, 1) := by decide +kernel
theorem dX6_onlyLength_0 : decode cX6_onlyLength 0 = .ok (.iconst (-1), 1) := by decide +kernel
theorem dX6_onlyLength_1 : decode cX6_onlyLength 1 = .ok (.istore_n 1, 1) := by decide +kernel
theorem dX6_onlyLength_2 : decode cX6_onlyLength 2 = .ok (.iconst 0, 1) := by decide +kernel
theorem dX6_onlyLength_3 : decode cX6_onlyLength 3 = .ok (.istore_n 2, 1) := by decide +kernel
theorem dX6_onlyLength_4 : decode cX6_onlyLength 4 = .ok (.iload_n 2, 1) := by decide +kernel
theorem dX6_onlyLength_5 : decode cX6_onlyLength 5 = .ok (.aload_n 0, 1) := by decide +kernel
theorem dX6_onlyLength_6 : decode cX6_onlyLength 6 = .ok (.getfield 15, 3) := by decide +kernel
theorem dX6_onlyLength_9 : decode cX6_onlyLength 9 = .ok (.invokevirtual 48, 3) := by decide +kernel
theorem dX6_onlyLength_12 : decode cX6_onlyLength 12 = .ok (.if_icmp .gt 25, 3) := by decide +kernel
theorem dX6_onlyLength_15 : decode cX6_onlyLength 15 = .ok (.aload_n 0, 1) := by decide +kernel
theorem dX6_onlyLength_16 : decode cX6_onlyLength 16 = .ok (.iload_n 2, 1) := by decide +kernel
theorem dX6_onlyLength_17 : decode cX6_onlyLength 17 = .ok (.invokevirtual 52, 3) := by decide +kernel
theorem dX6_onlyLength_20 : decode cX6_onlyLength 20 = .ok (.ifCond .eq 11, 3) := by decide +kernel
theorem dX6_onlyLength_23 : decode cX6_onlyLength 23 = .ok (.iload_n 1, 1) := by decide +kernel
theorem dX6_onlyLength_24 : decode cX6_onlyLength 24 = .ok (.ifCond .lt 5, 3) := by decide +kernel
theorem dX6_onlyLength_27 : decode cX6_onlyLength 27 = .ok (.iconst (-1), 1) := by decide +kernel
theorem dX6_onlyLength_28 : decode cX6_onlyLength 28 = .ok (.ireturn, 1) := by decide +kernel
theorem dX6_onlyLength_29 : decode cX6_onlyLength 29 = .ok (.iload_n 2, 1) := by decide +kernel
theorem dX6_onlyLength_30 : decode cX6_onlyLength 30 = .ok (.istore_n 1, 1) := by decide +kernel
theorem dX6_onlyLength_31 : decode cX6_onlyLength 31 = .ok (.iinc 2 1, 3) := by decide +kernel
theorem dX6_onlyLength_34 : decode cX6_onlyLength 34 = .ok (.goto (-30), 3) := by decide +kernel
theorem dX6_onlyLength_37 : decode cX6_onlyLength 37 = .ok (.iload_n 1, 1) := by decide +kernel
theorem dX6_onlyLength_38 : decode cX6_onlyLength 38 = .ok (.ireturn, 1) := by decide +kernel
theorem dX6_terms_0 : decode cX6_terms 0 = .ok (.iconst 0, 1) := by decide +kernel
theorem dX6_terms_1 : decode cX6_terms 1 = .ok (.istore_n 1, 1) := by decide +kernel
theorem dX6_terms_2 : decode cX6_terms 2 = .ok (.iconst 0, 1) := by decide +kernel
theorem dX6_terms_3 : decode cX6_terms 3 = .ok (.istore_n 2, 1) := by decide +kernel
theorem dX6_terms_4 : decode cX6_terms 4 = .ok (.iload_n 2, 1) := by decide +kernel
theorem dX6_terms_5 : decode cX6_terms 5 = .ok (.sipush 364, 3) := by decide +kernel
theorem dX6_terms_8 : decode cX6_terms 8 = .ok (.if_icmp .ge 21, 3) := by decide +kernel
theorem dX6_terms_11 : decode cX6_terms 11 = .ok (.aload_n 0, 1) := by decide +kernel
theorem dX6_terms_12 : decode cX6_terms 12 = .ok (.getfield 9, 3) := by decide +kernel
theorem dX6_terms_15 : decode cX6_terms 15 = .ok (.iload_n 2, 1) := by decide +kernel
theorem dX6_terms_16 : decode cX6_terms 16 = .ok (.iaload, 1) := by decide +kernel
theorem dX6_terms_17 : decode cX6_terms 17 = .ok (.ifCond .eq 6, 3) := by decide +kernel
theorem dX6_terms_20 : decode cX6_terms 20 = .ok (.iinc 1 1, 3) := by decide +kernel
theorem dX6_terms_23 : decode cX6_terms 23 = .ok (.iinc 2 1, 3) := by decide +kernel
theorem dX6_terms_26 : decode cX6_terms 26 = .ok (.goto (-22), 3) := by decide +kernel
theorem dX6_terms_29 : decode cX6_terms 29 = .ok (.iload_n 1, 1) := by decide +kernel
theorem dX6_terms_30 : decode cX6_terms 30 = .ok (.ireturn, 1) := by decide +kernel
theorem dX7_add_0 : decode cX7_add 0 = .ok (.aload_n 0, 1) := by decide +kernel
theorem dX7_add_1 : decode cX7_add 1 = .ok (.getfield 15, 3) := by decide +kernel
theorem dX7_add_4 : decode cX7_add 4 = .ok (.bipush 80, 2) := by decide +kernel
theorem dX7_add_6 : decode cX7_add 6 = .ok (.if_icmp .ge 23, 3) := by decide +kernel
theorem dX7_add_9 : decode cX7_add 9 = .ok (.aload_n 0, 1) := by decide +kernel
theorem dX7_add_10 : decode cX7_add 10 = .ok (.getfield 9, 3) := by decide +kernel
theorem dX7_add_13 : decode cX7_add 13 = .ok (.aload_n 0, 1) := by decide +kernel
theorem dX7_add_14 : decode cX7_add 14 = .ok (.getfield 15, 3) := by decide +kernel
theorem dX7_add_17 : decode cX7_add 17 = .ok (.iload_n 1, 1) := by decide +kernel
theorem dX7_add_18 : decode cX7_add 18 = .ok (.iastore, 1) := by decide +kernel
theorem dX7_add_19 : decode cX7_add 19 = .ok (.aload_n 0, 1) := by decide +kernel
theorem dX7_add_20 : decode cX7_add 20 = .ok (.dup, 1) := by decide +kernel
theorem dX7_add_21 : decode cX7_add 21 = .ok (.getfield 15, 3) := by decide +kernel
theorem dX7_add_24 : decode cX7_add 24 = .ok (.iconst 1, 1) := by decide +kernel
theorem dX7_add_25 : decode cX7_add 25 = .ok (.iadd, 1) := by decide +kernel
theorem dX7_add_26 : decode cX7_add 26 = .ok (.putfield 15, 3) := by decide +kernel
theorem dX7_add_29 : decode cX7_add 29 = .ok (.return_, 1) := by decide +kernel
theorem dX7_at_0 : decode cX7_at 0 = .ok (.iload_n 1, 1) := by decide +kernel
theorem dX7_at_1 : decode cX7_at 1 = .ok (.ifCond .lt 20, 3) := by decide +kernel
theorem dX7_at_4 : decode cX7_at 4 = .ok (.iload_n 1, 1) := by decide +kernel
theorem dX7_at_5 : decode cX7_at 5 = .ok (.aload_n 0, 1) := by decide +kernel
theorem dX7_at_6 : decode cX7_at 6 = .ok (.getfield 15, 3) := by decide +kernel
theorem dX7_at_9 : decode cX7_at 9 = .ok (.if_icmp .ge 12, 3) := by decide +kernel
theorem dX7_at_12 : decode cX7_at 12 = .ok (.aload_n 0, 1) := by decide +kernel
theorem dX7_at_13 : decode cX7_at 13 = .ok (.getfield 9, 3) := by decide +kernel
theorem dX7_at_16 : decode cX7_at 16 = .ok (.iload_n 1, 1) := by decide +kernel
theorem dX7_at_17 : decode cX7_at 17 = .ok (.iaload, 1) := by decide +kernel
theorem dX7_at_18 : decode cX7_at 18 = .ok (.goto 4, 3) := by decide +kernel
theorem dX7_at_21 : decode cX7_at 21 = .ok (.iconst 0, 1) := by decide +kernel
theorem dX7_at_22 : decode cX7_at 22 = .ok (.ireturn, 1) := by decide +kernel
theorem dX7_clear_0 : decode cX7_clear 0 = .ok (.aload_n 0, 1) := by decide +kernel
theorem dX7_clear_1 : decode cX7_clear 1 = .ok (.iconst 0, 1) := by decide +kernel
theorem dX7_clear_2 : decode cX7_clear 2 = .ok (.putfield 15, 3) := by decide +kernel
theorem dX7_clear_5 : decode cX7_clear 5 = .ok (.return_, 1) := by decide +kernel
theorem dX7_init_0 : decode cX7_init 0 = .ok (.aload_n 0, 1) := by decide +kernel
theorem dX7_init_1 : decode cX7_init 1 = .ok (.invokespecial 3, 3) := by decide +kernel
theorem dX7_init_4 : decode cX7_init 4 = .ok (.aload_n 0, 1) := by decide +kernel
theorem dX7_init_5 : decode cX7_init 5 = .ok (.bipush 80, 2) := by decide +kernel
theorem dX7_init_7 : decode cX7_init 7 = .ok (.newarray .int, 2) := by decide +kernel
theorem dX7_init_9 : decode cX7_init 9 = .ok (.putfield 9, 3) := by decide +kernel
theorem dX7_init_12 : decode cX7_init 12 = .ok (.return_, 1) := by decide +kernel
theorem dX7_size_0 : decode cX7_size 0 = .ok (.aload_n 0, 1) := by decide +kernel
theorem dX7_size_1 : decode cX7_size 1 = .ok (.getfield 15, 3) := by decide +kernel
theorem dX7_size_4 : decode cX7_size 4 = .ok (.ireturn, 1) := by decide +kernel
theorem dX8_addLaw_0 : decode cX8_addLaw 0 = .ok (.aload_n 0, 1) := by decide +kernel
theorem dX8_addLaw_1 : decode cX8_addLaw 1 = .ok (.getfield 45, 3) := by decide +kernel
theorem dX8_addLaw_4 : decode cX8_addLaw 4 = .ok (.iload_n 1, 1) := by decide +kernel
theorem dX8_addLaw_5 : decode cX8_addLaw 5 = .ok (.invokevirtual 253, 3) := by decide +kernel
theorem dX8_addLaw_8 : decode cX8_addLaw 8 = .ok (.iconst 0, 1) := by decide +kernel
theorem dX8_addLaw_9 : decode cX8_addLaw 9 = .ok (.istore_n 2, 1) := by decide +kernel
theorem dX8_addLaw_10 : decode cX8_addLaw 10 = .ok (.iload_n 2, 1) := by decide +kernel
theorem dX8_addLaw_11 : decode cX8_addLaw 11 = .ok (.aload_n 0, 1) := by decide +kernel
theorem dX8_addLaw_12 : decode cX8_addLaw 12 = .ok (.getfield 10, 3) := by decide +kernel
theorem dX8_addLaw_15 : decode cX8_addLaw 15 = .ok (.iload_n 1, 1) := by decide +kernel
theorem dX8_addLaw_16 : decode cX8_addLaw 16 = .ok (.invokevirtual 198, 3) := by decide +kernel
theorem dX8_addLaw_19 : decode cX8_addLaw 19 = .ok (.if_icmp .ge 26, 3) := by decide +kernel
theorem dX8_addLaw_22 : decode cX8_addLaw 22 = .ok (.aload_n 0, 1) := by decide +kernel
theorem dX8_addLaw_23 : decode cX8_addLaw 23 = .ok (.getfield 45, 3) := by decide +kernel
theorem dX8_addLaw_26 : decode cX8_addLaw 26 = .ok (.iload_n 2, 1) := by decide +kernel
theorem dX8_addLaw_27 : decode cX8_addLaw 27 = .ok (.aload_n 0, 1) := by decide +kernel
theorem dX8_addLaw_28 : decode cX8_addLaw 28 = .ok (.getfield 39, 3) := by decide +kernel
theorem dX8_addLaw_31 : decode cX8_addLaw 31 = .ok (.iload_n 1, 1) := by decide +kernel
theorem dX8_addLaw_32 : decode cX8_addLaw 32 = .ok (.iload_n 2, 1) := by decide +kernel
theorem dX8_addLaw_33 : decode cX8_addLaw 33 = .ok (.invokevirtual 197, 3) := by decide +kernel
theorem dX8_addLaw_36 : decode cX8_addLaw 36 = .ok (.invokevirtual 256, 3) := by decide +kernel
theorem dX8_addLaw_39 : decode cX8_addLaw 39 = .ok (.iinc 2 1, 3) := by decide +kernel
theorem dX8_addLaw_42 : decode cX8_addLaw 42 = .ok (.goto (-32), 3) := by decide +kernel
theorem dX8_addLaw_45 : decode cX8_addLaw 45 = .ok (.aload_n 0, 1) := by decide +kernel
theorem dX8_addLaw_46 : decode cX8_addLaw 46 = .ok (.iload_n 1, 1) := by decide +kernel
theorem dX8_addLaw_47 : decode cX8_addLaw 47 = .ok (.invokevirtual 94, 3) := by decide +kernel
theorem dX8_addLaw_50 : decode cX8_addLaw 50 = .ok (.aload_n 0, 1) := by decide +kernel
theorem dX8_addLaw_51 : decode cX8_addLaw 51 = .ok (.getfield 45, 3) := by decide +kernel
theorem dX8_addLaw_54 : decode cX8_addLaw 54 = .ok (.invokevirtual 121, 3) := by decide +kernel
theorem dX8_addLaw_57 : decode cX8_addLaw 57 = .ok (.iconst 1, 1) := by decide +kernel
theorem dX8_addLaw_58 : decode cX8_addLaw 58 = .ok (.isub, 1) := by decide +kernel
theorem dX8_addLaw_59 : decode cX8_addLaw 59 = .ok (.ireturn, 1) := by decide +kernel
theorem dX8_begin_0 : decode cX8_begin 0 = .ok (.iload_n 1, 1) := by decide +kernel
theorem dX8_begin_1 : decode cX8_begin 1 = .ok (.iconst 1, 1) := by decide +kernel
theorem dX8_begin_2 : decode cX8_begin 2 = .ok (.if_icmp .lt 15, 3) := by decide +kernel
theorem dX8_begin_5 : decode cX8_begin 5 = .ok (.iload_n 1, 1) := by decide +kernel
theorem dX8_begin_6 : decode cX8_begin 6 = .ok (.iconst 3, 1) := by decide +kernel
theorem dX8_begin_7 : decode cX8_begin 7 = .ok (.if_icmp .gt 10, 3) := by decide +kernel
theorem dX8_begin_10 : decode cX8_begin 10 = .ok (.iload_n 2, 1) := by decide +kernel
theorem dX8_begin_11 : decode cX8_begin 11 = .ok (.invokestatic 82, 3) := by decide +kernel
theorem dX8_begin_14 : decode cX8_begin 14 = .ok (.ifCond .ne 5, 3) := by decide +kernel
theorem dX8_begin_17 : decode cX8_begin 17 = .ok (.iconst (-1), 1) := by decide +kernel
theorem dX8_begin_18 : decode cX8_begin 18 = .ok (.ireturn, 1) := by decide +kernel
theorem dX8_begin_19 : decode cX8_begin 19 = .ok (.aload_n 0, 1) := by decide +kernel
theorem dX8_begin_20 : decode cX8_begin 20 = .ok (.getfield 10, 3) := by decide +kernel
theorem dX8_begin_23 : decode cX8_begin 23 = .ok (.iload_n 1, 1) := by decide +kernel
theorem dX8_begin_24 : decode cX8_begin 24 = .ok (.iload_n 2, 1) := by decide +kernel
theorem dX8_begin_25 : decode cX8_begin 25 = .ok (.invokevirtual 86, 3) := by decide +kernel
theorem dX8_begin_28 : decode cX8_begin 28 = .ok (.aload_n 0, 1) := by decide +kernel
theorem dX8_begin_29 : decode cX8_begin 29 = .ok (.getfield 45, 3) := by decide +kernel
theorem dX8_begin_32 : decode cX8_begin 32 = .ok (.invokevirtual 90, 3) := by decide +kernel
theorem dX8_begin_35 : decode cX8_begin 35 = .ok (.aload_n 0, 1) := by decide +kernel
theorem dX8_begin_36 : decode cX8_begin 36 = .ok (.getfield 35, 3) := by decide +kernel
theorem dX8_begin_39 : decode cX8_begin 39 = .ok (.invokevirtual 93, 3) := by decide +kernel
theorem dX8_begin_42 : decode cX8_begin 42 = .ok (.aload_n 0, 1) := by decide +kernel
theorem dX8_begin_43 : decode cX8_begin 43 = .ok (.iconst 0, 1) := by decide +kernel
theorem dX8_begin_44 : decode cX8_begin 44 = .ok (.invokevirtual 94, 3) := by decide +kernel
theorem dX8_begin_47 : decode cX8_begin 47 = .ok (.aload_n 0, 1) := by decide +kernel
theorem dX8_begin_48 : decode cX8_begin 48 = .ok (.getfield 10, 3) := by decide +kernel
theorem dX8_begin_51 : decode cX8_begin 51 = .ok (.invokevirtual 98, 3) := by decide +kernel
theorem dX8_begin_54 : decode cX8_begin 54 = .ok (.ireturn, 1) := by decide +kernel
theorem dX8_byteOf_0 : decode cX8_byteOf 0 = .ok (.lload_n 0, 1) := by decide +kernel
theorem dX8_byteOf_1 : decode cX8_byteOf 1 = .ok (.bipush 8, 2) := by decide +kernel
theorem dX8_byteOf_3 : decode cX8_byteOf 3 = .ok (.iload_n 2, 1) := by decide +kernel
theorem dX8_byteOf_4 : decode cX8_byteOf 4 = .ok (.imul, 1) := by decide +kernel
theorem dX8_byteOf_5 : decode cX8_byteOf 5 = .ok (.lushr, 1) := by decide +kernel
theorem dX8_byteOf_6 : decode cX8_byteOf 6 = .ok (.l2i, 1) := by decide +kernel
theorem dX8_byteOf_7 : decode cX8_byteOf 7 = .ok (.sipush 255, 3) := by decide +kernel
theorem dX8_byteOf_10 : decode cX8_byteOf 10 = .ok (.iand, 1) := by decide +kernel
theorem dX8_byteOf_11 : decode cX8_byteOf 11 = .ok (.ireturn, 1) := by decide +kernel
theorem dX8_count_0 : decode cX8_count 0 = .ok (.iload_n 1, 1) := by decide +kernel
theorem dX8_count_1 : decode cX8_count 1 = .ok (.tableswitch 84 0 5 #[39, 47, 55, 63, 71, 76], 39) := by decide +kernel
theorem dX8_count_40 : decode cX8_count 40 = .ok (.aload_n 0, 1) := by decide +kernel
theorem dX8_count_41 : decode cX8_count 41 = .ok (.getfield 10, 3) := by decide +kernel
theorem dX8_count_44 : decode cX8_count 44 = .ok (.invokevirtual 140, 3) := by decide +kernel
theorem dX8_count_47 : decode cX8_count 47 = .ok (.ireturn, 1) := by decide +kernel
theorem dX8_count_48 : decode cX8_count 48 = .ok (.aload_n 0, 1) := by decide +kernel
theorem dX8_count_49 : decode cX8_count 49 = .ok (.getfield 10, 3) := by decide +kernel
theorem dX8_count_52 : decode cX8_count 52 = .ok (.invokevirtual 143, 3) := by decide +kernel
theorem dX8_count_55 : decode cX8_count 55 = .ok (.ireturn, 1) := by decide +kernel
theorem dX8_count_56 : decode cX8_count 56 = .ok (.aload_n 0, 1) := by decide +kernel
theorem dX8_count_57 : decode cX8_count 57 = .ok (.getfield 10, 3) := by decide +kernel
theorem dX8_count_60 : decode cX8_count 60 = .ok (.invokevirtual 98, 3) := by decide +kernel
theorem dX8_count_63 : decode cX8_count 63 = .ok (.ireturn, 1) := by decide +kernel
theorem dX8_count_64 : decode cX8_count 64 = .ok (.aload_n 0, 1) := by decide +kernel
theorem dX8_count_65 : decode cX8_count 65 = .ok (.getfield 45, 3) := by decide +kernel
theorem dX8_count_68 : decode cX8_count 68 = .ok (.invokevirtual 121, 3) := by decide +kernel
theorem dX8_count_71 : decode cX8_count 71 = .ok (.ireturn, 1) := by decide +kernel
theorem dX8_count_72 : decode cX8_count 72 = .ok (.aload_n 0, 1) := by decide +kernel
theorem dX8_count_73 : decode cX8_count 73 = .ok (.invokevirtual 146, 3) := by decide +kernel
theorem dX8_count_76 : decode cX8_count 76 = .ok (.ireturn, 1) := by decide +kernel
theorem dX8_count_77 : decode cX8_count 77 = .ok (.aload_n 0, 1) := by decide +kernel
theorem dX8_count_78 : decode cX8_count 78 = .ok (.getfield 35, 3) := by decide +kernel
theorem dX8_count_81 : decode cX8_count 81 = .ok (.invokevirtual 149, 3) := by decide +kernel
theorem dX8_count_84 : decode cX8_count 84 = .ok (.ireturn, 1) := by decide +kernel
theorem dX8_count_85 : decode cX8_count 85 = .ok (.iconst (-1), 1) := by decide +kernel
theorem dX8_count_86 : decode cX8_count 86 = .ok (.ireturn, 1) := by decide +kernel
theorem dX8_countLeastLaws_0 : decode cX8_countLeastLaws 0 = .ok (.iconst 0, 1) := by decide +kernel
theorem dX8_countLeastLaws_1 : decode cX8_countLeastLaws 1 = .ok (.istore_n 1, 1) := by decide +kernel
theorem dX8_countLeastLaws_2 : decode cX8_countLeastLaws 2 = .ok (.iconst 0, 1) := by decide +kernel
theorem dX8_countLeastLaws_3 : decode cX8_countLeastLaws 3 = .ok (.istore_n 2, 1) := by decide +kernel
theorem dX8_countLeastLaws_4 : decode cX8_countLeastLaws 4 = .ok (.iload_n 2, 1) := by decide +kernel
theorem dX8_countLeastLaws_5 : decode cX8_countLeastLaws 5 = .ok (.aload_n 0, 1) := by decide +kernel
theorem dX8_countLeastLaws_6 : decode cX8_countLeastLaws 6 = .ok (.getfield 10, 3) := by decide +kernel
theorem dX8_countLeastLaws_9 : decode cX8_countLeastLaws 9 = .ok (.invokevirtual 98, 3) := by decide +kernel
theorem dX8_countLeastLaws_12 : decode cX8_countLeastLaws 12 = .ok (.if_icmp .gt 20, 3) := by decide +kernel
theorem dX8_countLeastLaws_15 : decode cX8_countLeastLaws 15 = .ok (.iload_n 1, 1) := by decide +kernel
theorem dX8_countLeastLaws_16 : decode cX8_countLeastLaws 16 = .ok (.aload_n 0, 1) := by decide +kernel
theorem dX8_countLeastLaws_17 : decode cX8_countLeastLaws 17 = .ok (.getfield 57, 3) := by decide +kernel
theorem dX8_countLeastLaws_20 : decode cX8_countLeastLaws 20 = .ok (.iload_n 2, 1) := by decide +kernel
theorem dX8_countLeastLaws_21 : decode cX8_countLeastLaws 21 = .ok (.invokevirtual 168, 3) := by decide +kernel
theorem dX8_countLeastLaws_24 : decode cX8_countLeastLaws 24 = .ok (.iadd, 1) := by decide +kernel
theorem dX8_countLeastLaws_25 : decode cX8_countLeastLaws 25 = .ok (.istore_n 1, 1) := by decide +kernel
theorem dX8_countLeastLaws_26 : decode cX8_countLeastLaws 26 = .ok (.iinc 2 1, 3) := by decide +kernel
theorem dX8_countLeastLaws_29 : decode cX8_countLeastLaws 29 = .ok (.goto (-25), 3) := by decide +kernel
theorem dX8_countLeastLaws_32 : decode cX8_countLeastLaws 32 = .ok (.iload_n 1, 1) := by decide +kernel
theorem dX8_countLeastLaws_33 : decode cX8_countLeastLaws 33 = .ok (.ireturn, 1) := by decide +kernel
theorem dX8_drop_0 : decode cX8_drop 0 = .ok (.iload_n 1, 1) := by decide +kernel
theorem dX8_drop_1 : decode cX8_drop 1 = .ok (.invokestatic 220, 3) := by decide +kernel
theorem dX8_drop_4 : decode cX8_drop 4 = .ok (.ifCond .ne 5, 3) := by decide +kernel
theorem dX8_drop_7 : decode cX8_drop 7 = .ok (.iconst (-1), 1) := by decide +kernel
theorem dX8_drop_8 : decode cX8_drop 8 = .ok (.ireturn, 1) := by decide +kernel
theorem dX8_drop_9 : decode cX8_drop 9 = .ok (.aload_n 0, 1) := by decide +kernel
theorem dX8_drop_10 : decode cX8_drop 10 = .ok (.getfield 73, 3) := by decide +kernel
theorem dX8_drop_13 : decode cX8_drop 13 = .ok (.iload_n 1, 1) := by decide +kernel
theorem dX8_drop_14 : decode cX8_drop 14 = .ok (.aaload, 1) := by decide +kernel
theorem dX8_drop_15 : decode cX8_drop 15 = .ok (.invokevirtual 229, 3) := by decide +kernel
theorem dX8_drop_18 : decode cX8_drop 18 = .ok (.ifCond .eq 6, 3) := by decide +kernel
theorem dX8_drop_21 : decode cX8_drop 21 = .ok (.bipush (-11), 2) := by decide +kernel
theorem dX8_drop_23 : decode cX8_drop 23 = .ok (.ireturn, 1) := by decide +kernel
theorem dX8_drop_24 : decode cX8_drop 24 = .ok (.aload_n 0, 1) := by decide +kernel
theorem dX8_drop_25 : decode cX8_drop 25 = .ok (.getfield 73, 3) := by decide +kernel
theorem dX8_drop_28 : decode cX8_drop 28 = .ok (.iload_n 1, 1) := by decide +kernel
theorem dX8_drop_29 : decode cX8_drop 29 = .ok (.aaload, 1) := by decide +kernel
theorem dX8_drop_30 : decode cX8_drop 30 = .ok (.invokevirtual 233, 3) := by decide +kernel
theorem dX8_drop_33 : decode cX8_drop 33 = .ok (.ireturn, 1) := by decide +kernel
theorem dX8_fit_0 : decode cX8_fit 0 = .ok (.aload_n 0, 1) := by decide +kernel
theorem dX8_fit_1 : decode cX8_fit 1 = .ok (.getfield 45, 3) := by decide +kernel
theorem dX8_fit_4 : decode cX8_fit 4 = .ok (.iconst 2, 1) := by decide +kernel
theorem dX8_fit_5 : decode cX8_fit 5 = .ok (.invokevirtual 184, 3) := by decide +kernel
theorem dX8_fit_8 : decode cX8_fit 8 = .ok (.ifCond .ne 6, 3) := by decide +kernel
theorem dX8_fit_11 : decode cX8_fit 11 = .ok (.bipush (-2), 2) := by decide +kernel
theorem dX8_fit_13 : decode cX8_fit 13 = .ok (.ireturn, 1) := by decide +kernel
theorem dX8_fit_14 : decode cX8_fit 14 = .ok (.aload_n 0, 1) := by decide +kernel
theorem dX8_fit_15 : decode cX8_fit 15 = .ok (.invokevirtual 187, 3) := by decide +kernel
theorem dX8_fit_18 : decode cX8_fit 18 = .ok (.iconst 1, 1) := by decide +kernel
theorem dX8_fit_19 : decode cX8_fit 19 = .ok (.istore_n 1, 1) := by decide +kernel
theorem dX8_fit_20 : decode cX8_fit 20 = .ok (.iload_n 1, 1) := by decide +kernel
theorem dX8_fit_21 : decode cX8_fit 21 = .ok (.aload_n 0, 1) := by decide +kernel
theorem dX8_fit_22 : decode cX8_fit 22 = .ok (.getfield 10, 3) := by decide +kernel
theorem dX8_fit_25 : decode cX8_fit 25 = .ok (.invokevirtual 98, 3) := by decide +kernel
theorem dX8_fit_28 : decode cX8_fit 28 = .ok (.if_icmp .gt 19, 3) := by decide +kernel
theorem dX8_fit_31 : decode cX8_fit 31 = .ok (.aload_n 0, 1) := by decide +kernel
theorem dX8_fit_32 : decode cX8_fit 32 = .ok (.iload_n 1, 1) := by decide +kernel
theorem dX8_fit_33 : decode cX8_fit 33 = .ok (.invokevirtual 190, 3) := by decide +kernel
theorem dX8_fit_36 : decode cX8_fit 36 = .ok (.ifCond .eq 5, 3) := by decide +kernel
theorem dX8_fit_39 : decode cX8_fit 39 = .ok (.iload_n 1, 1) := by decide +kernel
theorem dX8_fit_40 : decode cX8_fit 40 = .ok (.ireturn, 1) := by decide +kernel
theorem dX8_fit_41 : decode cX8_fit 41 = .ok (.iinc 1 1, 3) := by decide +kernel
theorem dX8_fit_44 : decode cX8_fit 44 = .ok (.goto (-24), 3) := by decide +kernel
theorem dX8_fit_47 : decode cX8_fit 47 = .ok (.bipush (-4), 2) := by decide +kernel
theorem dX8_fit_49 : decode cX8_fit 49 = .ok (.ireturn, 1) := by decide +kernel
theorem dX8_forgetFrom_0 : decode cX8_forgetFrom 0 = .ok (.aload_n 0, 1) := by decide +kernel
theorem dX8_forgetFrom_1 : decode cX8_forgetFrom 1 = .ok (.getfield 57, 3) := by decide +kernel
theorem dX8_forgetFrom_4 : decode cX8_forgetFrom 4 = .ok (.iload_n 1, 1) := by decide +kernel
theorem dX8_forgetFrom_5 : decode cX8_forgetFrom 5 = .ok (.invokevirtual 247, 3) := by decide +kernel
theorem dX8_forgetFrom_8 : decode cX8_forgetFrom 8 = .ok (.aload_n 0, 1) := by decide +kernel
theorem dX8_forgetFrom_9 : decode cX8_forgetFrom 9 = .ok (.iconst 1, 1) := by decide +kernel
theorem dX8_forgetFrom_10 : decode cX8_forgetFrom 10 = .ok (.putfield 78, 3) := by decide +kernel
theorem dX8_forgetFrom_13 : decode cX8_forgetFrom 13 = .ok (.return_, 1) := by decide +kernel
theorem dX8_init_0 : decode cX8_init 0 = .ok (.aload_n 0, 1) := by decide +kernel
theorem dX8_init_1 : decode cX8_init 1 = .ok (.invokespecial 1, 3) := by decide +kernel
theorem dX8_init_4 : decode cX8_init 4 = .ok (.aload_n 0, 1) := by decide +kernel
theorem dX8_init_5 : decode cX8_init 5 = .ok (.new 7, 3) := by decide +kernel
theorem dX8_init_8 : decode cX8_init 8 = .ok (.dup, 1) := by decide +kernel
theorem dX8_init_9 : decode cX8_init 9 = .ok (.invokespecial 9, 3) := by decide +kernel
theorem dX8_init_12 : decode cX8_init 12 = .ok (.putfield 10, 3) := by decide +kernel
theorem dX8_init_15 : decode cX8_init 15 = .ok (.aload_n 0, 1) := by decide +kernel
theorem dX8_init_16 : decode cX8_init 16 = .ok (.new 16, 3) := by decide +kernel
theorem dX8_init_19 : decode cX8_init 19 = .ok (.dup, 1) := by decide +kernel
theorem dX8_init_20 : decode cX8_init 20 = .ok (.invokespecial 18, 3) := by decide +kernel
theorem dX8_init_23 : decode cX8_init 23 = .ok (.putfield 19, 3) := by decide +kernel
theorem dX8_init_26 : decode cX8_init 26 = .ok (.aload_n 0, 1) := by decide +kernel
theorem dX8_init_27 : decode cX8_init 27 = .ok (.new 23, 3) := by decide +kernel
theorem dX8_init_30 : decode cX8_init 30 = .ok (.dup, 1) := by decide +kernel
theorem dX8_init_31 : decode cX8_init 31 = .ok (.aload_n 0, 1) := by decide +kernel
theorem dX8_init_32 : decode cX8_init 32 = .ok (.getfield 10, 3) := by decide +kernel
theorem dX8_init_35 : decode cX8_init 35 = .ok (.invokespecial 25, 3) := by decide +kernel
theorem dX8_init_38 : decode cX8_init 38 = .ok (.putfield 28, 3) := by decide +kernel
theorem dX8_init_41 : decode cX8_init 41 = .ok (.aload_n 0, 1) := by decide +kernel
theorem dX8_init_42 : decode cX8_init 42 = .ok (.new 32, 3) := by decide +kernel
theorem dX8_init_45 : decode cX8_init 45 = .ok (.dup, 1) := by decide +kernel
theorem dX8_init_46 : decode cX8_init 46 = .ok (.aload_n 0, 1) := by decide +kernel
theorem dX8_init_47 : decode cX8_init 47 = .ok (.getfield 10, 3) := by decide +kernel
theorem dX8_init_50 : decode cX8_init 50 = .ok (.invokespecial 34, 3) := by decide +kernel
theorem dX8_init_53 : decode cX8_init 53 = .ok (.putfield 35, 3) := by decide +kernel
theorem dX8_init_56 : decode cX8_init 56 = .ok (.aload_n 0, 1) := by decide +kernel
theorem dX8_init_57 : decode cX8_init 57 = .ok (.new 32, 3) := by decide +kernel
theorem dX8_init_60 : decode cX8_init 60 = .ok (.dup, 1) := by decide +kernel
theorem dX8_init_61 : decode cX8_init 61 = .ok (.aload_n 0, 1) := by decide +kernel
theorem dX8_init_62 : decode cX8_init 62 = .ok (.getfield 10, 3) := by decide +kernel
theorem dX8_init_65 : decode cX8_init 65 = .ok (.invokespecial 34, 3) := by decide +kernel
theorem dX8_init_68 : decode cX8_init 68 = .ok (.putfield 39, 3) := by decide +kernel
theorem dX8_init_71 : decode cX8_init 71 = .ok (.aload_n 0, 1) := by decide +kernel
theorem dX8_init_72 : decode cX8_init 72 = .ok (.new 42, 3) := by decide +kernel
theorem dX8_init_75 : decode cX8_init 75 = .ok (.dup, 1) := by decide +kernel
theorem dX8_init_76 : decode cX8_init 76 = .ok (.invokespecial 44, 3) := by decide +kernel
theorem dX8_init_79 : decode cX8_init 79 = .ok (.putfield 45, 3) := by decide +kernel
theorem dX8_init_82 : decode cX8_init 82 = .ok (.aload_n 0, 1) := by decide +kernel
theorem dX8_init_83 : decode cX8_init 83 = .ok (.new 42, 3) := by decide +kernel
theorem dX8_init_86 : decode cX8_init 86 = .ok (.dup, 1) := by decide +kernel
theorem dX8_init_87 : decode cX8_init 87 = .ok (.invokespecial 44, 3) := by decide +kernel
theorem dX8_init_90 : decode cX8_init 90 = .ok (.putfield 49, 3) := by decide +kernel
theorem dX8_init_93 : decode cX8_init 93 = .ok (.aload_n 0, 1) := by decide +kernel
theorem dX8_init_94 : decode cX8_init 94 = .ok (.new 52, 3) := by decide +kernel
theorem dX8_init_97 : decode cX8_init 97 = .ok (.dup, 1) := by decide +kernel
theorem dX8_init_98 : decode cX8_init 98 = .ok (.aload_n 0, 1) := by decide +kernel
theorem dX8_init_99 : decode cX8_init 99 = .ok (.getfield 10, 3) := by decide +kernel
theorem dX8_init_102 : decode cX8_init 102 = .ok (.aload_n 0, 1) := by decide +kernel
theorem dX8_init_103 : decode cX8_init 103 = .ok (.getfield 45, 3) := by decide +kernel
theorem dX8_init_106 : decode cX8_init 106 = .ok (.invokespecial 54, 3) := by decide +kernel
theorem dX8_init_109 : decode cX8_init 109 = .ok (.putfield 57, 3) := by decide +kernel
theorem dX8_init_112 : decode cX8_init 112 = .ok (.aload_n 0, 1) := by decide +kernel
theorem dX8_init_113 : decode cX8_init 113 = .ok (.new 52, 3) := by decide +kernel
theorem dX8_init_116 : decode cX8_init 116 = .ok (.dup, 1) := by decide +kernel
theorem dX8_init_117 : decode cX8_init 117 = .ok (.aload_n 0, 1) := by decide +kernel
theorem dX8_init_118 : decode cX8_init 118 = .ok (.getfield 10, 3) := by decide +kernel
theorem dX8_init_121 : decode cX8_init 121 = .ok (.aload_n 0, 1) := by decide +kernel
theorem dX8_init_122 : decode cX8_init 122 = .ok (.getfield 49, 3) := by decide +kernel
theorem dX8_init_125 : decode cX8_init 125 = .ok (.invokespecial 54, 3) := by decide +kernel
theorem dX8_init_128 : decode cX8_init 128 = .ok (.putfield 61, 3) := by decide +kernel
theorem dX8_init_131 : decode cX8_init 131 = .ok (.aload_n 0, 1) := by decide +kernel
theorem dX8_init_132 : decode cX8_init 132 = .ok (.new 64, 3) := by decide +kernel
theorem dX8_init_135 : decode cX8_init 135 = .ok (.dup, 1) := by decide +kernel
theorem dX8_init_136 : decode cX8_init 136 = .ok (.aload_n 0, 1) := by decide +kernel
theorem dX8_init_137 : decode cX8_init 137 = .ok (.getfield 10, 3) := by decide +kernel
theorem dX8_init_140 : decode cX8_init 140 = .ok (.invokespecial 66, 3) := by decide +kernel
theorem dX8_init_143 : decode cX8_init 143 = .ok (.putfield 67, 3) := by decide +kernel
theorem dX8_init_146 : decode cX8_init 146 = .ok (.aload_n 0, 1) := by decide +kernel
theorem dX8_init_147 : decode cX8_init 147 = .ok (.iconst 4, 1) := by decide +kernel
theorem dX8_init_148 : decode cX8_init 148 = .ok (.anewarray 71, 3) := by decide +kernel
theorem dX8_init_151 : decode cX8_init 151 = .ok (.putfield 73, 3) := by decide +kernel
theorem dX8_init_154 : decode cX8_init 154 = .ok (.iconst 0, 1) := by decide +kernel
theorem dX8_init_155 : decode cX8_init 155 = .ok (.istore_n 1, 1) := by decide +kernel
theorem dX8_init_156 : decode cX8_init 156 = .ok (.iload_n 1, 1) := by decide +kernel
theorem dX8_init_157 : decode cX8_init 157 = .ok (.iconst 4, 1) := by decide +kernel
theorem dX8_init_158 : decode cX8_init 158 = .ok (.if_icmp .ge 22, 3) := by decide +kernel
theorem dX8_init_161 : decode cX8_init 161 = .ok (.aload_n 0, 1) := by decide +kernel
theorem dX8_init_162 : decode cX8_init 162 = .ok (.getfield 73, 3) := by decide +kernel
theorem dX8_init_165 : decode cX8_init 165 = .ok (.iload_n 1, 1) := by decide +kernel
theorem dX8_init_166 : decode cX8_init 166 = .ok (.new 71, 3) := by decide +kernel
theorem dX8_init_169 : decode cX8_init 169 = .ok (.dup, 1) := by decide +kernel
theorem dX8_init_170 : decode cX8_init 170 = .ok (.invokespecial 77, 3) := by decide +kernel
theorem dX8_init_173 : decode cX8_init 173 = .ok (.aastore, 1) := by decide +kernel
theorem dX8_init_174 : decode cX8_init 174 = .ok (.iinc 1 1, 3) := by decide +kernel
theorem dX8_init_177 : decode cX8_init 177 = .ok (.goto (-21), 3) := by decide +kernel
theorem dX8_init_180 : decode cX8_init 180 = .ok (.aload_n 0, 1) := by decide +kernel
theorem dX8_init_181 : decode cX8_init 181 = .ok (.iconst 1, 1) := by decide +kernel
theorem dX8_init_182 : decode cX8_init 182 = .ok (.putfield 78, 3) := by decide +kernel
theorem dX8_init_185 : decode cX8_init 185 = .ok (.return_, 1) := by decide +kernel
theorem dX8_isLane_0 : decode cX8_isLane 0 = .ok (.iload_n 0, 1) := by decide +kernel
theorem dX8_isLane_1 : decode cX8_isLane 1 = .ok (.ifCond .lt 12, 3) := by decide +kernel
theorem dX8_isLane_4 : decode cX8_isLane 4 = .ok (.iload_n 0, 1) := by decide +kernel
theorem dX8_isLane_5 : decode cX8_isLane 5 = .ok (.iconst 3, 1) := by decide +kernel
theorem dX8_isLane_6 : decode cX8_isLane 6 = .ok (.if_icmp .ge 7, 3) := by decide +kernel
theorem dX8_isLane_9 : decode cX8_isLane 9 = .ok (.iconst 1, 1) := by decide +kernel
theorem dX8_isLane_10 : decode cX8_isLane 10 = .ok (.goto 4, 3) := by decide +kernel
theorem dX8_isLane_13 : decode cX8_isLane 13 = .ok (.iconst 0, 1) := by decide +kernel
theorem dX8_isLane_14 : decode cX8_isLane 14 = .ok (.ireturn, 1) := by decide +kernel
theorem dX8_isLawLength_0 : decode cX8_isLawLength 0 = .ok (.iload_n 0, 1) := by decide +kernel
theorem dX8_isLawLength_1 : decode cX8_isLawLength 1 = .ok (.iconst 2, 1) := by decide +kernel
theorem dX8_isLawLength_2 : decode cX8_isLawLength 2 = .ok (.if_icmp .lt 12, 3) := by decide +kernel
theorem dX8_isLawLength_5 : decode cX8_isLawLength 5 = .ok (.iload_n 0, 1) := by decide +kernel
theorem dX8_isLawLength_6 : decode cX8_isLawLength 6 = .ok (.iconst 4, 1) := by decide +kernel
theorem dX8_isLawLength_7 : decode cX8_isLawLength 7 = .ok (.if_icmp .gt 7, 3) := by decide +kernel
theorem dX8_isLawLength_10 : decode cX8_isLawLength 10 = .ok (.iconst 1, 1) := by decide +kernel
theorem dX8_isLawLength_11 : decode cX8_isLawLength 11 = .ok (.goto 4, 3) := by decide +kernel
theorem dX8_isLawLength_14 : decode cX8_isLawLength 14 = .ok (.iconst 0, 1) := by decide +kernel
theorem dX8_isLawLength_15 : decode cX8_isLawLength 15 = .ok (.ireturn, 1) := by decide +kernel
theorem dX8_isPrime_0 : decode cX8_isPrime 0 = .ok (.iload_n 0, 1) := by decide +kernel
theorem dX8_isPrime_1 : decode cX8_isPrime 1 = .ok (.iconst 2, 1) := by decide +kernel
theorem dX8_isPrime_2 : decode cX8_isPrime 2 = .ok (.if_icmp .lt 9, 3) := by decide +kernel
theorem dX8_isPrime_5 : decode cX8_isPrime 5 = .ok (.iload_n 0, 1) := by decide +kernel
theorem dX8_isPrime_6 : decode cX8_isPrime 6 = .ok (.bipush 97, 2) := by decide +kernel
theorem dX8_isPrime_8 : decode cX8_isPrime 8 = .ok (.if_icmp .le 5, 3) := by decide +kernel
theorem dX8_isPrime_11 : decode cX8_isPrime 11 = .ok (.iconst 0, 1) := by decide +kernel
theorem dX8_isPrime_12 : decode cX8_isPrime 12 = .ok (.ireturn, 1) := by decide +kernel
theorem dX8_isPrime_13 : decode cX8_isPrime 13 = .ok (.iconst 2, 1) := by decide +kernel
theorem dX8_isPrime_14 : decode cX8_isPrime 14 = .ok (.istore_n 1, 1) := by decide +kernel
theorem dX8_isPrime_15 : decode cX8_isPrime 15 = .ok (.iload_n 1, 1) := by decide +kernel
theorem dX8_isPrime_16 : decode cX8_isPrime 16 = .ok (.iload_n 1, 1) := by decide +kernel
theorem dX8_isPrime_17 : decode cX8_isPrime 17 = .ok (.imul, 1) := by decide +kernel
theorem dX8_isPrime_18 : decode cX8_isPrime 18 = .ok (.iload_n 0, 1) := by decide +kernel
theorem dX8_isPrime_19 : decode cX8_isPrime 19 = .ok (.if_icmp .gt 17, 3) := by decide +kernel
theorem dX8_isPrime_22 : decode cX8_isPrime 22 = .ok (.iload_n 0, 1) := by decide +kernel
theorem dX8_isPrime_23 : decode cX8_isPrime 23 = .ok (.iload_n 1, 1) := by decide +kernel
theorem dX8_isPrime_24 : decode cX8_isPrime 24 = .ok (.irem, 1) := by decide +kernel
theorem dX8_isPrime_25 : decode cX8_isPrime 25 = .ok (.ifCond .ne 5, 3) := by decide +kernel
theorem dX8_isPrime_28 : decode cX8_isPrime 28 = .ok (.iconst 0, 1) := by decide +kernel
theorem dX8_isPrime_29 : decode cX8_isPrime 29 = .ok (.ireturn, 1) := by decide +kernel
theorem dX8_isPrime_30 : decode cX8_isPrime 30 = .ok (.iinc 1 1, 3) := by decide +kernel
theorem dX8_isPrime_33 : decode cX8_isPrime 33 = .ok (.goto (-18), 3) := by decide +kernel
theorem dX8_isPrime_36 : decode cX8_isPrime 36 = .ok (.iconst 1, 1) := by decide +kernel
theorem dX8_isPrime_37 : decode cX8_isPrime 37 = .ok (.ireturn, 1) := by decide +kernel
theorem dX8_isSheet_0 : decode cX8_isSheet 0 = .ok (.iload_n 0, 1) := by decide +kernel
theorem dX8_isSheet_1 : decode cX8_isSheet 1 = .ok (.ifCond .lt 12, 3) := by decide +kernel
theorem dX8_isSheet_4 : decode cX8_isSheet 4 = .ok (.iload_n 0, 1) := by decide +kernel
theorem dX8_isSheet_5 : decode cX8_isSheet 5 = .ok (.iconst 4, 1) := by decide +kernel
theorem dX8_isSheet_6 : decode cX8_isSheet 6 = .ok (.if_icmp .ge 7, 3) := by decide +kernel
theorem dX8_isSheet_9 : decode cX8_isSheet 9 = .ok (.iconst 1, 1) := by decide +kernel
theorem dX8_isSheet_10 : decode cX8_isSheet 10 = .ok (.goto 4, 3) := by decide +kernel
theorem dX8_isSheet_13 : decode cX8_isSheet 13 = .ok (.iconst 0, 1) := by decide +kernel
theorem dX8_isSheet_14 : decode cX8_isSheet 14 = .ok (.ireturn, 1) := by decide +kernel
theorem dX8_item_0 : decode cX8_item 0 = .ok (.iload_n 1, 1) := by decide +kernel
theorem dX8_item_1 : decode cX8_item 1 = .ok (.invokestatic 220, 3) := by decide +kernel
theorem dX8_item_4 : decode cX8_item 4 = .ok (.ifCond .eq 10, 3) := by decide +kernel
theorem dX8_item_7 : decode cX8_item 7 = .ok (.iload_n 2, 1) := by decide +kernel
theorem dX8_item_8 : decode cX8_item 8 = .ok (.invokestatic 223, 3) := by decide +kernel
theorem dX8_item_11 : decode cX8_item 11 = .ok (.ifCond .ne 5, 3) := by decide +kernel
theorem dX8_item_14 : decode cX8_item 14 = .ok (.iconst (-1), 1) := by decide +kernel
theorem dX8_item_15 : decode cX8_item 15 = .ok (.ireturn, 1) := by decide +kernel
theorem dX8_item_16 : decode cX8_item 16 = .ok (.aload_n 0, 1) := by decide +kernel
theorem dX8_item_17 : decode cX8_item 17 = .ok (.getfield 73, 3) := by decide +kernel
theorem dX8_item_20 : decode cX8_item 20 = .ok (.iload_n 1, 1) := by decide +kernel
theorem dX8_item_21 : decode cX8_item 21 = .ok (.aaload, 1) := by decide +kernel
theorem dX8_item_22 : decode cX8_item 22 = .ok (.iload_n 2, 1) := by decide +kernel
theorem dX8_item_23 : decode cX8_item 23 = .ok (.iload_n 3, 1) := by decide +kernel
theorem dX8_item_24 : decode cX8_item 24 = .ok (.iconst 1, 1) := by decide +kernel
theorem dX8_item_25 : decode cX8_item 25 = .ok (.invokestatic 236, 3) := by decide +kernel
theorem dX8_item_28 : decode cX8_item 28 = .ok (.istore 5, 2) := by decide +kernel
theorem dX8_item_30 : decode cX8_item 30 = .ok (.iload 5, 2) := by decide +kernel
theorem dX8_item_32 : decode cX8_item 32 = .ok (.ifCond .eq 6, 3) := by decide +kernel
theorem dX8_item_35 : decode cX8_item 35 = .ok (.iload 5, 2) := by decide +kernel
theorem dX8_item_37 : decode cX8_item 37 = .ok (.ireturn, 1) := by decide +kernel
theorem dX8_item_38 : decode cX8_item 38 = .ok (.aload_n 0, 1) := by decide +kernel
theorem dX8_item_39 : decode cX8_item 39 = .ok (.getfield 73, 3) := by decide +kernel
theorem dX8_item_42 : decode cX8_item 42 = .ok (.iload_n 1, 1) := by decide +kernel
theorem dX8_item_43 : decode cX8_item 43 = .ok (.aaload, 1) := by decide +kernel
theorem dX8_item_44 : decode cX8_item 44 = .ok (.iload_n 3, 1) := by decide +kernel
theorem dX8_item_45 : decode cX8_item 45 = .ok (.iload 4, 2) := by decide +kernel
theorem dX8_item_47 : decode cX8_item 47 = .ok (.invokevirtual 240, 3) := by decide +kernel
theorem dX8_item_50 : decode cX8_item 50 = .ok (.iconst 1, 1) := by decide +kernel
theorem dX8_item_51 : decode cX8_item 51 = .ok (.ireturn, 1) := by decide +kernel
theorem dX8_law_0 : decode cX8_law 0 = .ok (.aload_n 0, 1) := by decide +kernel
theorem dX8_law_1 : decode cX8_law 1 = .ok (.invokevirtual 112, 3) := by decide +kernel
theorem dX8_law_4 : decode cX8_law 4 = .ok (.istore_n 1, 1) := by decide +kernel
theorem dX8_law_5 : decode cX8_law 5 = .ok (.iload_n 1, 1) := by decide +kernel
theorem dX8_law_6 : decode cX8_law 6 = .ok (.ifCond .eq 5, 3) := by decide +kernel
theorem dX8_law_9 : decode cX8_law 9 = .ok (.iload_n 1, 1) := by decide +kernel
theorem dX8_law_10 : decode cX8_law 10 = .ok (.ireturn, 1) := by decide +kernel
theorem dX8_law_11 : decode cX8_law 11 = .ok (.aload_n 0, 1) := by decide +kernel
theorem dX8_law_12 : decode cX8_law 12 = .ok (.getfield 39, 3) := by decide +kernel
theorem dX8_law_15 : decode cX8_law 15 = .ok (.invokevirtual 115, 3) := by decide +kernel
theorem dX8_law_18 : decode cX8_law 18 = .ok (.istore_n 2, 1) := by decide +kernel
theorem dX8_law_19 : decode cX8_law 19 = .ok (.iload_n 2, 1) := by decide +kernel
theorem dX8_law_20 : decode cX8_law 20 = .ok (.invokestatic 118, 3) := by decide +kernel
theorem dX8_law_23 : decode cX8_law 23 = .ok (.ifCond .ne 6, 3) := by decide +kernel
theorem dX8_law_26 : decode cX8_law 26 = .ok (.bipush (-2), 2) := by decide +kernel
theorem dX8_law_28 : decode cX8_law 28 = .ok (.ireturn, 1) := by decide +kernel
theorem dX8_law_29 : decode cX8_law 29 = .ok (.aload_n 0, 1) := by decide +kernel
theorem dX8_law_30 : decode cX8_law 30 = .ok (.getfield 45, 3) := by decide +kernel
theorem dX8_law_33 : decode cX8_law 33 = .ok (.invokevirtual 121, 3) := by decide +kernel
theorem dX8_law_36 : decode cX8_law 36 = .ok (.bipush 8, 2) := by decide +kernel
theorem dX8_law_38 : decode cX8_law 38 = .ok (.if_icmp .lt 6, 3) := by decide +kernel
theorem dX8_law_41 : decode cX8_law 41 = .ok (.bipush (-3), 2) := by decide +kernel
theorem dX8_law_43 : decode cX8_law 43 = .ok (.ireturn, 1) := by decide +kernel
theorem dX8_law_44 : decode cX8_law 44 = .ok (.aload_n 0, 1) := by decide +kernel
theorem dX8_law_45 : decode cX8_law 45 = .ok (.iload_n 2, 1) := by decide +kernel
theorem dX8_law_46 : decode cX8_law 46 = .ok (.invokevirtual 122, 3) := by decide +kernel
theorem dX8_law_49 : decode cX8_law 49 = .ok (.ireturn, 1) := by decide +kernel
theorem dX8_laws_0 : decode cX8_laws 0 = .ok (.iload_n 1, 1) := by decide +kernel
theorem dX8_laws_1 : decode cX8_laws 1 = .ok (.invokestatic 220, 3) := by decide +kernel
theorem dX8_laws_4 : decode cX8_laws 4 = .ok (.ifCond .eq 18, 3) := by decide +kernel
theorem dX8_laws_7 : decode cX8_laws 7 = .ok (.iload_n 2, 1) := by decide +kernel
theorem dX8_laws_8 : decode cX8_laws 8 = .ok (.invokestatic 223, 3) := by decide +kernel
theorem dX8_laws_11 : decode cX8_laws 11 = .ok (.ifCond .eq 11, 3) := by decide +kernel
theorem dX8_laws_14 : decode cX8_laws 14 = .ok (.iload 4, 2) := by decide +kernel
theorem dX8_laws_16 : decode cX8_laws 16 = .ok (.invokestatic 118, 3) := by decide +kernel
theorem dX8_laws_19 : decode cX8_laws 19 = .ok (.ifCond .ne 5, 3) := by decide +kernel
theorem dX8_laws_22 : decode cX8_laws 22 = .ok (.iconst (-1), 1) := by decide +kernel
theorem dX8_laws_23 : decode cX8_laws 23 = .ok (.ireturn, 1) := by decide +kernel
theorem dX8_laws_24 : decode cX8_laws 24 = .ok (.aload_n 0, 1) := by decide +kernel
theorem dX8_laws_25 : decode cX8_laws 25 = .ok (.getfield 10, 3) := by decide +kernel
theorem dX8_laws_28 : decode cX8_laws 28 = .ok (.iload 4, 2) := by decide +kernel
theorem dX8_laws_30 : decode cX8_laws 30 = .ok (.invokevirtual 198, 3) := by decide +kernel
theorem dX8_laws_33 : decode cX8_laws 33 = .ok (.istore 5, 2) := by decide +kernel
theorem dX8_laws_35 : decode cX8_laws 35 = .ok (.aload_n 0, 1) := by decide +kernel
theorem dX8_laws_36 : decode cX8_laws 36 = .ok (.getfield 73, 3) := by decide +kernel
theorem dX8_laws_39 : decode cX8_laws 39 = .ok (.iload_n 1, 1) := by decide +kernel
theorem dX8_laws_40 : decode cX8_laws 40 = .ok (.aaload, 1) := by decide +kernel
theorem dX8_laws_41 : decode cX8_laws 41 = .ok (.iload_n 2, 1) := by decide +kernel
theorem dX8_laws_42 : decode cX8_laws 42 = .ok (.iload_n 3, 1) := by decide +kernel
theorem dX8_laws_43 : decode cX8_laws 43 = .ok (.iload 5, 2) := by decide +kernel
theorem dX8_laws_45 : decode cX8_laws 45 = .ok (.invokestatic 236, 3) := by decide +kernel
theorem dX8_laws_48 : decode cX8_laws 48 = .ok (.istore 6, 2) := by decide +kernel
theorem dX8_laws_50 : decode cX8_laws 50 = .ok (.iload 6, 2) := by decide +kernel
theorem dX8_laws_52 : decode cX8_laws 52 = .ok (.ifCond .eq 6, 3) := by decide +kernel
theorem dX8_laws_55 : decode cX8_laws 55 = .ok (.iload 6, 2) := by decide +kernel
theorem dX8_laws_57 : decode cX8_laws 57 = .ok (.ireturn, 1) := by decide +kernel
theorem dX8_laws_58 : decode cX8_laws 58 = .ok (.aload_n 0, 1) := by decide +kernel
theorem dX8_laws_59 : decode cX8_laws 59 = .ok (.aload_n 0, 1) := by decide +kernel
theorem dX8_laws_60 : decode cX8_laws 60 = .ok (.getfield 73, 3) := by decide +kernel
theorem dX8_laws_63 : decode cX8_laws 63 = .ok (.iload_n 1, 1) := by decide +kernel
theorem dX8_laws_64 : decode cX8_laws 64 = .ok (.aaload, 1) := by decide +kernel
theorem dX8_laws_65 : decode cX8_laws 65 = .ok (.iload_n 3, 1) := by decide +kernel
theorem dX8_laws_66 : decode cX8_laws 66 = .ok (.iload 4, 2) := by decide +kernel
theorem dX8_laws_68 : decode cX8_laws 68 = .ok (.invokevirtual 243, 3) := by decide +kernel
theorem dX8_laws_71 : decode cX8_laws 71 = .ok (.aload_n 0, 1) := by decide +kernel
theorem dX8_laws_72 : decode cX8_laws 72 = .ok (.getfield 39, 3) := by decide +kernel
theorem dX8_laws_75 : decode cX8_laws 75 = .ok (.iload 4, 2) := by decide +kernel
theorem dX8_laws_77 : decode cX8_laws 77 = .ok (.invokevirtual 205, 3) := by decide +kernel
theorem dX8_laws_80 : decode cX8_laws 80 = .ok (.ifCond .ne 6, 3) := by decide +kernel
theorem dX8_laws_83 : decode cX8_laws 83 = .ok (.bipush (-2), 2) := by decide +kernel
theorem dX8_laws_85 : decode cX8_laws 85 = .ok (.ireturn, 1) := by decide +kernel
theorem dX8_laws_86 : decode cX8_laws 86 = .ok (.aload_n 0, 1) := by decide +kernel
theorem dX8_laws_87 : decode cX8_laws 87 = .ok (.getfield 45, 3) := by decide +kernel
theorem dX8_laws_90 : decode cX8_laws 90 = .ok (.invokevirtual 121, 3) := by decide +kernel
theorem dX8_laws_93 : decode cX8_laws 93 = .ok (.bipush 8, 2) := by decide +kernel
theorem dX8_laws_95 : decode cX8_laws 95 = .ok (.if_icmp .lt 6, 3) := by decide +kernel
theorem dX8_laws_98 : decode cX8_laws 98 = .ok (.bipush (-3), 2) := by decide +kernel
theorem dX8_laws_100 : decode cX8_laws 100 = .ok (.ireturn, 1) := by decide +kernel
theorem dX8_laws_101 : decode cX8_laws 101 = .ok (.aload_n 0, 1) := by decide +kernel
theorem dX8_laws_102 : decode cX8_laws 102 = .ok (.iload 4, 2) := by decide +kernel
theorem dX8_laws_104 : decode cX8_laws 104 = .ok (.invokevirtual 122, 3) := by decide +kernel
theorem dX8_laws_107 : decode cX8_laws 107 = .ok (.ireturn, 1) := by decide +kernel
theorem dX8_leads_0 : decode cX8_leads 0 = .ok (.aload_n 0, 1) := by decide +kernel
theorem dX8_leads_1 : decode cX8_leads 1 = .ok (.getfield 10, 3) := by decide +kernel
theorem dX8_leads_4 : decode cX8_leads 4 = .ok (.iload_n 1, 1) := by decide +kernel
theorem dX8_leads_5 : decode cX8_leads 5 = .ok (.iload_n 2, 1) := by decide +kernel
theorem dX8_leads_6 : decode cX8_leads 6 = .ok (.invokevirtual 132, 3) := by decide +kernel
theorem dX8_leads_9 : decode cX8_leads 9 = .ok (.ifCond .ne 5, 3) := by decide +kernel
theorem dX8_leads_12 : decode cX8_leads 12 = .ok (.iconst (-1), 1) := by decide +kernel
theorem dX8_leads_13 : decode cX8_leads 13 = .ok (.ireturn, 1) := by decide +kernel
theorem dX8_leads_14 : decode cX8_leads 14 = .ok (.aload_n 0, 1) := by decide +kernel
theorem dX8_leads_15 : decode cX8_leads 15 = .ok (.getfield 57, 3) := by decide +kernel
theorem dX8_leads_18 : decode cX8_leads 18 = .ok (.iload_n 1, 1) := by decide +kernel
theorem dX8_leads_19 : decode cX8_leads 19 = .ok (.iload_n 2, 1) := by decide +kernel
theorem dX8_leads_20 : decode cX8_leads 20 = .ok (.invokevirtual 158, 3) := by decide +kernel
theorem dX8_leads_23 : decode cX8_leads 23 = .ok (.ifCond .eq 7, 3) := by decide +kernel
theorem dX8_leads_26 : decode cX8_leads 26 = .ok (.iconst 1, 1) := by decide +kernel
theorem dX8_leads_27 : decode cX8_leads 27 = .ok (.goto 4, 3) := by decide +kernel
theorem dX8_leads_30 : decode cX8_leads 30 = .ok (.iconst 0, 1) := by decide +kernel
theorem dX8_leads_31 : decode cX8_leads 31 = .ok (.ireturn, 1) := by decide +kernel
theorem dX8_least_0 : decode cX8_least 0 = .ok (.iload_n 1, 1) := by decide +kernel
theorem dX8_least_1 : decode cX8_least 1 = .ok (.ifCond .lt 12, 3) := by decide +kernel
theorem dX8_least_4 : decode cX8_least 4 = .ok (.iload_n 2, 1) := by decide +kernel
theorem dX8_least_5 : decode cX8_least 5 = .ok (.ifCond .lt 8, 3) := by decide +kernel
theorem dX8_least_8 : decode cX8_least 8 = .ok (.iload_n 2, 1) := by decide +kernel
theorem dX8_least_9 : decode cX8_least 9 = .ok (.iconst 2, 1) := by decide +kernel
theorem dX8_least_10 : decode cX8_least 10 = .ok (.if_icmp .le 5, 3) := by decide +kernel
theorem dX8_least_13 : decode cX8_least 13 = .ok (.iconst (-1), 1) := by decide +kernel
theorem dX8_least_14 : decode cX8_least 14 = .ok (.ireturn, 1) := by decide +kernel
theorem dX8_least_15 : decode cX8_least 15 = .ok (.iload_n 1, 1) := by decide +kernel
theorem dX8_least_16 : decode cX8_least 16 = .ok (.istore_n 3, 1) := by decide +kernel
theorem dX8_least_17 : decode cX8_least 17 = .ok (.iconst 0, 1) := by decide +kernel
theorem dX8_least_18 : decode cX8_least 18 = .ok (.istore 4, 2) := by decide +kernel
theorem dX8_least_20 : decode cX8_least 20 = .ok (.iload 4, 2) := by decide +kernel
theorem dX8_least_22 : decode cX8_least 22 = .ok (.aload_n 0, 1) := by decide +kernel
theorem dX8_least_23 : decode cX8_least 23 = .ok (.getfield 10, 3) := by decide +kernel
theorem dX8_least_26 : decode cX8_least 26 = .ok (.invokevirtual 98, 3) := by decide +kernel
theorem dX8_least_29 : decode cX8_least 29 = .ok (.if_icmp .gt 49, 3) := by decide +kernel
theorem dX8_least_32 : decode cX8_least 32 = .ok (.aload_n 0, 1) := by decide +kernel
theorem dX8_least_33 : decode cX8_least 33 = .ok (.getfield 57, 3) := by decide +kernel
theorem dX8_least_36 : decode cX8_least 36 = .ok (.iload 4, 2) := by decide +kernel
theorem dX8_least_38 : decode cX8_least 38 = .ok (.invokevirtual 168, 3) := by decide +kernel
theorem dX8_least_41 : decode cX8_least 41 = .ok (.istore 5, 2) := by decide +kernel
theorem dX8_least_43 : decode cX8_least 43 = .ok (.iload_n 3, 1) := by decide +kernel
theorem dX8_least_44 : decode cX8_least 44 = .ok (.iload 5, 2) := by decide +kernel
theorem dX8_least_46 : decode cX8_least 46 = .ok (.if_icmp .ge 21, 3) := by decide +kernel
theorem dX8_least_49 : decode cX8_least 49 = .ok (.aload_n 0, 1) := by decide +kernel
theorem dX8_least_50 : decode cX8_least 50 = .ok (.iload 4, 2) := by decide +kernel
theorem dX8_least_52 : decode cX8_least 52 = .ok (.aload_n 0, 1) := by decide +kernel
theorem dX8_least_53 : decode cX8_least 53 = .ok (.getfield 57, 3) := by decide +kernel
theorem dX8_least_56 : decode cX8_least 56 = .ok (.iload 4, 2) := by decide +kernel
theorem dX8_least_58 : decode cX8_least 58 = .ok (.iload_n 3, 1) := by decide +kernel
theorem dX8_least_59 : decode cX8_least 59 = .ok (.invokevirtual 171, 3) := by decide +kernel
theorem dX8_least_62 : decode cX8_least 62 = .ok (.iload_n 2, 1) := by decide +kernel
theorem dX8_least_63 : decode cX8_least 63 = .ok (.invokevirtual 174, 3) := by decide +kernel
theorem dX8_least_66 : decode cX8_least 66 = .ok (.ireturn, 1) := by decide +kernel
theorem dX8_least_67 : decode cX8_least 67 = .ok (.iload_n 3, 1) := by decide +kernel
theorem dX8_least_68 : decode cX8_least 68 = .ok (.iload 5, 2) := by decide +kernel
theorem dX8_least_70 : decode cX8_least 70 = .ok (.isub, 1) := by decide +kernel
theorem dX8_least_71 : decode cX8_least 71 = .ok (.istore_n 3, 1) := by decide +kernel
theorem dX8_least_72 : decode cX8_least 72 = .ok (.iinc 4 1, 3) := by decide +kernel
theorem dX8_least_75 : decode cX8_least 75 = .ok (.goto (-55), 3) := by decide +kernel
theorem dX8_least_78 : decode cX8_least 78 = .ok (.iconst (-1), 1) := by decide +kernel
theorem dX8_least_79 : decode cX8_least 79 = .ok (.ireturn, 1) := by decide +kernel
theorem dX8_middle_0 : decode cX8_middle 0 = .ok (.aload_n 0, 1) := by decide +kernel
theorem dX8_middle_1 : decode cX8_middle 1 = .ok (.getfield 10, 3) := by decide +kernel
theorem dX8_middle_4 : decode cX8_middle 4 = .ok (.iload_n 1, 1) := by decide +kernel
theorem dX8_middle_5 : decode cX8_middle 5 = .ok (.invokevirtual 152, 3) := by decide +kernel
theorem dX8_middle_8 : decode cX8_middle 8 = .ok (.ifCond .eq 29, 3) := by decide +kernel
theorem dX8_middle_11 : decode cX8_middle 11 = .ok (.iload_n 1, 1) := by decide +kernel
theorem dX8_middle_12 : decode cX8_middle 12 = .ok (.aload_n 0, 1) := by decide +kernel
theorem dX8_middle_13 : decode cX8_middle 13 = .ok (.getfield 10, 3) := by decide +kernel
theorem dX8_middle_16 : decode cX8_middle 16 = .ok (.invokevirtual 98, 3) := by decide +kernel
theorem dX8_middle_19 : decode cX8_middle 19 = .ok (.if_icmp .ge 18, 3) := by decide +kernel
theorem dX8_middle_22 : decode cX8_middle 22 = .ok (.aload_n 0, 1) := by decide +kernel
theorem dX8_middle_23 : decode cX8_middle 23 = .ok (.getfield 57, 3) := by decide +kernel
theorem dX8_middle_26 : decode cX8_middle 26 = .ok (.iload_n 1, 1) := by decide +kernel
theorem dX8_middle_27 : decode cX8_middle 27 = .ok (.aload_n 0, 1) := by decide +kernel
theorem dX8_middle_28 : decode cX8_middle 28 = .ok (.getfield 67, 3) := by decide +kernel
theorem dX8_middle_31 : decode cX8_middle 31 = .ok (.invokevirtual 180, 3) := by decide +kernel
theorem dX8_middle_34 : decode cX8_middle 34 = .ok (.goto 4, 3) := by decide +kernel
theorem dX8_middle_37 : decode cX8_middle 37 = .ok (.iconst (-1), 1) := by decide +kernel
theorem dX8_middle_38 : decode cX8_middle 38 = .ok (.ireturn, 1) := by decide +kernel
theorem dX8_normal_0 : decode cX8_normal 0 = .ok (.aload_n 0, 1) := by decide +kernel
theorem dX8_normal_1 : decode cX8_normal 1 = .ok (.getfield 10, 3) := by decide +kernel
theorem dX8_normal_4 : decode cX8_normal 4 = .ok (.iload_n 1, 1) := by decide +kernel
theorem dX8_normal_5 : decode cX8_normal 5 = .ok (.invokevirtual 152, 3) := by decide +kernel
theorem dX8_normal_8 : decode cX8_normal 8 = .ok (.ifCond .eq 14, 3) := by decide +kernel
theorem dX8_normal_11 : decode cX8_normal 11 = .ok (.aload_n 0, 1) := by decide +kernel
theorem dX8_normal_12 : decode cX8_normal 12 = .ok (.getfield 57, 3) := by decide +kernel
theorem dX8_normal_15 : decode cX8_normal 15 = .ok (.iload_n 1, 1) := by decide +kernel
theorem dX8_normal_16 : decode cX8_normal 16 = .ok (.invokevirtual 155, 3) := by decide +kernel
theorem dX8_normal_19 : decode cX8_normal 19 = .ok (.goto 4, 3) := by decide +kernel
theorem dX8_normal_22 : decode cX8_normal 22 = .ok (.iconst (-1), 1) := by decide +kernel
theorem dX8_normal_23 : decode cX8_normal 23 = .ok (.ireturn, 1) := by decide +kernel
theorem dX8_other_0 : decode cX8_other 0 = .ok (.aload_n 0, 1) := by decide +kernel
theorem dX8_other_1 : decode cX8_other 1 = .ok (.getfield 10, 3) := by decide +kernel
theorem dX8_other_4 : decode cX8_other 4 = .ok (.iload_n 1, 1) := by decide +kernel
theorem dX8_other_5 : decode cX8_other 5 = .ok (.invokevirtual 152, 3) := by decide +kernel
theorem dX8_other_8 : decode cX8_other 8 = .ok (.ifCond .ne 5, 3) := by decide +kernel
theorem dX8_other_11 : decode cX8_other 11 = .ok (.iconst (-1), 1) := by decide +kernel
theorem dX8_other_12 : decode cX8_other 12 = .ok (.ireturn, 1) := by decide +kernel
theorem dX8_other_13 : decode cX8_other 13 = .ok (.aload_n 0, 1) := by decide +kernel
theorem dX8_other_14 : decode cX8_other 14 = .ok (.getfield 45, 3) := by decide +kernel
theorem dX8_other_17 : decode cX8_other 17 = .ok (.iconst 2, 1) := by decide +kernel
theorem dX8_other_18 : decode cX8_other 18 = .ok (.invokevirtual 184, 3) := by decide +kernel
theorem dX8_other_21 : decode cX8_other 21 = .ok (.ifCond .ne 6, 3) := by decide +kernel
theorem dX8_other_24 : decode cX8_other 24 = .ok (.bipush (-2), 2) := by decide +kernel
theorem dX8_other_26 : decode cX8_other 26 = .ok (.ireturn, 1) := by decide +kernel
theorem dX8_other_27 : decode cX8_other 27 = .ok (.aload_n 0, 1) := by decide +kernel
theorem dX8_other_28 : decode cX8_other 28 = .ok (.invokevirtual 187, 3) := by decide +kernel
theorem dX8_other_31 : decode cX8_other 31 = .ok (.aload_n 0, 1) := by decide +kernel
theorem dX8_other_32 : decode cX8_other 32 = .ok (.getfield 61, 3) := by decide +kernel
theorem dX8_other_35 : decode cX8_other 35 = .ok (.iload_n 1, 1) := by decide +kernel
theorem dX8_other_36 : decode cX8_other 36 = .ok (.invokevirtual 155, 3) := by decide +kernel
theorem dX8_other_39 : decode cX8_other 39 = .ok (.ireturn, 1) := by decide +kernel
theorem dX8_part_0 : decode cX8_part 0 = .ok (.aload_n 0, 1) := by decide +kernel
theorem dX8_part_1 : decode cX8_part 1 = .ok (.getfield 10, 3) := by decide +kernel
theorem dX8_part_4 : decode cX8_part 4 = .ok (.iload_n 1, 1) := by decide +kernel
theorem dX8_part_5 : decode cX8_part 5 = .ok (.iload_n 2, 1) := by decide +kernel
theorem dX8_part_6 : decode cX8_part 6 = .ok (.invokevirtual 132, 3) := by decide +kernel
theorem dX8_part_9 : decode cX8_part 9 = .ok (.ifCond .eq 15, 3) := by decide +kernel
theorem dX8_part_12 : decode cX8_part 12 = .ok (.aload_n 0, 1) := by decide +kernel
theorem dX8_part_13 : decode cX8_part 13 = .ok (.getfield 35, 3) := by decide +kernel
theorem dX8_part_16 : decode cX8_part 16 = .ok (.iload_n 1, 1) := by decide +kernel
theorem dX8_part_17 : decode cX8_part 17 = .ok (.iload_n 2, 1) := by decide +kernel
theorem dX8_part_18 : decode cX8_part 18 = .ok (.invokevirtual 197, 3) := by decide +kernel
theorem dX8_part_21 : decode cX8_part 21 = .ok (.goto 4, 3) := by decide +kernel
theorem dX8_part_24 : decode cX8_part 24 = .ok (.iconst (-1), 1) := by decide +kernel
theorem dX8_part_25 : decode cX8_part 25 = .ok (.ireturn, 1) := by decide +kernel
theorem dX8_plain_0 : decode cX8_plain 0 = .ok (.aload_n 0, 1) := by decide +kernel
theorem dX8_plain_1 : decode cX8_plain 1 = .ok (.getfield 10, 3) := by decide +kernel
theorem dX8_plain_4 : decode cX8_plain 4 = .ok (.iload_n 1, 1) := by decide +kernel
theorem dX8_plain_5 : decode cX8_plain 5 = .ok (.iload_n 2, 1) := by decide +kernel
theorem dX8_plain_6 : decode cX8_plain 6 = .ok (.invokevirtual 132, 3) := by decide +kernel
theorem dX8_plain_9 : decode cX8_plain 9 = .ok (.ifCond .eq 15, 3) := by decide +kernel
theorem dX8_plain_12 : decode cX8_plain 12 = .ok (.aload_n 0, 1) := by decide +kernel
theorem dX8_plain_13 : decode cX8_plain 13 = .ok (.getfield 10, 3) := by decide +kernel
theorem dX8_plain_16 : decode cX8_plain 16 = .ok (.iload_n 1, 1) := by decide +kernel
theorem dX8_plain_17 : decode cX8_plain 17 = .ok (.iload_n 3, 1) := by decide +kernel
theorem dX8_plain_18 : decode cX8_plain 18 = .ok (.invokevirtual 132, 3) := by decide +kernel
theorem dX8_plain_21 : decode cX8_plain 21 = .ok (.ifCond .ne 5, 3) := by decide +kernel
theorem dX8_plain_24 : decode cX8_plain 24 = .ok (.iconst (-1), 1) := by decide +kernel
theorem dX8_plain_25 : decode cX8_plain 25 = .ok (.ireturn, 1) := by decide +kernel
theorem dX8_plain_26 : decode cX8_plain 26 = .ok (.aload_n 0, 1) := by decide +kernel
theorem dX8_plain_27 : decode cX8_plain 27 = .ok (.getfield 57, 3) := by decide +kernel
theorem dX8_plain_30 : decode cX8_plain 30 = .ok (.iload_n 1, 1) := by decide +kernel
theorem dX8_plain_31 : decode cX8_plain 31 = .ok (.iload_n 2, 1) := by decide +kernel
theorem dX8_plain_32 : decode cX8_plain 32 = .ok (.iload_n 3, 1) := by decide +kernel
theorem dX8_plain_33 : decode cX8_plain 33 = .ok (.invokevirtual 164, 3) := by decide +kernel
theorem dX8_plain_36 : decode cX8_plain 36 = .ok (.ireturn, 1) := by decide +kernel
theorem dX8_product_0 : decode cX8_product 0 = .ok (.aload_n 0, 1) := by decide +kernel
theorem dX8_product_1 : decode cX8_product 1 = .ok (.getfield 10, 3) := by decide +kernel
theorem dX8_product_4 : decode cX8_product 4 = .ok (.iload_n 1, 1) := by decide +kernel
theorem dX8_product_5 : decode cX8_product 5 = .ok (.invokevirtual 152, 3) := by decide +kernel
theorem dX8_product_8 : decode cX8_product 8 = .ok (.ifCond .eq 29, 3) := by decide +kernel
theorem dX8_product_11 : decode cX8_product 11 = .ok (.aload_n 0, 1) := by decide +kernel
theorem dX8_product_12 : decode cX8_product 12 = .ok (.getfield 10, 3) := by decide +kernel
theorem dX8_product_15 : decode cX8_product 15 = .ok (.iload_n 3, 1) := by decide +kernel
theorem dX8_product_16 : decode cX8_product 16 = .ok (.invokevirtual 152, 3) := by decide +kernel
theorem dX8_product_19 : decode cX8_product 19 = .ok (.ifCond .eq 18, 3) := by decide +kernel
theorem dX8_product_22 : decode cX8_product 22 = .ok (.aload_n 0, 1) := by decide +kernel
theorem dX8_product_23 : decode cX8_product 23 = .ok (.getfield 10, 3) := by decide +kernel
theorem dX8_product_26 : decode cX8_product 26 = .ok (.iload_n 1, 1) := by decide +kernel
theorem dX8_product_27 : decode cX8_product 27 = .ok (.iload_n 3, 1) := by decide +kernel
theorem dX8_product_28 : decode cX8_product 28 = .ok (.iadd, 1) := by decide +kernel
theorem dX8_product_29 : decode cX8_product 29 = .ok (.iload 5, 2) := by decide +kernel
theorem dX8_product_31 : decode cX8_product 31 = .ok (.invokevirtual 132, 3) := by decide +kernel
theorem dX8_product_34 : decode cX8_product 34 = .ok (.ifCond .ne 5, 3) := by decide +kernel
theorem dX8_product_37 : decode cX8_product 37 = .ok (.iconst (-1), 1) := by decide +kernel
theorem dX8_product_38 : decode cX8_product 38 = .ok (.ireturn, 1) := by decide +kernel
theorem dX8_product_39 : decode cX8_product 39 = .ok (.iload_n 2, 1) := by decide +kernel
theorem dX8_product_40 : decode cX8_product 40 = .ok (.ifCond .lt 33, 3) := by decide +kernel
theorem dX8_product_43 : decode cX8_product 43 = .ok (.iload_n 2, 1) := by decide +kernel
theorem dX8_product_44 : decode cX8_product 44 = .ok (.aload_n 0, 1) := by decide +kernel
theorem dX8_product_45 : decode cX8_product 45 = .ok (.getfield 57, 3) := by decide +kernel
theorem dX8_product_48 : decode cX8_product 48 = .ok (.iload_n 1, 1) := by decide +kernel
theorem dX8_product_49 : decode cX8_product 49 = .ok (.invokevirtual 155, 3) := by decide +kernel
theorem dX8_product_52 : decode cX8_product 52 = .ok (.if_icmp .ge 21, 3) := by decide +kernel
theorem dX8_product_55 : decode cX8_product 55 = .ok (.iload 4, 2) := by decide +kernel
theorem dX8_product_57 : decode cX8_product 57 = .ok (.ifCond .lt 16, 3) := by decide +kernel
theorem dX8_product_60 : decode cX8_product 60 = .ok (.iload 4, 2) := by decide +kernel
theorem dX8_product_62 : decode cX8_product 62 = .ok (.aload_n 0, 1) := by decide +kernel
theorem dX8_product_63 : decode cX8_product 63 = .ok (.getfield 57, 3) := by decide +kernel
theorem dX8_product_66 : decode cX8_product 66 = .ok (.iload_n 3, 1) := by decide +kernel
theorem dX8_product_67 : decode cX8_product 67 = .ok (.invokevirtual 155, 3) := by decide +kernel
theorem dX8_product_70 : decode cX8_product 70 = .ok (.if_icmp .lt 5, 3) := by decide +kernel
theorem dX8_product_73 : decode cX8_product 73 = .ok (.iconst (-1), 1) := by decide +kernel
theorem dX8_product_74 : decode cX8_product 74 = .ok (.ireturn, 1) := by decide +kernel
theorem dX8_product_75 : decode cX8_product 75 = .ok (.aload_n 0, 1) := by decide +kernel
theorem dX8_product_76 : decode cX8_product 76 = .ok (.getfield 10, 3) := by decide +kernel
theorem dX8_product_79 : decode cX8_product 79 = .ok (.aload_n 0, 1) := by decide +kernel
theorem dX8_product_80 : decode cX8_product 80 = .ok (.getfield 57, 3) := by decide +kernel
theorem dX8_product_83 : decode cX8_product 83 = .ok (.iload_n 1, 1) := by decide +kernel
theorem dX8_product_84 : decode cX8_product 84 = .ok (.iload_n 2, 1) := by decide +kernel
theorem dX8_product_85 : decode cX8_product 85 = .ok (.invokevirtual 161, 3) := by decide +kernel
theorem dX8_product_88 : decode cX8_product 88 = .ok (.iload_n 3, 1) := by decide +kernel
theorem dX8_product_89 : decode cX8_product 89 = .ok (.aload_n 0, 1) := by decide +kernel
theorem dX8_product_90 : decode cX8_product 90 = .ok (.getfield 57, 3) := by decide +kernel
theorem dX8_product_93 : decode cX8_product 93 = .ok (.iload_n 3, 1) := by decide +kernel
theorem dX8_product_94 : decode cX8_product 94 = .ok (.iload 4, 2) := by decide +kernel
theorem dX8_product_96 : decode cX8_product 96 = .ok (.invokevirtual 161, 3) := by decide +kernel
theorem dX8_product_99 : decode cX8_product 99 = .ok (.invokevirtual 177, 3) := by decide +kernel
theorem dX8_product_102 : decode cX8_product 102 = .ok (.istore 6, 2) := by decide +kernel
theorem dX8_product_104 : decode cX8_product 104 = .ok (.aload_n 0, 1) := by decide +kernel
theorem dX8_product_105 : decode cX8_product 105 = .ok (.getfield 57, 3) := by decide +kernel
theorem dX8_product_108 : decode cX8_product 108 = .ok (.iload_n 1, 1) := by decide +kernel
theorem dX8_product_109 : decode cX8_product 109 = .ok (.iload_n 3, 1) := by decide +kernel
theorem dX8_product_110 : decode cX8_product 110 = .ok (.iadd, 1) := by decide +kernel
theorem dX8_product_111 : decode cX8_product 111 = .ok (.iload 5, 2) := by decide +kernel
theorem dX8_product_113 : decode cX8_product 113 = .ok (.iload 6, 2) := by decide +kernel
theorem dX8_product_115 : decode cX8_product 115 = .ok (.invokevirtual 164, 3) := by decide +kernel
theorem dX8_product_118 : decode cX8_product 118 = .ok (.ireturn, 1) := by decide +kernel
theorem dX8_put_0 : decode cX8_put 0 = .ok (.iload_n 1, 1) := by decide +kernel
theorem dX8_put_1 : decode cX8_put 1 = .ok (.ifCond .lt 23, 3) := by decide +kernel
theorem dX8_put_4 : decode cX8_put 4 = .ok (.iload_n 1, 1) := by decide +kernel
theorem dX8_put_5 : decode cX8_put 5 = .ok (.iconst 1, 1) := by decide +kernel
theorem dX8_put_6 : decode cX8_put 6 = .ok (.if_icmp .gt 18, 3) := by decide +kernel
theorem dX8_put_9 : decode cX8_put 9 = .ok (.iload_n 2, 1) := by decide +kernel
theorem dX8_put_10 : decode cX8_put 10 = .ok (.ifCond .lt 14, 3) := by decide +kernel
theorem dX8_put_13 : decode cX8_put 13 = .ok (.iload_n 2, 1) := by decide +kernel
theorem dX8_put_14 : decode cX8_put 14 = .ok (.aload_n 0, 1) := by decide +kernel
theorem dX8_put_15 : decode cX8_put 15 = .ok (.getfield 10, 3) := by decide +kernel
theorem dX8_put_18 : decode cX8_put 18 = .ok (.invokevirtual 140, 3) := by decide +kernel
theorem dX8_put_21 : decode cX8_put 21 = .ok (.if_icmp .lt 5, 3) := by decide +kernel
theorem dX8_put_24 : decode cX8_put 24 = .ok (.iconst (-1), 1) := by decide +kernel
theorem dX8_put_25 : decode cX8_put 25 = .ok (.ireturn, 1) := by decide +kernel
theorem dX8_put_26 : decode cX8_put 26 = .ok (.aload_n 0, 1) := by decide +kernel
theorem dX8_put_27 : decode cX8_put 27 = .ok (.getfield 35, 3) := by decide +kernel
theorem dX8_put_30 : decode cX8_put 30 = .ok (.aload_n 0, 1) := by decide +kernel
theorem dX8_put_31 : decode cX8_put 31 = .ok (.getfield 10, 3) := by decide +kernel
theorem dX8_put_34 : decode cX8_put 34 = .ok (.invokevirtual 98, 3) := by decide +kernel
theorem dX8_put_37 : decode cX8_put 37 = .ok (.invokevirtual 205, 3) := by decide +kernel
theorem dX8_put_40 : decode cX8_put 40 = .ok (.ifCond .eq 6, 3) := by decide +kernel
theorem dX8_put_43 : decode cX8_put 43 = .ok (.bipush (-3), 2) := by decide +kernel
theorem dX8_put_45 : decode cX8_put 45 = .ok (.ireturn, 1) := by decide +kernel
theorem dX8_put_46 : decode cX8_put 46 = .ok (.aload_n 0, 1) := by decide +kernel
theorem dX8_put_47 : decode cX8_put 47 = .ok (.getfield 39, 3) := by decide +kernel
theorem dX8_put_50 : decode cX8_put 50 = .ok (.invokevirtual 93, 3) := by decide +kernel
theorem dX8_put_53 : decode cX8_put 53 = .ok (.iconst 0, 1) := by decide +kernel
theorem dX8_put_54 : decode cX8_put 54 = .ok (.istore_n 3, 1) := by decide +kernel
theorem dX8_put_55 : decode cX8_put 55 = .ok (.iload_n 3, 1) := by decide +kernel
theorem dX8_put_56 : decode cX8_put 56 = .ok (.aload_n 0, 1) := by decide +kernel
theorem dX8_put_57 : decode cX8_put 57 = .ok (.getfield 10, 3) := by decide +kernel
theorem dX8_put_60 : decode cX8_put 60 = .ok (.invokevirtual 98, 3) := by decide +kernel
theorem dX8_put_63 : decode cX8_put 63 = .ok (.if_icmp .ge 84, 3) := by decide +kernel
theorem dX8_put_66 : decode cX8_put 66 = .ok (.iconst 0, 1) := by decide +kernel
theorem dX8_put_67 : decode cX8_put 67 = .ok (.istore 4, 2) := by decide +kernel
theorem dX8_put_69 : decode cX8_put 69 = .ok (.iload 4, 2) := by decide +kernel
theorem dX8_put_71 : decode cX8_put 71 = .ok (.aload_n 0, 1) := by decide +kernel
theorem dX8_put_72 : decode cX8_put 72 = .ok (.getfield 10, 3) := by decide +kernel
theorem dX8_put_75 : decode cX8_put 75 = .ok (.iload_n 3, 1) := by decide +kernel
theorem dX8_put_76 : decode cX8_put 76 = .ok (.invokevirtual 198, 3) := by decide +kernel
theorem dX8_put_79 : decode cX8_put 79 = .ok (.if_icmp .ge 62, 3) := by decide +kernel
theorem dX8_put_82 : decode cX8_put 82 = .ok (.iload_n 1, 1) := by decide +kernel
theorem dX8_put_83 : decode cX8_put 83 = .ok (.ifCond .ne 17, 3) := by decide +kernel
theorem dX8_put_86 : decode cX8_put 86 = .ok (.aload_n 0, 1) := by decide +kernel
theorem dX8_put_87 : decode cX8_put 87 = .ok (.getfield 10, 3) := by decide +kernel
theorem dX8_put_90 : decode cX8_put 90 = .ok (.iload_n 2, 1) := by decide +kernel
theorem dX8_put_91 : decode cX8_put 91 = .ok (.iload_n 3, 1) := by decide +kernel
theorem dX8_put_92 : decode cX8_put 92 = .ok (.iload 4, 2) := by decide +kernel
theorem dX8_put_94 : decode cX8_put 94 = .ok (.invokevirtual 208, 3) := by decide +kernel
theorem dX8_put_97 : decode cX8_put 97 = .ok (.goto 13, 3) := by decide +kernel
theorem dX8_put_100 : decode cX8_put 100 = .ok (.aload_n 0, 1) := by decide +kernel
theorem dX8_put_101 : decode cX8_put 101 = .ok (.getfield 10, 3) := by decide +kernel
theorem dX8_put_104 : decode cX8_put 104 = .ok (.iload 4, 2) := by decide +kernel
theorem dX8_put_106 : decode cX8_put 106 = .ok (.iload_n 2, 1) := by decide +kernel
theorem dX8_put_107 : decode cX8_put 107 = .ok (.invokevirtual 211, 3) := by decide +kernel
theorem dX8_put_110 : decode cX8_put 110 = .ok (.istore 5, 2) := by decide +kernel
theorem dX8_put_112 : decode cX8_put 112 = .ok (.aload_n 0, 1) := by decide +kernel
theorem dX8_put_113 : decode cX8_put 113 = .ok (.getfield 39, 3) := by decide +kernel
theorem dX8_put_116 : decode cX8_put 116 = .ok (.iload_n 3, 1) := by decide +kernel
theorem dX8_put_117 : decode cX8_put 117 = .ok (.iconst 1, 1) := by decide +kernel
theorem dX8_put_118 : decode cX8_put 118 = .ok (.iadd, 1) := by decide +kernel
theorem dX8_put_119 : decode cX8_put 119 = .ok (.iload 5, 2) := by decide +kernel
theorem dX8_put_121 : decode cX8_put 121 = .ok (.aload_n 0, 1) := by decide +kernel
theorem dX8_put_122 : decode cX8_put 122 = .ok (.getfield 35, 3) := by decide +kernel
theorem dX8_put_125 : decode cX8_put 125 = .ok (.iload_n 3, 1) := by decide +kernel
theorem dX8_put_126 : decode cX8_put 126 = .ok (.iload 4, 2) := by decide +kernel
theorem dX8_put_128 : decode cX8_put 128 = .ok (.invokevirtual 197, 3) := by decide +kernel
theorem dX8_put_131 : decode cX8_put 131 = .ok (.i2l, 1) := by decide +kernel
theorem dX8_put_132 : decode cX8_put 132 = .ok (.invokevirtual 214, 3) := by decide +kernel
theorem dX8_put_135 : decode cX8_put 135 = .ok (.iinc 4 1, 3) := by decide +kernel
theorem dX8_put_138 : decode cX8_put 138 = .ok (.goto (-69), 3) := by decide +kernel
theorem dX8_put_141 : decode cX8_put 141 = .ok (.iinc 3 1, 3) := by decide +kernel
