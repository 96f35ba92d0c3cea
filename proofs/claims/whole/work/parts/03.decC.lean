theorem dJ9_abs_0f7a4_0 : decode cJ9_abs_0f7a4 0 = .ok (.iload_n 0, 1) := by decide +kernel
theorem dJ9_abs_0f7a4_1 : decode cJ9_abs_0f7a4 1 = .ok (.ifCond .ge 8, 3) := by decide +kernel
theorem dJ9_abs_0f7a4_4 : decode cJ9_abs_0f7a4 4 = .ok (.iload_n 0, 1) := by decide +kernel
theorem dJ9_abs_0f7a4_5 : decode cJ9_abs_0f7a4 5 = .ok (.ineg, 1) := by decide +kernel
theorem dJ9_abs_0f7a4_6 : decode cJ9_abs_0f7a4 6 = .ok (.goto 4, 3) := by decide +kernel
theorem dJ9_abs_0f7a4_9 : decode cJ9_abs_0f7a4 9 = .ok (.iload_n 0, 1) := by decide +kernel
theorem dJ9_abs_0f7a4_10 : decode cJ9_abs_0f7a4 10 = .ok (.ireturn, 1) := by decide +kernel
theorem dJ9_max_7cf53_0 : decode cJ9_max_7cf53 0 = .ok (.iload_n 0, 1) := by decide +kernel
theorem dJ9_max_7cf53_1 : decode cJ9_max_7cf53 1 = .ok (.iload_n 1, 1) := by decide +kernel
theorem dJ9_max_7cf53_2 : decode cJ9_max_7cf53 2 = .ok (.if_icmp .lt 7, 3) := by decide +kernel
theorem dJ9_max_7cf53_5 : decode cJ9_max_7cf53 5 = .ok (.iload_n 0, 1) := by decide +kernel
theorem dJ9_max_7cf53_6 : decode cJ9_max_7cf53 6 = .ok (.goto 4, 3) := by decide +kernel
theorem dJ9_max_7cf53_9 : decode cJ9_max_7cf53 9 = .ok (.iload_n 1, 1) := by decide +kernel
theorem dJ9_max_7cf53_10 : decode cJ9_max_7cf53 10 = .ok (.ireturn, 1) := by decide +kernel
theorem dJ9_min_7cf53_0 : decode cJ9_min_7cf53 0 = .ok (.iload_n 0, 1) := by decide +kernel
theorem dJ9_min_7cf53_1 : decode cJ9_min_7cf53 1 = .ok (.iload_n 1, 1) := by decide +kernel
theorem dJ9_min_7cf53_2 : decode cJ9_min_7cf53 2 = .ok (.if_icmp .gt 7, 3) := by decide +kernel
theorem dJ9_min_7cf53_5 : decode cJ9_min_7cf53 5 = .ok (.iload_n 0, 1) := by decide +kernel
theorem dJ9_min_7cf53_6 : decode cJ9_min_7cf53 6 = .ok (.goto 4, 3) := by decide +kernel
theorem dJ9_min_7cf53_9 : decode cJ9_min_7cf53 9 = .ok (.iload_n 1, 1) := by decide +kernel
theorem dJ9_min_7cf53_10 : decode cJ9_min_7cf53 10 = .ok (.ireturn, 1) := by decide +kernel
theorem dX0_init_0 : decode cX0_init 0 = .ok (.aload_n 0, 1) := by decide +kernel
theorem dX0_init_1 : decode cX0_init 1 = .ok (.invokespecial 3, 3) := by decide +kernel
theorem dX0_init_4 : decode cX0_init 4 = .ok (.aload_n 0, 1) := by decide +kernel
theorem dX0_init_5 : decode cX0_init 5 = .ok (.sipush 144, 3) := by decide +kernel
theorem dX0_init_8 : decode cX0_init 8 = .ok (.newarray .int, 2) := by decide +kernel
theorem dX0_init_10 : decode cX0_init 10 = .ok (.putfield 9, 3) := by decide +kernel
theorem dX0_init_13 : decode cX0_init 13 = .ok (.aload_n 0, 1) := by decide +kernel
theorem dX0_init_14 : decode cX0_init 14 = .ok (.iconst 0, 1) := by decide +kernel
theorem dX0_init_15 : decode cX0_init 15 = .ok (.putfield 15, 3) := by decide +kernel
theorem dX0_init_18 : decode cX0_init 18 = .ok (.return_, 1) := by decide +kernel
theorem dX0_partAt_0 : decode cX0_partAt 0 = .ok (.iload_n 1, 1) := by decide +kernel
theorem dX0_partAt_1 : decode cX0_partAt 1 = .ok (.ifCond .lt 29, 3) := by decide +kernel
theorem dX0_partAt_4 : decode cX0_partAt 4 = .ok (.iload_n 1, 1) := by decide +kernel
theorem dX0_partAt_5 : decode cX0_partAt 5 = .ok (.aload_n 0, 1) := by decide +kernel
theorem dX0_partAt_6 : decode cX0_partAt 6 = .ok (.getfield 15, 3) := by decide +kernel
theorem dX0_partAt_9 : decode cX0_partAt 9 = .ok (.if_icmp .ge 21, 3) := by decide +kernel
theorem dX0_partAt_12 : decode cX0_partAt 12 = .ok (.iload_n 1, 1) := by decide +kernel
theorem dX0_partAt_13 : decode cX0_partAt 13 = .ok (.aload_n 0, 1) := by decide +kernel
theorem dX0_partAt_14 : decode cX0_partAt 14 = .ok (.getfield 9, 3) := by decide +kernel
theorem dX0_partAt_17 : decode cX0_partAt 17 = .ok (.arraylength, 1) := by decide +kernel
theorem dX0_partAt_18 : decode cX0_partAt 18 = .ok (.if_icmp .ge 12, 3) := by decide +kernel
theorem dX0_partAt_21 : decode cX0_partAt 21 = .ok (.aload_n 0, 1) := by decide +kernel
theorem dX0_partAt_22 : decode cX0_partAt 22 = .ok (.getfield 9, 3) := by decide +kernel
theorem dX0_partAt_25 : decode cX0_partAt 25 = .ok (.iload_n 1, 1) := by decide +kernel
theorem dX0_partAt_26 : decode cX0_partAt 26 = .ok (.iaload, 1) := by decide +kernel
theorem dX0_partAt_27 : decode cX0_partAt 27 = .ok (.goto 4, 3) := by decide +kernel
theorem dX0_partAt_30 : decode cX0_partAt 30 = .ok (.iconst (-1), 1) := by decide +kernel
theorem dX0_partAt_31 : decode cX0_partAt 31 = .ok (.ireturn, 1) := by decide +kernel
theorem dX0_lineUp_0 : decode cX0_lineUp 0 = .ok (.aload_n 0, 1) := by decide +kernel
theorem dX0_lineUp_1 : decode cX0_lineUp 1 = .ok (.iconst 0, 1) := by decide +kernel
theorem dX0_lineUp_2 : decode cX0_lineUp 2 = .ok (.putfield 15, 3) := by decide +kernel
theorem dX0_lineUp_5 : decode cX0_lineUp 5 = .ok (.aload_n 1, 1) := by decide +kernel
theorem dX0_lineUp_6 : decode cX0_lineUp 6 = .ok (.iload_n 2, 1) := by decide +kernel
theorem dX0_lineUp_7 : decode cX0_lineUp 7 = .ok (.ldc 19, 2) := by decide +kernel
theorem dX0_lineUp_9 : decode cX0_lineUp 9 = .ok (.invokevirtual 20, 3) := by decide +kernel
theorem dX0_lineUp_12 : decode cX0_lineUp 12 = .ok (.ifCond .ne 10, 3) := by decide +kernel
theorem dX0_lineUp_15 : decode cX0_lineUp 15 = .ok (.aload_n 0, 1) := by decide +kernel
theorem dX0_lineUp_16 : decode cX0_lineUp 16 = .ok (.aload_n 1, 1) := by decide +kernel
theorem dX0_lineUp_17 : decode cX0_lineUp 17 = .ok (.iload_n 2, 1) := by decide +kernel
theorem dX0_lineUp_18 : decode cX0_lineUp 18 = .ok (.invokevirtual 26, 3) := by decide +kernel
theorem dX0_lineUp_21 : decode cX0_lineUp 21 = .ok (.return_, 1) := by decide +kernel
theorem dX0_lineUp_22 : decode cX0_lineUp 22 = .ok (.iconst 0, 1) := by decide +kernel
theorem dX0_lineUp_23 : decode cX0_lineUp 23 = .ok (.istore_n 3, 1) := by decide +kernel
theorem dX0_lineUp_24 : decode cX0_lineUp 24 = .ok (.iload_n 3, 1) := by decide +kernel
theorem dX0_lineUp_25 : decode cX0_lineUp 25 = .ok (.aload_n 1, 1) := by decide +kernel
theorem dX0_lineUp_26 : decode cX0_lineUp 26 = .ok (.iload_n 2, 1) := by decide +kernel
theorem dX0_lineUp_27 : decode cX0_lineUp 27 = .ok (.invokevirtual 30, 3) := by decide +kernel
theorem dX0_lineUp_30 : decode cX0_lineUp 30 = .ok (.if_icmp .ge 21, 3) := by decide +kernel
theorem dX0_lineUp_33 : decode cX0_lineUp 33 = .ok (.aload_n 0, 1) := by decide +kernel
theorem dX0_lineUp_34 : decode cX0_lineUp 34 = .ok (.aload_n 1, 1) := by decide +kernel
theorem dX0_lineUp_35 : decode cX0_lineUp 35 = .ok (.aload_n 1, 1) := by decide +kernel
theorem dX0_lineUp_36 : decode cX0_lineUp 36 = .ok (.iload_n 2, 1) := by decide +kernel
theorem dX0_lineUp_37 : decode cX0_lineUp 37 = .ok (.iload_n 3, 1) := by decide +kernel
theorem dX0_lineUp_38 : decode cX0_lineUp 38 = .ok (.invokevirtual 34, 3) := by decide +kernel
theorem dX0_lineUp_41 : decode cX0_lineUp 41 = .ok (.l2i, 1) := by decide +kernel
theorem dX0_lineUp_42 : decode cX0_lineUp 42 = .ok (.invokevirtual 26, 3) := by decide +kernel
theorem dX0_lineUp_45 : decode cX0_lineUp 45 = .ok (.iinc 3 1, 3) := by decide +kernel
theorem dX0_lineUp_48 : decode cX0_lineUp 48 = .ok (.goto (-24), 3) := by decide +kernel
theorem dX0_lineUp_51 : decode cX0_lineUp 51 = .ok (.return_, 1) := by decide +kernel
theorem dX0_addPartsOf_0 : decode cX0_addPartsOf 0 = .ok (.aload_n 1, 1) := by decide +kernel
theorem dX0_addPartsOf_1 : decode cX0_addPartsOf 1 = .ok (.iload_n 2, 1) := by decide +kernel
theorem dX0_addPartsOf_2 : decode cX0_addPartsOf 2 = .ok (.iconst 1, 1) := by decide +kernel
theorem dX0_addPartsOf_3 : decode cX0_addPartsOf 3 = .ok (.invokevirtual 20, 3) := by decide +kernel
theorem dX0_addPartsOf_6 : decode cX0_addPartsOf 6 = .ok (.ifCond .eq 9, 3) := by decide +kernel
theorem dX0_addPartsOf_9 : decode cX0_addPartsOf 9 = .ok (.aload_n 0, 1) := by decide +kernel
theorem dX0_addPartsOf_10 : decode cX0_addPartsOf 10 = .ok (.iload_n 2, 1) := by decide +kernel
theorem dX0_addPartsOf_11 : decode cX0_addPartsOf 11 = .ok (.invokevirtual 38, 3) := by decide +kernel
theorem dX0_addPartsOf_14 : decode cX0_addPartsOf 14 = .ok (.return_, 1) := by decide +kernel
theorem dX0_addPartsOf_15 : decode cX0_addPartsOf 15 = .ok (.iconst 0, 1) := by decide +kernel
theorem dX0_addPartsOf_16 : decode cX0_addPartsOf 16 = .ok (.istore_n 3, 1) := by decide +kernel
theorem dX0_addPartsOf_17 : decode cX0_addPartsOf 17 = .ok (.iload_n 3, 1) := by decide +kernel
theorem dX0_addPartsOf_18 : decode cX0_addPartsOf 18 = .ok (.aload_n 1, 1) := by decide +kernel
theorem dX0_addPartsOf_19 : decode cX0_addPartsOf 19 = .ok (.iload_n 2, 1) := by decide +kernel
theorem dX0_addPartsOf_20 : decode cX0_addPartsOf 20 = .ok (.invokevirtual 30, 3) := by decide +kernel
theorem dX0_addPartsOf_23 : decode cX0_addPartsOf 23 = .ok (.if_icmp .ge 20, 3) := by decide +kernel
theorem dX0_addPartsOf_26 : decode cX0_addPartsOf 26 = .ok (.aload_n 0, 1) := by decide +kernel
theorem dX0_addPartsOf_27 : decode cX0_addPartsOf 27 = .ok (.aload_n 1, 1) := by decide +kernel
theorem dX0_addPartsOf_28 : decode cX0_addPartsOf 28 = .ok (.iload_n 2, 1) := by decide +kernel
theorem dX0_addPartsOf_29 : decode cX0_addPartsOf 29 = .ok (.iload_n 3, 1) := by decide +kernel
theorem dX0_addPartsOf_30 : decode cX0_addPartsOf 30 = .ok (.invokevirtual 34, 3) := by decide +kernel
theorem dX0_addPartsOf_33 : decode cX0_addPartsOf 33 = .ok (.l2i, 1) := by decide +kernel
theorem dX0_addPartsOf_34 : decode cX0_addPartsOf 34 = .ok (.invokevirtual 38, 3) := by decide +kernel
theorem dX0_addPartsOf_37 : decode cX0_addPartsOf 37 = .ok (.iinc 3 1, 3) := by decide +kernel
theorem dX0_addPartsOf_40 : decode cX0_addPartsOf 40 = .ok (.goto (-23), 3) := by decide +kernel
theorem dX0_addPartsOf_43 : decode cX0_addPartsOf 43 = .ok (.return_, 1) := by decide +kernel
theorem dX0_add_0 : decode cX0_add 0 = .ok (.iload_n 1, 1) := by decide +kernel
theorem dX0_add_1 : decode cX0_add 1 = .ok (.iconst (-1), 1) := by decide +kernel
theorem dX0_add_2 : decode cX0_add 2 = .ok (.if_icmp .eq 35, 3) := by decide +kernel
theorem dX0_add_5 : decode cX0_add 5 = .ok (.aload_n 0, 1) := by decide +kernel
theorem dX0_add_6 : decode cX0_add 6 = .ok (.getfield 15, 3) := by decide +kernel
theorem dX0_add_9 : decode cX0_add 9 = .ok (.aload_n 0, 1) := by decide +kernel
theorem dX0_add_10 : decode cX0_add 10 = .ok (.getfield 9, 3) := by decide +kernel
theorem dX0_add_13 : decode cX0_add 13 = .ok (.arraylength, 1) := by decide +kernel
theorem dX0_add_14 : decode cX0_add 14 = .ok (.if_icmp .ge 23, 3) := by decide +kernel
theorem dX0_add_17 : decode cX0_add 17 = .ok (.aload_n 0, 1) := by decide +kernel
theorem dX0_add_18 : decode cX0_add 18 = .ok (.getfield 9, 3) := by decide +kernel
theorem dX0_add_21 : decode cX0_add 21 = .ok (.aload_n 0, 1) := by decide +kernel
theorem dX0_add_22 : decode cX0_add 22 = .ok (.getfield 15, 3) := by decide +kernel
theorem dX0_add_25 : decode cX0_add 25 = .ok (.iload_n 1, 1) := by decide +kernel
theorem dX0_add_26 : decode cX0_add 26 = .ok (.iastore, 1) := by decide +kernel
theorem dX0_add_27 : decode cX0_add 27 = .ok (.aload_n 0, 1) := by decide +kernel
theorem dX0_add_28 : decode cX0_add 28 = .ok (.dup, 1) := by decide +kernel
theorem dX0_add_29 : decode cX0_add 29 = .ok (.getfield 15, 3) := by decide +kernel
theorem dX0_add_32 : decode cX0_add 32 = .ok (.iconst 1, 1) := by decide +kernel
theorem dX0_add_33 : decode cX0_add 33 = .ok (.iadd, 1) := by decide +kernel
theorem dX0_add_34 : decode cX0_add 34 = .ok (.putfield 15, 3) := by decide +kernel
theorem dX0_add_37 : decode cX0_add 37 = .ok (.return_, 1) := by decide +kernel
theorem dX1_init_0 : decode cX1_init 0 = .ok (.aload_n 0, 1) := by decide +kernel
theorem dX1_init_1 : decode cX1_init 1 = .ok (.invokespecial 1, 3) := by decide +kernel
theorem dX1_init_4 : decode cX1_init 4 = .ok (.aload_n 0, 1) := by decide +kernel
theorem dX1_init_5 : decode cX1_init 5 = .ok (.iload_n 1, 1) := by decide +kernel
theorem dX1_init_6 : decode cX1_init 6 = .ok (.iconst 0, 1) := by decide +kernel
theorem dX1_init_7 : decode cX1_init 7 = .ok (.invokestatic 7, 3) := by decide +kernel
theorem dX1_init_10 : decode cX1_init 10 = .ok (.putfield 13, 3) := by decide +kernel
theorem dX1_init_13 : decode cX1_init 13 = .ok (.aload_n 0, 1) := by decide +kernel
theorem dX1_init_14 : decode cX1_init 14 = .ok (.aload_n 0, 1) := by decide +kernel
theorem dX1_init_15 : decode cX1_init 15 = .ok (.getfield 13, 3) := by decide +kernel
theorem dX1_init_18 : decode cX1_init 18 = .ok (.newarray .int, 2) := by decide +kernel
theorem dX1_init_20 : decode cX1_init 20 = .ok (.putfield 19, 3) := by decide +kernel
theorem dX1_init_23 : decode cX1_init 23 = .ok (.aload_n 0, 1) := by decide +kernel
theorem dX1_init_24 : decode cX1_init 24 = .ok (.aload_n 0, 1) := by decide +kernel
theorem dX1_init_25 : decode cX1_init 25 = .ok (.getfield 13, 3) := by decide +kernel
theorem dX1_init_28 : decode cX1_init 28 = .ok (.newarray .long, 2) := by decide +kernel
theorem dX1_init_30 : decode cX1_init 30 = .ok (.putfield 23, 3) := by decide +kernel
theorem dX1_init_33 : decode cX1_init 33 = .ok (.aload_n 0, 1) := by decide +kernel
theorem dX1_init_34 : decode cX1_init 34 = .ok (.aload_n 2, 1) := by decide +kernel
theorem dX1_init_35 : decode cX1_init 35 = .ok (.putfield 27, 3) := by decide +kernel
theorem dX1_init_38 : decode cX1_init 38 = .ok (.return_, 1) := by decide +kernel
theorem dX2_isKind_0 : decode cX2_isKind 0 = .ok (.iload_n 0, 1) := by decide +kernel
theorem dX2_isKind_1 : decode cX2_isKind 1 = .ok (.ifCond .lt 15, 3) := by decide +kernel
theorem dX2_isKind_4 : decode cX2_isKind 4 = .ok (.iload_n 0, 1) := by decide +kernel
theorem dX2_isKind_5 : decode cX2_isKind 5 = .ok (.getstatic 9, 3) := by decide +kernel
theorem dX2_isKind_8 : decode cX2_isKind 8 = .ok (.arraylength, 1) := by decide +kernel
theorem dX2_isKind_9 : decode cX2_isKind 9 = .ok (.if_icmp .ge 7, 3) := by decide +kernel
theorem dX2_isKind_12 : decode cX2_isKind 12 = .ok (.iconst 1, 1) := by decide +kernel
theorem dX2_isKind_13 : decode cX2_isKind 13 = .ok (.goto 4, 3) := by decide +kernel
theorem dX2_isKind_16 : decode cX2_isKind 16 = .ok (.iconst 0, 1) := by decide +kernel
theorem dX2_isKind_17 : decode cX2_isKind 17 = .ok (.ireturn, 1) := by decide +kernel
theorem dX2_isMade_0 : decode cX2_isMade 0 = .ok (.iload_n 0, 1) := by decide +kernel
theorem dX2_isMade_1 : decode cX2_isMade 1 = .ok (.invokestatic 15, 3) := by decide +kernel
theorem dX2_isMade_4 : decode cX2_isMade 4 = .ok (.ifCond .eq 13, 3) := by decide +kernel
theorem dX2_isMade_7 : decode cX2_isMade 7 = .ok (.iload_n 0, 1) := by decide +kernel
theorem dX2_isMade_8 : decode cX2_isMade 8 = .ok (.bipush 12, 2) := by decide +kernel
theorem dX2_isMade_10 : decode cX2_isMade 10 = .ok (.if_icmp .eq 7, 3) := by decide +kernel
theorem dX2_isMade_13 : decode cX2_isMade 13 = .ok (.iconst 1, 1) := by decide +kernel
theorem dX2_isMade_14 : decode cX2_isMade 14 = .ok (.goto 4, 3) := by decide +kernel
theorem dX2_isMade_17 : decode cX2_isMade 17 = .ok (.iconst 0, 1) := by decide +kernel
theorem dX2_isMade_18 : decode cX2_isMade 18 = .ok (.ireturn, 1) := by decide +kernel
theorem dX2_isUnderAny_0 : decode cX2_isUnderAny 0 = .ok (.iload_n 0, 1) := by decide +kernel
theorem dX2_isUnderAny_1 : decode cX2_isUnderAny 1 = .ok (.ifCond .lt 25, 3) := by decide +kernel
theorem dX2_isUnderAny_4 : decode cX2_isUnderAny 4 = .ok (.iload_n 0, 1) := by decide +kernel
theorem dX2_isUnderAny_5 : decode cX2_isUnderAny 5 = .ok (.getstatic 9, 3) := by decide +kernel
theorem dX2_isUnderAny_8 : decode cX2_isUnderAny 8 = .ok (.arraylength, 1) := by decide +kernel
theorem dX2_isUnderAny_9 : decode cX2_isUnderAny 9 = .ok (.if_icmp .ge 17, 3) := by decide +kernel
theorem dX2_isUnderAny_12 : decode cX2_isUnderAny 12 = .ok (.getstatic 9, 3) := by decide +kernel
theorem dX2_isUnderAny_15 : decode cX2_isUnderAny 15 = .ok (.iload_n 0, 1) := by decide +kernel
theorem dX2_isUnderAny_16 : decode cX2_isUnderAny 16 = .ok (.iaload, 1) := by decide +kernel
theorem dX2_isUnderAny_17 : decode cX2_isUnderAny 17 = .ok (.iload_n 1, 1) := by decide +kernel
theorem dX2_isUnderAny_18 : decode cX2_isUnderAny 18 = .ok (.iand, 1) := by decide +kernel
theorem dX2_isUnderAny_19 : decode cX2_isUnderAny 19 = .ok (.ifCond .eq 7, 3) := by decide +kernel
theorem dX2_isUnderAny_22 : decode cX2_isUnderAny 22 = .ok (.iconst 1, 1) := by decide +kernel
theorem dX2_isUnderAny_23 : decode cX2_isUnderAny 23 = .ok (.goto 4, 3) := by decide +kernel
theorem dX2_isUnderAny_26 : decode cX2_isUnderAny 26 = .ok (.iconst 0, 1) := by decide +kernel
theorem dX2_isUnderAny_27 : decode cX2_isUnderAny 27 = .ok (.ireturn, 1) := by decide +kernel
theorem dX2_fittingIn_0 : decode cX2_fittingIn 0 = .ok (.iload_n 0, 1) := by decide +kernel
theorem dX2_fittingIn_1 : decode cX2_fittingIn 1 = .ok (.bipush 16, 2) := by decide +kernel
theorem dX2_fittingIn_3 : decode cX2_fittingIn 3 = .ok (.if_icmp .lt 27, 3) := by decide +kernel
theorem dX2_fittingIn_6 : decode cX2_fittingIn 6 = .ok (.iload_n 0, 1) := by decide +kernel
theorem dX2_fittingIn_7 : decode cX2_fittingIn 7 = .ok (.bipush 16, 2) := by decide +kernel
theorem dX2_fittingIn_9 : decode cX2_fittingIn 9 = .ok (.isub, 1) := by decide +kernel
theorem dX2_fittingIn_10 : decode cX2_fittingIn 10 = .ok (.getstatic 19, 3) := by decide +kernel
theorem dX2_fittingIn_13 : decode cX2_fittingIn 13 = .ok (.arraylength, 1) := by decide +kernel
theorem dX2_fittingIn_14 : decode cX2_fittingIn 14 = .ok (.if_icmp .ge 16, 3) := by decide +kernel
theorem dX2_fittingIn_17 : decode cX2_fittingIn 17 = .ok (.iconst 1, 1) := by decide +kernel
theorem dX2_fittingIn_18 : decode cX2_fittingIn 18 = .ok (.getstatic 19, 3) := by decide +kernel
theorem dX2_fittingIn_21 : decode cX2_fittingIn 21 = .ok (.iload_n 0, 1) := by decide +kernel
theorem dX2_fittingIn_22 : decode cX2_fittingIn 22 = .ok (.bipush 16, 2) := by decide +kernel
theorem dX2_fittingIn_24 : decode cX2_fittingIn 24 = .ok (.isub, 1) := by decide +kernel
theorem dX2_fittingIn_25 : decode cX2_fittingIn 25 = .ok (.iaload, 1) := by decide +kernel
theorem dX2_fittingIn_26 : decode cX2_fittingIn 26 = .ok (.ishl, 1) := by decide +kernel
theorem dX2_fittingIn_27 : decode cX2_fittingIn 27 = .ok (.goto 4, 3) := by decide +kernel
theorem dX2_fittingIn_30 : decode cX2_fittingIn 30 = .ok (.iconst 0, 1) := by decide +kernel
theorem dX2_fittingIn_31 : decode cX2_fittingIn 31 = .ok (.ireturn, 1) := by decide +kernel
theorem dX2_isCopied_0 : decode cX2_isCopied 0 = .ok (.iload_n 0, 1) := by decide +kernel
theorem dX2_isCopied_1 : decode cX2_isCopied 1 = .ok (.ldc 22, 2) := by decide +kernel
theorem dX2_isCopied_3 : decode cX2_isCopied 3 = .ok (.invokestatic 23, 3) := by decide +kernel
theorem dX2_isCopied_6 : decode cX2_isCopied 6 = .ok (.ifCond .eq 14, 3) := by decide +kernel
theorem dX2_isCopied_9 : decode cX2_isCopied 9 = .ok (.iload_n 0, 1) := by decide +kernel
theorem dX2_isCopied_10 : decode cX2_isCopied 10 = .ok (.iload_n 1, 1) := by decide +kernel
theorem dX2_isCopied_11 : decode cX2_isCopied 11 = .ok (.if_icmp .ne 7, 3) := by decide +kernel
theorem dX2_isCopied_14 : decode cX2_isCopied 14 = .ok (.iconst 1, 1) := by decide +kernel
theorem dX2_isCopied_15 : decode cX2_isCopied 15 = .ok (.goto 4, 3) := by decide +kernel
theorem dX2_isCopied_18 : decode cX2_isCopied 18 = .ok (.iconst 0, 1) := by decide +kernel
theorem dX2_isCopied_19 : decode cX2_isCopied 19 = .ok (.ireturn, 1) := by decide +kernel
theorem dX2_isCopied_20 : decode cX2_isCopied 20 = .ok (.iload_n 0, 1) := by decide +kernel
theorem dX2_isCopied_21 : decode cX2_isCopied 21 = .ok (.ldc 27, 2) := by decide +kernel
theorem dX2_isCopied_23 : decode cX2_isCopied 23 = .ok (.invokestatic 23, 3) := by decide +kernel
theorem dX2_isCopied_26 : decode cX2_isCopied 26 = .ok (.ifCond .eq 16, 3) := by decide +kernel
theorem dX2_isCopied_29 : decode cX2_isCopied 29 = .ok (.iload_n 1, 1) := by decide +kernel
theorem dX2_isCopied_30 : decode cX2_isCopied 30 = .ok (.ldc 27, 2) := by decide +kernel
theorem dX2_isCopied_32 : decode cX2_isCopied 32 = .ok (.invokestatic 23, 3) := by decide +kernel
theorem dX2_isCopied_35 : decode cX2_isCopied 35 = .ok (.ifCond .eq 7, 3) := by decide +kernel
theorem dX2_isCopied_38 : decode cX2_isCopied 38 = .ok (.iconst 1, 1) := by decide +kernel
theorem dX2_isCopied_39 : decode cX2_isCopied 39 = .ok (.goto 4, 3) := by decide +kernel
theorem dX2_isCopied_42 : decode cX2_isCopied 42 = .ok (.iconst 0, 1) := by decide +kernel
theorem dX2_isCopied_43 : decode cX2_isCopied 43 = .ok (.ireturn, 1) := by decide +kernel
theorem dX2_asHeldIn_0 : decode cX2_asHeldIn 0 = .ok (.iload_n 0, 1) := by decide +kernel
theorem dX2_asHeldIn_1 : decode cX2_asHeldIn 1 = .ok (.lookupswitch 36 #[(13, 27), (14, 31)], 27) := by decide +kernel
theorem dX2_asHeldIn_28 : decode cX2_asHeldIn 28 = .ok (.lload_n 1, 1) := by decide +kernel
theorem dX2_asHeldIn_29 : decode cX2_asHeldIn 29 = .ok (.l2i, 1) := by decide +kernel
theorem dX2_asHeldIn_30 : decode cX2_asHeldIn 30 = .ok (.i2l, 1) := by decide +kernel
theorem dX2_asHeldIn_31 : decode cX2_asHeldIn 31 = .ok (.lreturn, 1) := by decide +kernel
theorem dX2_asHeldIn_32 : decode cX2_asHeldIn 32 = .ok (.lload_n 1, 1) := by decide +kernel
theorem dX2_asHeldIn_33 : decode cX2_asHeldIn 33 = .ok (.l2i, 1) := by decide +kernel
theorem dX2_asHeldIn_34 : decode cX2_asHeldIn 34 = .ok (.i2b, 1) := by decide +kernel
theorem dX2_asHeldIn_35 : decode cX2_asHeldIn 35 = .ok (.i2l, 1) := by decide +kernel
theorem dX2_asHeldIn_36 : decode cX2_asHeldIn 36 = .ok (.lreturn, 1) := by decide +kernel
theorem dX2_asHeldIn_37 : decode cX2_asHeldIn 37 = .ok (.lload_n 1, 1) := by decide +kernel
theorem dX2_asHeldIn_38 : decode cX2_asHeldIn 38 = .ok (.lreturn, 1) := by decide +kernel
theorem dX3_init_0 : decode cX3_init 0 = .ok (.aload_n 0, 1) := by decide +kernel
theorem dX3_init_1 : decode cX3_init 1 = .ok (.invokespecial 1, 3) := by decide +kernel
theorem dX3_init_4 : decode cX3_init 4 = .ok (.aload_n 0, 1) := by decide +kernel
theorem dX3_init_5 : decode cX3_init 5 = .ok (.iload_n 1, 1) := by decide +kernel
theorem dX3_init_6 : decode cX3_init 6 = .ok (.putfield 7, 3) := by decide +kernel
theorem dX3_init_9 : decode cX3_init 9 = .ok (.aload_n 0, 1) := by decide +kernel
theorem dX3_init_10 : decode cX3_init 10 = .ok (.iload_n 2, 1) := by decide +kernel
theorem dX3_init_11 : decode cX3_init 11 = .ok (.putfield 13, 3) := by decide +kernel
theorem dX3_init_14 : decode cX3_init 14 = .ok (.aload_n 0, 1) := by decide +kernel
theorem dX3_init_15 : decode cX3_init 15 = .ok (.iload_n 3, 1) := by decide +kernel
theorem dX3_init_16 : decode cX3_init 16 = .ok (.putfield 16, 3) := by decide +kernel
theorem dX3_init_19 : decode cX3_init 19 = .ok (.aload_n 0, 1) := by decide +kernel
theorem dX3_init_20 : decode cX3_init 20 = .ok (.lload 4, 2) := by decide +kernel
theorem dX3_init_22 : decode cX3_init 22 = .ok (.putfield 19, 3) := by decide +kernel
theorem dX3_init_25 : decode cX3_init 25 = .ok (.aload_n 0, 1) := by decide +kernel
theorem dX3_init_26 : decode cX3_init 26 = .ok (.iload 6, 2) := by decide +kernel
theorem dX3_init_28 : decode cX3_init 28 = .ok (.putfield 23, 3) := by decide +kernel
theorem dX3_init_31 : decode cX3_init 31 = .ok (.aload_n 0, 1) := by decide +kernel
theorem dX3_init_32 : decode cX3_init 32 = .ok (.iload 7, 2) := by decide +kernel
theorem dX3_init_34 : decode cX3_init 34 = .ok (.putfield 26, 3) := by decide +kernel
theorem dX3_init_37 : decode cX3_init 37 = .ok (.return_, 1) := by decide +kernel
theorem dX4_turn_0 : decode cX4_turn 0 = .ok (.aload_n 0, 1) := by decide +kernel
theorem dX4_turn_1 : decode cX4_turn 1 = .ok (.iload_n 1, 1) := by decide +kernel
theorem dX4_turn_2 : decode cX4_turn 2 = .ok (.iconst 3, 1) := by decide +kernel
theorem dX4_turn_3 : decode cX4_turn 3 = .ok (.iconst 1, 1) := by decide +kernel
theorem dX4_turn_4 : decode cX4_turn 4 = .ok (.invokevirtual 9, 3) := by decide +kernel
theorem dX4_turn_7 : decode cX4_turn 7 = .ok (.aload_n 0, 1) := by decide +kernel
theorem dX4_turn_8 : decode cX4_turn 8 = .ok (.iload_n 1, 1) := by decide +kernel
theorem dX4_turn_9 : decode cX4_turn 9 = .ok (.iconst 0, 1) := by decide +kernel
theorem dX4_turn_10 : decode cX4_turn 10 = .ok (.invokevirtual 15, 3) := by decide +kernel
theorem dX4_turn_13 : decode cX4_turn 13 = .ok (.tableswitch 97 2 10 #[51, 51, 58, 97, 97, 71, 78, 90, 90], 51) := by decide +kernel
theorem dX4_turn_64 : decode cX4_turn 64 = .ok (.aload_n 0, 1) := by decide +kernel
theorem dX4_turn_65 : decode cX4_turn 65 = .ok (.iload_n 1, 1) := by decide +kernel
theorem dX4_turn_66 : decode cX4_turn 66 = .ok (.iload_n 2, 1) := by decide +kernel
theorem dX4_turn_67 : decode cX4_turn 67 = .ok (.invokestatic 19, 3) := by decide +kernel
theorem dX4_turn_70 : decode cX4_turn 70 = .ok (.ireturn, 1) := by decide +kernel
theorem dX4_turn_71 : decode cX4_turn 71 = .ok (.aload_n 0, 1) := by decide +kernel
theorem dX4_turn_72 : decode cX4_turn 72 = .ok (.iload_n 1, 1) := by decide +kernel
theorem dX4_turn_73 : decode cX4_turn 73 = .ok (.iload_n 2, 1) := by decide +kernel
theorem dX4_turn_74 : decode cX4_turn 74 = .ok (.aload_n 0, 1) := by decide +kernel
theorem dX4_turn_75 : decode cX4_turn 75 = .ok (.iload_n 1, 1) := by decide +kernel
theorem dX4_turn_76 : decode cX4_turn 76 = .ok (.iload_n 2, 1) := by decide +kernel
theorem dX4_turn_77 : decode cX4_turn 77 = .ok (.invokestatic 19, 3) := by decide +kernel
theorem dX4_turn_80 : decode cX4_turn 80 = .ok (.invokestatic 25, 3) := by decide +kernel
theorem dX4_turn_83 : decode cX4_turn 83 = .ok (.ireturn, 1) := by decide +kernel
theorem dX4_turn_84 : decode cX4_turn 84 = .ok (.aload_n 0, 1) := by decide +kernel
theorem dX4_turn_85 : decode cX4_turn 85 = .ok (.iload_n 1, 1) := by decide +kernel
theorem dX4_turn_86 : decode cX4_turn 86 = .ok (.iload_n 2, 1) := by decide +kernel
theorem dX4_turn_87 : decode cX4_turn 87 = .ok (.invokestatic 29, 3) := by decide +kernel
theorem dX4_turn_90 : decode cX4_turn 90 = .ok (.ireturn, 1) := by decide +kernel
theorem dX4_turn_91 : decode cX4_turn 91 = .ok (.aload_n 0, 1) := by decide +kernel
theorem dX4_turn_92 : decode cX4_turn 92 = .ok (.iload_n 1, 1) := by decide +kernel
theorem dX4_turn_93 : decode cX4_turn 93 = .ok (.aload_n 0, 1) := by decide +kernel
theorem dX4_turn_94 : decode cX4_turn 94 = .ok (.iload_n 1, 1) := by decide +kernel
theorem dX4_turn_95 : decode cX4_turn 95 = .ok (.iload_n 2, 1) := by decide +kernel
theorem dX4_turn_96 : decode cX4_turn 96 = .ok (.invokestatic 29, 3) := by decide +kernel
theorem dX4_turn_99 : decode cX4_turn 99 = .ok (.invokestatic 32, 3) := by decide +kernel
theorem dX4_turn_102 : decode cX4_turn 102 = .ok (.ireturn, 1) := by decide +kernel
theorem dX4_turn_103 : decode cX4_turn 103 = .ok (.aload_n 0, 1) := by decide +kernel
theorem dX4_turn_104 : decode cX4_turn 104 = .ok (.iload_n 1, 1) := by decide +kernel
theorem dX4_turn_105 : decode cX4_turn 105 = .ok (.iload_n 2, 1) := by decide +kernel
theorem dX4_turn_106 : decode cX4_turn 106 = .ok (.invokestatic 35, 3) := by decide +kernel
theorem dX4_turn_109 : decode cX4_turn 109 = .ok (.ireturn, 1) := by decide +kernel
theorem dX4_turn_110 : decode cX4_turn 110 = .ok (.iload_n 2, 1) := by decide +kernel
theorem dX4_turn_111 : decode cX4_turn 111 = .ok (.ireturn, 1) := by decide +kernel
theorem dX4_clip_0 : decode cX4_clip 0 = .ok (.aload_n 0, 1) := by decide +kernel
theorem dX4_clip_1 : decode cX4_clip 1 = .ok (.iload_n 1, 1) := by decide +kernel
theorem dX4_clip_2 : decode cX4_clip 2 = .ok (.iconst 2, 1) := by decide +kernel
theorem dX4_clip_3 : decode cX4_clip 3 = .ok (.invokevirtual 15, 3) := by decide +kernel
theorem dX4_clip_6 : decode cX4_clip 6 = .ok (.invokestatic 38, 3) := by decide +kernel
theorem dX4_clip_9 : decode cX4_clip 9 = .ok (.istore_n 3, 1) := by decide +kernel
theorem dX4_clip_10 : decode cX4_clip 10 = .ok (.iload_n 3, 1) := by decide +kernel
theorem dX4_clip_11 : decode cX4_clip 11 = .ok (.ineg, 1) := by decide +kernel
theorem dX4_clip_12 : decode cX4_clip 12 = .ok (.iload_n 3, 1) := by decide +kernel
theorem dX4_clip_13 : decode cX4_clip 13 = .ok (.iload_n 2, 1) := by decide +kernel
theorem dX4_clip_14 : decode cX4_clip 14 = .ok (.invokestatic 44, 3) := by decide +kernel
theorem dX4_clip_17 : decode cX4_clip 17 = .ok (.invokestatic 47, 3) := by decide +kernel
theorem dX4_clip_20 : decode cX4_clip 20 = .ok (.ireturn, 1) := by decide +kernel
theorem dX4_bend_0 : decode cX4_bend 0 = .ok (.iload_n 3, 1) := by decide +kernel
theorem dX4_bend_1 : decode cX4_bend 1 = .ok (.iload_n 2, 1) := by decide +kernel
theorem dX4_bend_2 : decode cX4_bend 2 = .ok (.if_icmp .eq 10, 3) := by decide +kernel
theorem dX4_bend_5 : decode cX4_bend 5 = .ok (.aload_n 0, 1) := by decide +kernel
theorem dX4_bend_6 : decode cX4_bend 6 = .ok (.iload_n 1, 1) := by decide +kernel
theorem dX4_bend_7 : decode cX4_bend 7 = .ok (.iconst 4, 1) := by decide +kernel
theorem dX4_bend_8 : decode cX4_bend 8 = .ok (.iconst 1, 1) := by decide +kernel
theorem dX4_bend_9 : decode cX4_bend 9 = .ok (.invokevirtual 9, 3) := by decide +kernel
theorem dX4_bend_12 : decode cX4_bend 12 = .ok (.iload_n 3, 1) := by decide +kernel
theorem dX4_bend_13 : decode cX4_bend 13 = .ok (.iload_n 2, 1) := by decide +kernel
theorem dX4_bend_14 : decode cX4_bend 14 = .ok (.iload_n 3, 1) := by decide +kernel
theorem dX4_bend_15 : decode cX4_bend 15 = .ok (.isub, 1) := by decide +kernel
theorem dX4_bend_16 : decode cX4_bend 16 = .ok (.iconst 2, 1) := by decide +kernel
theorem dX4_bend_17 : decode cX4_bend 17 = .ok (.ishr, 1) := by decide +kernel
theorem dX4_bend_18 : decode cX4_bend 18 = .ok (.iadd, 1) := by decide +kernel
theorem dX4_bend_19 : decode cX4_bend 19 = .ok (.ireturn, 1) := by decide +kernel
theorem dX4_echo_0 : decode cX4_echo 0 = .ok (.aload_n 0, 1) := by decide +kernel
theorem dX4_echo_1 : decode cX4_echo 1 = .ok (.iload_n 1, 1) := by decide +kernel
theorem dX4_echo_2 : decode cX4_echo 2 = .ok (.iconst 5, 1) := by decide +kernel
theorem dX4_echo_3 : decode cX4_echo 3 = .ok (.invokevirtual 15, 3) := by decide +kernel
theorem dX4_echo_6 : decode cX4_echo 6 = .ok (.istore_n 3, 1) := by decide +kernel
theorem dX4_echo_7 : decode cX4_echo 7 = .ok (.aload_n 0, 1) := by decide +kernel
theorem dX4_echo_8 : decode cX4_echo 8 = .ok (.iload_n 1, 1) := by decide +kernel
theorem dX4_echo_9 : decode cX4_echo 9 = .ok (.iconst 5, 1) := by decide +kernel
theorem dX4_echo_10 : decode cX4_echo 10 = .ok (.iload_n 2, 1) := by decide +kernel
theorem dX4_echo_11 : decode cX4_echo 11 = .ok (.invokevirtual 50, 3) := by decide +kernel
theorem dX4_echo_14 : decode cX4_echo 14 = .ok (.iload_n 2, 1) := by decide +kernel
theorem dX4_echo_15 : decode cX4_echo 15 = .ok (.iload_n 3, 1) := by decide +kernel
theorem dX4_echo_16 : decode cX4_echo 16 = .ok (.aload_n 0, 1) := by decide +kernel
theorem dX4_echo_17 : decode cX4_echo 17 = .ok (.iload_n 1, 1) := by decide +kernel
theorem dX4_echo_18 : decode cX4_echo 18 = .ok (.iconst 2, 1) := by decide +kernel
theorem dX4_echo_19 : decode cX4_echo 19 = .ok (.invokevirtual 15, 3) := by decide +kernel
theorem dX4_echo_22 : decode cX4_echo 22 = .ok (.imul, 1) := by decide +kernel
theorem dX4_echo_23 : decode cX4_echo 23 = .ok (.iconst 4, 1) := by decide +kernel
theorem dX4_echo_24 : decode cX4_echo 24 = .ok (.ishr, 1) := by decide +kernel
theorem dX4_echo_25 : decode cX4_echo 25 = .ok (.iadd, 1) := by decide +kernel
theorem dX4_echo_26 : decode cX4_echo 26 = .ok (.ireturn, 1) := by decide +kernel
theorem dX4_resound_0 : decode cX4_resound 0 = .ok (.aload_n 0, 1) := by decide +kernel
theorem dX4_resound_1 : decode cX4_resound 1 = .ok (.iload_n 1, 1) := by decide +kernel
theorem dX4_resound_2 : decode cX4_resound 2 = .ok (.iconst 5, 1) := by decide +kernel
theorem dX4_resound_3 : decode cX4_resound 3 = .ok (.iload_n 2, 1) := by decide +kernel
theorem dX4_resound_4 : decode cX4_resound 4 = .ok (.iconst 3, 1) := by decide +kernel
theorem dX4_resound_5 : decode cX4_resound 5 = .ok (.ishr, 1) := by decide +kernel
theorem dX4_resound_6 : decode cX4_resound 6 = .ok (.invokevirtual 9, 3) := by decide +kernel
theorem dX4_resound_9 : decode cX4_resound 9 = .ok (.iload_n 2, 1) := by decide +kernel
theorem dX4_resound_10 : decode cX4_resound 10 = .ok (.aload_n 0, 1) := by decide +kernel
theorem dX4_resound_11 : decode cX4_resound 11 = .ok (.iload_n 1, 1) := by decide +kernel
theorem dX4_resound_12 : decode cX4_resound 12 = .ok (.bipush 8, 2) := by decide +kernel
theorem dX4_resound_14 : decode cX4_resound 14 = .ok (.invokevirtual 15, 3) := by decide +kernel
theorem dX4_resound_17 : decode cX4_resound 17 = .ok (.if_icmp .le 11, 3) := by decide +kernel
theorem dX4_resound_20 : decode cX4_resound 20 = .ok (.aload_n 0, 1) := by decide +kernel
theorem dX4_resound_21 : decode cX4_resound 21 = .ok (.iload_n 1, 1) := by decide +kernel
theorem dX4_resound_22 : decode cX4_resound 22 = .ok (.bipush 8, 2) := by decide +kernel
theorem dX4_resound_24 : decode cX4_resound 24 = .ok (.iload_n 2, 1) := by decide +kernel
theorem dX4_resound_25 : decode cX4_resound 25 = .ok (.invokevirtual 50, 3) := by decide +kernel
theorem dX4_resound_28 : decode cX4_resound 28 = .ok (.iload_n 2, 1) := by decide +kernel
theorem dX4_resound_29 : decode cX4_resound 29 = .ok (.ireturn, 1) := by decide +kernel
theorem dX4_countIn_0 : decode cX4_countIn 0 = .ok (.aload_n 0, 1) := by decide +kernel
theorem dX4_countIn_1 : decode cX4_countIn 1 = .ok (.iload_n 1, 1) := by decide +kernel
theorem dX4_countIn_2 : decode cX4_countIn 2 = .ok (.bipush 6, 2) := by decide +kernel
theorem dX4_countIn_4 : decode cX4_countIn 4 = .ok (.iconst 1, 1) := by decide +kernel
theorem dX4_countIn_5 : decode cX4_countIn 5 = .ok (.invokevirtual 9, 3) := by decide +kernel
theorem dX4_countIn_8 : decode cX4_countIn 8 = .ok (.iload_n 2, 1) := by decide +kernel
theorem dX4_countIn_9 : decode cX4_countIn 9 = .ok (.aload_n 0, 1) := by decide +kernel
theorem dX4_countIn_10 : decode cX4_countIn 10 = .ok (.iload_n 1, 1) := by decide +kernel
theorem dX4_countIn_11 : decode cX4_countIn 11 = .ok (.bipush 6, 2) := by decide +kernel
theorem dX4_countIn_13 : decode cX4_countIn 13 = .ok (.invokevirtual 15, 3) := by decide +kernel
theorem dX4_countIn_16 : decode cX4_countIn 16 = .ok (.iadd, 1) := by decide +kernel
theorem dX4_countIn_17 : decode cX4_countIn 17 = .ok (.ireturn, 1) := by decide +kernel
theorem dX4_load_0 : decode cX4_load 0 = .ok (.aload_n 0, 1) := by decide +kernel
theorem dX4_load_1 : decode cX4_load 1 = .ok (.iload_n 1, 1) := by decide +kernel
theorem dX4_load_2 : decode cX4_load 2 = .ok (.iconst 1, 1) := by decide +kernel
theorem dX4_load_3 : decode cX4_load 3 = .ok (.invokevirtual 53, 3) := by decide +kernel
theorem dX4_load_6 : decode cX4_load 6 = .ok (.ifCond .ne 5, 3) := by decide +kernel
theorem dX4_load_9 : decode cX4_load 9 = .ok (.iconst 0, 1) := by decide +kernel
theorem dX4_load_10 : decode cX4_load 10 = .ok (.ireturn, 1) := by decide +kernel
theorem dX4_load_11 : decode cX4_load 11 = .ok (.iconst 2, 1) := by decide +kernel
theorem dX4_load_12 : decode cX4_load 12 = .ok (.istore_n 2, 1) := by decide +kernel
theorem dX4_load_13 : decode cX4_load 13 = .ok (.aload_n 0, 1) := by decide +kernel
theorem dX4_load_14 : decode cX4_load 14 = .ok (.iload_n 1, 1) := by decide +kernel
theorem dX4_load_15 : decode cX4_load 15 = .ok (.iconst 2, 1) := by decide +kernel
theorem dX4_load_16 : decode cX4_load 16 = .ok (.invokevirtual 53, 3) := by decide +kernel
theorem dX4_load_19 : decode cX4_load 19 = .ok (.ifCond .eq 6, 3) := by decide +kernel
theorem dX4_load_22 : decode cX4_load 22 = .ok (.iinc 2 3, 3) := by decide +kernel
theorem dX4_load_25 : decode cX4_load 25 = .ok (.aload_n 0, 1) := by decide +kernel
theorem dX4_load_26 : decode cX4_load 26 = .ok (.iload_n 1, 1) := by decide +kernel
theorem dX4_load_27 : decode cX4_load 27 = .ok (.iconst 4, 1) := by decide +kernel
theorem dX4_load_28 : decode cX4_load 28 = .ok (.invokevirtual 53, 3) := by decide +kernel
theorem dX4_load_31 : decode cX4_load 31 = .ok (.ifCond .eq 15, 3) := by decide +kernel
theorem dX4_load_34 : decode cX4_load 34 = .ok (.iload_n 2, 1) := by decide +kernel
theorem dX4_load_35 : decode cX4_load 35 = .ok (.aload_n 0, 1) := by decide +kernel
theorem dX4_load_36 : decode cX4_load 36 = .ok (.iload_n 1, 1) := by decide +kernel
theorem dX4_load_37 : decode cX4_load 37 = .ok (.iconst 2, 1) := by decide +kernel
theorem dX4_load_38 : decode cX4_load 38 = .ok (.invokevirtual 15, 3) := by decide +kernel
theorem dX4_load_41 : decode cX4_load 41 = .ok (.invokestatic 38, 3) := by decide +kernel
theorem dX4_load_44 : decode cX4_load 44 = .ok (.iadd, 1) := by decide +kernel
theorem dX4_load_45 : decode cX4_load 45 = .ok (.istore_n 2, 1) := by decide +kernel
theorem dX4_load_46 : decode cX4_load 46 = .ok (.aload_n 0, 1) := by decide +kernel
theorem dX4_load_47 : decode cX4_load 47 = .ok (.iload_n 1, 1) := by decide +kernel
theorem dX4_load_48 : decode cX4_load 48 = .ok (.bipush 16, 2) := by decide +kernel
theorem dX4_load_50 : decode cX4_load 50 = .ok (.invokevirtual 53, 3) := by decide +kernel
theorem dX4_load_53 : decode cX4_load 53 = .ok (.ifCond .eq 12, 3) := by decide +kernel
theorem dX4_load_56 : decode cX4_load 56 = .ok (.iload_n 2, 1) := by decide +kernel
theorem dX4_load_57 : decode cX4_load 57 = .ok (.aload_n 0, 1) := by decide +kernel
theorem dX4_load_58 : decode cX4_load 58 = .ok (.iload_n 1, 1) := by decide +kernel
theorem dX4_load_59 : decode cX4_load 59 = .ok (.iconst 4, 1) := by decide +kernel
theorem dX4_load_60 : decode cX4_load 60 = .ok (.invokevirtual 15, 3) := by decide +kernel
theorem dX4_load_63 : decode cX4_load 63 = .ok (.iadd, 1) := by decide +kernel
theorem dX4_load_64 : decode cX4_load 64 = .ok (.istore_n 2, 1) := by decide +kernel
theorem dX4_load_65 : decode cX4_load 65 = .ok (.aload_n 0, 1) := by decide +kernel
theorem dX4_load_66 : decode cX4_load 66 = .ok (.iload_n 1, 1) := by decide +kernel
theorem dX4_load_67 : decode cX4_load 67 = .ok (.bipush 64, 2) := by decide +kernel
theorem dX4_load_69 : decode cX4_load 69 = .ok (.invokevirtual 53, 3) := by decide +kernel
theorem dX4_load_72 : decode cX4_load 72 = .ok (.ifCond .eq 6, 3) := by decide +kernel
theorem dX4_load_75 : decode cX4_load 75 = .ok (.iinc 2 4, 3) := by decide +kernel
theorem dX4_load_78 : decode cX4_load 78 = .ok (.aload_n 0, 1) := by decide +kernel
theorem dX4_load_79 : decode cX4_load 79 = .ok (.iload_n 1, 1) := by decide +kernel
theorem dX4_load_80 : decode cX4_load 80 = .ok (.sipush 256, 3) := by decide +kernel
theorem dX4_load_83 : decode cX4_load 83 = .ok (.invokevirtual 53, 3) := by decide +kernel
theorem dX4_load_86 : decode cX4_load 86 = .ok (.ifCond .eq 15, 3) := by decide +kernel
theorem dX4_load_89 : decode cX4_load 89 = .ok (.iload_n 2, 1) := by decide +kernel
theorem dX4_load_90 : decode cX4_load 90 = .ok (.aload_n 0, 1) := by decide +kernel
theorem dX4_load_91 : decode cX4_load 91 = .ok (.iload_n 1, 1) := by decide +kernel
theorem dX4_load_92 : decode cX4_load 92 = .ok (.iconst 5, 1) := by decide +kernel
theorem dX4_load_93 : decode cX4_load 93 = .ok (.invokevirtual 15, 3) := by decide +kernel
theorem dX4_load_96 : decode cX4_load 96 = .ok (.bipush 7, 2) := by decide +kernel
theorem dX4_load_98 : decode cX4_load 98 = .ok (.iand, 1) := by decide +kernel
theorem dX4_load_99 : decode cX4_load 99 = .ok (.iadd, 1) := by decide +kernel
theorem dX4_load_100 : decode cX4_load 100 = .ok (.istore_n 2, 1) := by decide +kernel
theorem dX4_load_101 : decode cX4_load 101 = .ok (.aload_n 0, 1) := by decide +kernel
theorem dX4_load_102 : decode cX4_load 102 = .ok (.iload_n 1, 1) := by decide +kernel
theorem dX4_load_103 : decode cX4_load 103 = .ok (.sipush 512, 3) := by decide +kernel
theorem dX4_load_106 : decode cX4_load 106 = .ok (.invokevirtual 53, 3) := by decide +kernel
theorem dX4_load_109 : decode cX4_load 109 = .ok (.ifCond .eq 13, 3) := by decide +kernel
theorem dX4_load_112 : decode cX4_load 112 = .ok (.iload_n 2, 1) := by decide +kernel
theorem dX4_load_113 : decode cX4_load 113 = .ok (.aload_n 0, 1) := by decide +kernel
theorem dX4_load_114 : decode cX4_load 114 = .ok (.iload_n 1, 1) := by decide +kernel
theorem dX4_load_115 : decode cX4_load 115 = .ok (.bipush 6, 2) := by decide +kernel
theorem dX4_load_117 : decode cX4_load 117 = .ok (.invokevirtual 15, 3) := by decide +kernel
theorem dX4_load_120 : decode cX4_load 120 = .ok (.iadd, 1) := by decide +kernel
theorem dX4_load_121 : decode cX4_load 121 = .ok (.istore_n 2, 1) := by decide +kernel
theorem dX4_load_122 : decode cX4_load 122 = .ok (.iload_n 2, 1) := by decide +kernel
theorem dX4_load_123 : decode cX4_load 123 = .ok (.ireturn, 1) := by decide +kernel
theorem dX4_putToRest_0 : decode cX4_putToRest 0 = .ok (.aload_n 0, 1) := by decide +kernel
theorem dX4_putToRest_1 : decode cX4_putToRest 1 = .ok (.iload_n 1, 1) := by decide +kernel
theorem dX4_putToRest_2 : decode cX4_putToRest 2 = .ok (.iconst 3, 1) := by decide +kernel
theorem dX4_putToRest_3 : decode cX4_putToRest 3 = .ok (.iconst 0, 1) := by decide +kernel
theorem dX4_putToRest_4 : decode cX4_putToRest 4 = .ok (.invokevirtual 50, 3) := by decide +kernel
theorem dX4_putToRest_7 : decode cX4_putToRest 7 = .ok (.aload_n 0, 1) := by decide +kernel
theorem dX4_putToRest_8 : decode cX4_putToRest 8 = .ok (.iload_n 1, 1) := by decide +kernel
theorem dX4_putToRest_9 : decode cX4_putToRest 9 = .ok (.bipush 16, 2) := by decide +kernel
theorem dX4_putToRest_11 : decode cX4_putToRest 11 = .ok (.invokevirtual 53, 3) := by decide +kernel
theorem dX4_putToRest_14 : decode cX4_putToRest 14 = .ok (.ifCond .eq 10, 3) := by decide +kernel
theorem dX4_putToRest_17 : decode cX4_putToRest 17 = .ok (.aload_n 0, 1) := by decide +kernel
theorem dX4_putToRest_18 : decode cX4_putToRest 18 = .ok (.iload_n 1, 1) := by decide +kernel
theorem dX4_putToRest_19 : decode cX4_putToRest 19 = .ok (.iconst 4, 1) := by decide +kernel
theorem dX4_putToRest_20 : decode cX4_putToRest 20 = .ok (.iconst 0, 1) := by decide +kernel
theorem dX4_putToRest_21 : decode cX4_putToRest 21 = .ok (.invokevirtual 50, 3) := by decide +kernel
theorem dX4_putToRest_24 : decode cX4_putToRest 24 = .ok (.aload_n 0, 1) := by decide +kernel
theorem dX4_putToRest_25 : decode cX4_putToRest 25 = .ok (.iload_n 1, 1) := by decide +kernel
theorem dX4_putToRest_26 : decode cX4_putToRest 26 = .ok (.bipush 32, 2) := by decide +kernel
theorem dX4_putToRest_28 : decode cX4_putToRest 28 = .ok (.invokevirtual 53, 3) := by decide +kernel
theorem dX4_putToRest_31 : decode cX4_putToRest 31 = .ok (.ifCond .eq 10, 3) := by decide +kernel
theorem dX4_putToRest_34 : decode cX4_putToRest 34 = .ok (.aload_n 0, 1) := by decide +kernel
theorem dX4_putToRest_35 : decode cX4_putToRest 35 = .ok (.iload_n 1, 1) := by decide +kernel
theorem dX4_putToRest_36 : decode cX4_putToRest 36 = .ok (.iconst 5, 1) := by decide +kernel
theorem dX4_putToRest_37 : decode cX4_putToRest 37 = .ok (.iconst 0, 1) := by decide +kernel
theorem dX4_putToRest_38 : decode cX4_putToRest 38 = .ok (.invokevirtual 50, 3) := by decide +kernel
theorem dX4_putToRest_41 : decode cX4_putToRest 41 = .ok (.aload_n 0, 1) := by decide +kernel
theorem dX4_putToRest_42 : decode cX4_putToRest 42 = .ok (.iload_n 1, 1) := by decide +kernel
theorem dX4_putToRest_43 : decode cX4_putToRest 43 = .ok (.sipush 128, 3) := by decide +kernel
theorem dX4_putToRest_46 : decode cX4_putToRest 46 = .ok (.invokevirtual 53, 3) := by decide +kernel
theorem dX4_putToRest_49 : decode cX4_putToRest 49 = .ok (.ifCond .eq 17, 3) := by decide +kernel
theorem dX4_putToRest_52 : decode cX4_putToRest 52 = .ok (.aload_n 0, 1) := by decide +kernel
theorem dX4_putToRest_53 : decode cX4_putToRest 53 = .ok (.iload_n 1, 1) := by decide +kernel
theorem dX4_putToRest_54 : decode cX4_putToRest 54 = .ok (.iconst 2, 1) := by decide +kernel
theorem dX4_putToRest_55 : decode cX4_putToRest 55 = .ok (.aload_n 0, 1) := by decide +kernel
theorem dX4_putToRest_56 : decode cX4_putToRest 56 = .ok (.iload_n 1, 1) := by decide +kernel
theorem dX4_putToRest_57 : decode cX4_putToRest 57 = .ok (.iconst 2, 1) := by decide +kernel
theorem dX4_putToRest_58 : decode cX4_putToRest 58 = .ok (.invokevirtual 15, 3) := by decide +kernel
theorem dX4_putToRest_61 : decode cX4_putToRest 61 = .ok (.iconst 1, 1) := by decide +kernel
theorem dX4_putToRest_62 : decode cX4_putToRest 62 = .ok (.ishr, 1) := by decide +kernel
theorem dX4_putToRest_63 : decode cX4_putToRest 63 = .ok (.invokevirtual 50, 3) := by decide +kernel
theorem dX4_putToRest_66 : decode cX4_putToRest 66 = .ok (.aload_n 0, 1) := by decide +kernel
theorem dX4_putToRest_67 : decode cX4_putToRest 67 = .ok (.iload_n 1, 1) := by decide +kernel
theorem dX4_putToRest_68 : decode cX4_putToRest 68 = .ok (.sipush 512, 3) := by decide +kernel
theorem dX4_putToRest_71 : decode cX4_putToRest 71 = .ok (.invokevirtual 53, 3) := by decide +kernel
theorem dX4_putToRest_74 : decode cX4_putToRest 74 = .ok (.ifCond .eq 11, 3) := by decide +kernel
theorem dX4_putToRest_77 : decode cX4_putToRest 77 = .ok (.aload_n 0, 1) := by decide +kernel
theorem dX4_putToRest_78 : decode cX4_putToRest 78 = .ok (.iload_n 1, 1) := by decide +kernel
theorem dX4_putToRest_79 : decode cX4_putToRest 79 = .ok (.bipush 6, 2) := by decide +kernel
theorem dX4_putToRest_81 : decode cX4_putToRest 81 = .ok (.iconst 0, 1) := by decide +kernel
theorem dX4_putToRest_82 : decode cX4_putToRest 82 = .ok (.invokevirtual 50, 3) := by decide +kernel
theorem dX4_putToRest_85 : decode cX4_putToRest 85 = .ok (.aload_n 0, 1) := by decide +kernel
theorem dX4_putToRest_86 : decode cX4_putToRest 86 = .ok (.iload_n 1, 1) := by decide +kernel
theorem dX4_putToRest_87 : decode cX4_putToRest 87 = .ok (.sipush 1024, 3) := by decide +kernel
theorem dX4_putToRest_90 : decode cX4_putToRest 90 = .ok (.invokevirtual 53, 3) := by decide +kernel
theorem dX4_putToRest_93 : decode cX4_putToRest 93 = .ok (.ifCond .eq 12, 3) := by decide +kernel
theorem dX4_putToRest_96 : decode cX4_putToRest 96 = .ok (.aload_n 0, 1) := by decide +kernel
theorem dX4_putToRest_97 : decode cX4_putToRest 97 = .ok (.iload_n 1, 1) := by decide +kernel
theorem dX4_putToRest_98 : decode cX4_putToRest 98 = .ok (.bipush 6, 2) := by decide +kernel
theorem dX4_putToRest_100 : decode cX4_putToRest 100 = .ok (.bipush 100, 2) := by decide +kernel
theorem dX4_putToRest_102 : decode cX4_putToRest 102 = .ok (.invokevirtual 50, 3) := by decide +kernel
theorem dX4_putToRest_105 : decode cX4_putToRest 105 = .ok (.return_, 1) := by decide +kernel
theorem dX4_ticksBy_0 : decode cX4_ticksBy 0 = .ok (.iload_n 1, 1) := by decide +kernel
theorem dX4_ticksBy_1 : decode cX4_ticksBy 1 = .ok (.iconst (-1), 1) := by decide +kernel
theorem dX4_ticksBy_2 : decode cX4_ticksBy 2 = .ok (.if_icmp .ne 5, 3) := by decide +kernel
theorem dX4_ticksBy_5 : decode cX4_ticksBy 5 = .ok (.iconst 0, 1) := by decide +kernel
theorem dX4_ticksBy_6 : decode cX4_ticksBy 6 = .ok (.ireturn, 1) := by decide +kernel
theorem dX4_ticksBy_7 : decode cX4_ticksBy 7 = .ok (.iconst 0, 1) := by decide +kernel
theorem dX4_ticksBy_8 : decode cX4_ticksBy 8 = .ok (.istore_n 3, 1) := by decide +kernel
theorem dX4_ticksBy_9 : decode cX4_ticksBy 9 = .ok (.iconst 0, 1) := by decide +kernel
theorem dX4_ticksBy_10 : decode cX4_ticksBy 10 = .ok (.istore 4, 2) := by decide +kernel
theorem dX4_ticksBy_12 : decode cX4_ticksBy 12 = .ok (.iload 4, 2) := by decide +kernel
theorem dX4_ticksBy_14 : decode cX4_ticksBy 14 = .ok (.iload_n 2, 1) := by decide +kernel
theorem dX4_ticksBy_15 : decode cX4_ticksBy 15 = .ok (.if_icmp .ge 19, 3) := by decide +kernel
theorem dX4_ticksBy_18 : decode cX4_ticksBy 18 = .ok (.iload_n 3, 1) := by decide +kernel
theorem dX4_ticksBy_19 : decode cX4_ticksBy 19 = .ok (.aload_n 0, 1) := by decide +kernel
theorem dX4_ticksBy_20 : decode cX4_ticksBy 20 = .ok (.iload_n 1, 1) := by decide +kernel
theorem dX4_ticksBy_21 : decode cX4_ticksBy 21 = .ok (.iload 4, 2) := by decide +kernel
theorem dX4_ticksBy_23 : decode cX4_ticksBy 23 = .ok (.invokestatic 57, 3) := by decide +kernel
theorem dX4_ticksBy_26 : decode cX4_ticksBy 26 = .ok (.iadd, 1) := by decide +kernel
theorem dX4_ticksBy_27 : decode cX4_ticksBy 27 = .ok (.istore_n 3, 1) := by decide +kernel
theorem dX4_ticksBy_28 : decode cX4_ticksBy 28 = .ok (.iinc 4 1, 3) := by decide +kernel
theorem dX4_ticksBy_31 : decode cX4_ticksBy 31 = .ok (.goto (-19), 3) := by decide +kernel
theorem dX4_ticksBy_34 : decode cX4_ticksBy 34 = .ok (.iload_n 3, 1) := by decide +kernel
theorem dX4_ticksBy_35 : decode cX4_ticksBy 35 = .ok (.ireturn, 1) := by decide +kernel
theorem dX4_tick_0 : decode cX4_tick 0 = .ok (.aload_n 0, 1) := by decide +kernel
theorem dX4_tick_1 : decode cX4_tick 1 = .ok (.iload_n 1, 1) := by decide +kernel
theorem dX4_tick_2 : decode cX4_tick 2 = .ok (.sipush 1024, 3) := by decide +kernel
theorem dX4_tick_5 : decode cX4_tick 5 = .ok (.invokevirtual 53, 3) := by decide +kernel
theorem dX4_tick_8 : decode cX4_tick 8 = .ok (.ifCond .eq 21, 3) := by decide +kernel
theorem dX4_tick_11 : decode cX4_tick 11 = .ok (.aload_n 0, 1) := by decide +kernel
theorem dX4_tick_12 : decode cX4_tick 12 = .ok (.iload_n 1, 1) := by decide +kernel
theorem dX4_tick_13 : decode cX4_tick 13 = .ok (.bipush 6, 2) := by decide +kernel
theorem dX4_tick_15 : decode cX4_tick 15 = .ok (.iload_n 2, 1) := by decide +kernel
theorem dX4_tick_16 : decode cX4_tick 16 = .ok (.iconst 1, 1) := by decide +kernel
theorem dX4_tick_17 : decode cX4_tick 17 = .ok (.iadd, 1) := by decide +kernel
theorem dX4_tick_18 : decode cX4_tick 18 = .ok (.invokevirtual 9, 3) := by decide +kernel
theorem dX4_tick_21 : decode cX4_tick 21 = .ok (.aload_n 0, 1) := by decide +kernel
theorem dX4_tick_22 : decode cX4_tick 22 = .ok (.iload_n 1, 1) := by decide +kernel
theorem dX4_tick_23 : decode cX4_tick 23 = .ok (.bipush 6, 2) := by decide +kernel
theorem dX4_tick_25 : decode cX4_tick 25 = .ok (.invokevirtual 15, 3) := by decide +kernel
theorem dX4_tick_28 : decode cX4_tick 28 = .ok (.ireturn, 1) := by decide +kernel
theorem dX4_tick_29 : decode cX4_tick 29 = .ok (.aload_n 0, 1) := by decide +kernel
theorem dX4_tick_30 : decode cX4_tick 30 = .ok (.iload_n 1, 1) := by decide +kernel
theorem dX4_tick_31 : decode cX4_tick 31 = .ok (.bipush 9, 2) := by decide +kernel
theorem dX4_tick_33 : decode cX4_tick 33 = .ok (.iconst 3, 1) := by decide +kernel
theorem dX4_tick_34 : decode cX4_tick 34 = .ok (.aload_n 0, 1) := by decide +kernel
theorem dX4_tick_35 : decode cX4_tick 35 = .ok (.iload_n 1, 1) := by decide +kernel
theorem dX4_tick_36 : decode cX4_tick 36 = .ok (.bipush 9, 2) := by decide +kernel
theorem dX4_tick_38 : decode cX4_tick 38 = .ok (.invokevirtual 15, 3) := by decide +kernel
theorem dX4_tick_41 : decode cX4_tick 41 = .ok (.imul, 1) := by decide +kernel
theorem dX4_tick_42 : decode cX4_tick 42 = .ok (.iload_n 2, 1) := by decide +kernel
theorem dX4_tick_43 : decode cX4_tick 43 = .ok (.iadd, 1) := by decide +kernel
theorem dX4_tick_44 : decode cX4_tick 44 = .ok (.invokevirtual 50, 3) := by decide +kernel
theorem dX4_tick_47 : decode cX4_tick 47 = .ok (.aload_n 0, 1) := by decide +kernel
theorem dX4_tick_48 : decode cX4_tick 48 = .ok (.iload_n 1, 1) := by decide +kernel
theorem dX4_tick_49 : decode cX4_tick 49 = .ok (.bipush 9, 2) := by decide +kernel
theorem dX4_tick_51 : decode cX4_tick 51 = .ok (.invokevirtual 15, 3) := by decide +kernel
theorem dX4_tick_54 : decode cX4_tick 54 = .ok (.ireturn, 1) := by decide +kernel
theorem dX5_init_0 : decode cX5_init 0 = .ok (.aload_n 0, 1) := by decide +kernel
theorem dX5_init_1 : decode cX5_init 1 = .ok (.invokespecial 3, 3) := by decide +kernel
theorem dX5_init_4 : decode cX5_init 4 = .ok (.aload_n 0, 1) := by decide +kernel
theorem dX5_init_5 : decode cX5_init 5 = .ok (.bipush 16, 2) := by decide +kernel
theorem dX5_init_7 : decode cX5_init 7 = .ok (.anewarray 9, 3) := by decide +kernel
theorem dX5_init_10 : decode cX5_init 10 = .ok (.putfield 11, 3) := by decide +kernel
theorem dX5_init_13 : decode cX5_init 13 = .ok (.aload_n 0, 1) := by decide +kernel
theorem dX5_init_14 : decode cX5_init 14 = .ok (.iconst 0, 1) := by decide +kernel
theorem dX5_init_15 : decode cX5_init 15 = .ok (.putfield 17, 3) := by decide +kernel
theorem dX5_init_18 : decode cX5_init 18 = .ok (.aload_n 0, 1) := by decide +kernel
theorem dX5_init_19 : decode cX5_init 19 = .ok (.iconst 0, 1) := by decide +kernel
theorem dX5_init_20 : decode cX5_init 20 = .ok (.putfield 21, 3) := by decide +kernel
theorem dX5_init_23 : decode cX5_init 23 = .ok (.return_, 1) := by decide +kernel
theorem dX5_startAnew_0 : decode cX5_startAnew 0 = .ok (.aload_n 0, 1) := by decide +kernel
theorem dX5_startAnew_1 : decode cX5_startAnew 1 = .ok (.iconst 0, 1) := by decide +kernel
theorem dX5_startAnew_2 : decode cX5_startAnew 2 = .ok (.putfield 17, 3) := by decide +kernel
theorem dX5_startAnew_5 : decode cX5_startAnew 5 = .ok (.aload_n 0, 1) := by decide +kernel
theorem dX5_startAnew_6 : decode cX5_startAnew 6 = .ok (.iconst 1, 1) := by decide +kernel
theorem dX5_startAnew_7 : decode cX5_startAnew 7 = .ok (.putfield 21, 3) := by decide +kernel
theorem dX5_startAnew_10 : decode cX5_startAnew 10 = .ok (.return_, 1) := by decide +kernel
theorem dX5_isFull_0 : decode cX5_isFull 0 = .ok (.aload_n 0, 1) := by decide +kernel
theorem dX5_isFull_1 : decode cX5_isFull 1 = .ok (.getfield 17, 3) := by decide +kernel
theorem dX5_isFull_4 : decode cX5_isFull 4 = .ok (.aload_n 0, 1) := by decide +kernel
theorem dX5_isFull_5 : decode cX5_isFull 5 = .ok (.getfield 11, 3) := by decide +kernel
theorem dX5_isFull_8 : decode cX5_isFull 8 = .ok (.arraylength, 1) := by decide +kernel
theorem dX5_isFull_9 : decode cX5_isFull 9 = .ok (.if_icmp .lt 7, 3) := by decide +kernel
theorem dX5_isFull_12 : decode cX5_isFull 12 = .ok (.iconst 1, 1) := by decide +kernel
theorem dX5_isFull_13 : decode cX5_isFull 13 = .ok (.goto 4, 3) := by decide +kernel
theorem dX5_isFull_16 : decode cX5_isFull 16 = .ok (.iconst 0, 1) := by decide +kernel
theorem dX5_isFull_17 : decode cX5_isFull 17 = .ok (.ireturn, 1) := by decide +kernel
theorem dX5_add_0 : decode cX5_add 0 = .ok (.aload_n 0, 1) := by decide +kernel
theorem dX5_add_1 : decode cX5_add 1 = .ok (.getfield 17, 3) := by decide +kernel
theorem dX5_add_4 : decode cX5_add 4 = .ok (.ifCond .lt 35, 3) := by decide +kernel
theorem dX5_add_7 : decode cX5_add 7 = .ok (.aload_n 0, 1) := by decide +kernel
theorem dX5_add_8 : decode cX5_add 8 = .ok (.getfield 17, 3) := by decide +kernel
theorem dX5_add_11 : decode cX5_add 11 = .ok (.aload_n 0, 1) := by decide +kernel
theorem dX5_add_12 : decode cX5_add 12 = .ok (.getfield 11, 3) := by decide +kernel
theorem dX5_add_15 : decode cX5_add 15 = .ok (.arraylength, 1) := by decide +kernel
theorem dX5_add_16 : decode cX5_add 16 = .ok (.if_icmp .ge 23, 3) := by decide +kernel
theorem dX5_add_19 : decode cX5_add 19 = .ok (.aload_n 0, 1) := by decide +kernel
theorem dX5_add_20 : decode cX5_add 20 = .ok (.getfield 11, 3) := by decide +kernel
theorem dX5_add_23 : decode cX5_add 23 = .ok (.aload_n 0, 1) := by decide +kernel
theorem dX5_add_24 : decode cX5_add 24 = .ok (.getfield 17, 3) := by decide +kernel
theorem dX5_add_27 : decode cX5_add 27 = .ok (.aload_n 1, 1) := by decide +kernel
theorem dX5_add_28 : decode cX5_add 28 = .ok (.aastore, 1) := by decide +kernel
theorem dX5_add_29 : decode cX5_add 29 = .ok (.aload_n 0, 1) := by decide +kernel
theorem dX5_add_30 : decode cX5_add 30 = .ok (.dup, 1) := by decide +kernel
theorem dX5_add_31 : decode cX5_add 31 = .ok (.getfield 17, 3) := by decide +kernel
theorem dX5_add_34 : decode cX5_add 34 = .ok (.iconst 1, 1) := by decide +kernel
theorem dX5_add_35 : decode cX5_add 35 = .ok (.iadd, 1) := by decide +kernel
theorem dX5_add_36 : decode cX5_add 36 = .ok (.putfield 17, 3) := by decide +kernel
theorem dX5_add_39 : decode cX5_add 39 = .ok (.aload_n 0, 1) := by decide +kernel
theorem dX5_add_40 : decode cX5_add 40 = .ok (.getfield 17, 3) := by decide +kernel
theorem dX5_add_43 : decode cX5_add 43 = .ok (.ireturn, 1) := by decide +kernel
theorem dX5_lineNumbered_0 : decode cX5_lineNumbered 0 = .ok (.iload_n 1, 1) := by decide +kernel
theorem dX5_lineNumbered_1 : decode cX5_lineNumbered 1 = .ok (.iconst 1, 1) := by decide +kernel
theorem dX5_lineNumbered_2 : decode cX5_lineNumbered 2 = .ok (.if_icmp .lt 23, 3) := by decide +kernel
theorem dX5_lineNumbered_5 : decode cX5_lineNumbered 5 = .ok (.iload_n 1, 1) := by decide +kernel
theorem dX5_lineNumbered_6 : decode cX5_lineNumbered 6 = .ok (.aload_n 0, 1) := by decide +kernel
theorem dX5_lineNumbered_7 : decode cX5_lineNumbered 7 = .ok (.getfield 11, 3) := by decide +kernel
theorem dX5_lineNumbered_10 : decode cX5_lineNumbered 10 = .ok (.arraylength, 1) := by decide +kernel
theorem dX5_lineNumbered_11 : decode cX5_lineNumbered 11 = .ok (.if_icmp .gt 14, 3) := by decide +kernel
theorem dX5_lineNumbered_14 : decode cX5_lineNumbered 14 = .ok (.aload_n 0, 1) := by decide +kernel
theorem dX5_lineNumbered_15 : decode cX5_lineNumbered 15 = .ok (.getfield 11, 3) := by decide +kernel
theorem dX5_lineNumbered_18 : decode cX5_lineNumbered 18 = .ok (.iload_n 1, 1) := by decide +kernel
theorem dX5_lineNumbered_19 : decode cX5_lineNumbered 19 = .ok (.iconst 1, 1) := by decide +kernel
theorem dX5_lineNumbered_20 : decode cX5_lineNumbered 20 = .ok (.isub, 1) := by decide +kernel
theorem dX5_lineNumbered_21 : decode cX5_lineNumbered 21 = .ok (.aaload, 1) := by decide +kernel
theorem dX5_lineNumbered_22 : decode cX5_lineNumbered 22 = .ok (.goto 4, 3) := by decide +kernel
theorem dX5_lineNumbered_25 : decode cX5_lineNumbered 25 = .ok (.aconst_null, 1) := by decide +kernel
theorem dX5_lineNumbered_26 : decode cX5_lineNumbered 26 = .ok (.areturn, 1) := by decide +kernel
theorem dX6_init_0 : decode cX6_init 0 = .ok (.aload_n 0, 1) := by decide +kernel
theorem dX6_init_1 : decode cX6_init 1 = .ok (.invokespecial 5, 3) := by decide +kernel
theorem dX6_init_4 : decode cX6_init 4 = .ok (.aload_n 0, 1) := by decide +kernel
theorem dX6_init_5 : decode cX6_init 5 = .ok (.sipush 1397, 3) := by decide +kernel
theorem dX6_init_8 : decode cX6_init 8 = .ok (.newarray .long, 2) := by decide +kernel
theorem dX6_init_10 : decode cX6_init 10 = .ok (.putfield 11, 3) := by decide +kernel
theorem dX6_init_13 : decode cX6_init 13 = .ok (.aload_n 0, 1) := by decide +kernel
theorem dX6_init_14 : decode cX6_init 14 = .ok (.sipush 1397, 3) := by decide +kernel
theorem dX6_init_17 : decode cX6_init 17 = .ok (.newarray .long, 2) := by decide +kernel
theorem dX6_init_19 : decode cX6_init 19 = .ok (.putfield 15, 3) := by decide +kernel
theorem dX6_init_22 : decode cX6_init 22 = .ok (.aload_n 0, 1) := by decide +kernel
theorem dX6_init_23 : decode cX6_init 23 = .ok (.aconst_null, 1) := by decide +kernel
theorem dX6_init_24 : decode cX6_init 24 = .ok (.putfield 18, 3) := by decide +kernel
theorem dX6_init_27 : decode cX6_init 27 = .ok (.aload_n 0, 1) := by decide +kernel
theorem dX6_init_28 : decode cX6_init 28 = .ok (.iconst 0, 1) := by decide +kernel
theorem dX6_init_29 : decode cX6_init 29 = .ok (.putfield 22, 3) := by decide +kernel
theorem dX6_init_32 : decode cX6_init 32 = .ok (.iconst 0, 1) := by decide +kernel
theorem dX6_init_33 : decode cX6_init 33 = .ok (.istore_n 1, 1) := by decide +kernel
theorem dX6_init_34 : decode cX6_init 34 = .ok (.iload_n 1, 1) := by decide +kernel
theorem dX6_init_35 : decode cX6_init 35 = .ok (.bipush 16, 2) := by decide +kernel
theorem dX6_init_37 : decode cX6_init 37 = .ok (.if_icmp .ge 27, 3) := by decide +kernel
theorem dX6_init_40 : decode cX6_init 40 = .ok (.aload_n 0, 1) := by decide +kernel
theorem dX6_init_41 : decode cX6_init 41 = .ok (.getfield 11, 3) := by decide +kernel
theorem dX6_init_44 : decode cX6_init 44 = .ok (.iload_n 1, 1) := by decide +kernel
theorem dX6_init_45 : decode cX6_init 45 = .ok (.ldc2_w 26, 3) := by decide +kernel
theorem dX6_init_48 : decode cX6_init 48 = .ok (.lastore, 1) := by decide +kernel
theorem dX6_init_49 : decode cX6_init 49 = .ok (.aload_n 0, 1) := by decide +kernel
theorem dX6_init_50 : decode cX6_init 50 = .ok (.getfield 15, 3) := by decide +kernel
theorem dX6_init_53 : decode cX6_init 53 = .ok (.iload_n 1, 1) := by decide +kernel
theorem dX6_init_54 : decode cX6_init 54 = .ok (.ldc2_w 26, 3) := by decide +kernel
theorem dX6_init_57 : decode cX6_init 57 = .ok (.lastore, 1) := by decide +kernel
theorem dX6_init_58 : decode cX6_init 58 = .ok (.iinc 1 1, 3) := by decide +kernel
theorem dX6_init_61 : decode cX6_init 61 = .ok (.goto (-27), 3) := by decide +kernel
theorem dX6_init_64 : decode cX6_init 64 = .ok (.return_, 1) := by decide +kernel
theorem dX6_onShelf_0 : decode cX6_onShelf 0 = .ok (.iload_n 1, 1) := by decide +kernel
theorem dX6_onShelf_1 : decode cX6_onShelf 1 = .ok (.invokestatic 28, 3) := by decide +kernel
theorem dX6_onShelf_4 : decode cX6_onShelf 4 = .ok (.ifCond .eq 13, 3) := by decide +kernel
theorem dX6_onShelf_7 : decode cX6_onShelf 7 = .ok (.aload_n 0, 1) := by decide +kernel
theorem dX6_onShelf_8 : decode cX6_onShelf 8 = .ok (.getfield 11, 3) := by decide +kernel
theorem dX6_onShelf_11 : decode cX6_onShelf 11 = .ok (.iload_n 1, 1) := by decide +kernel
theorem dX6_onShelf_12 : decode cX6_onShelf 12 = .ok (.laload, 1) := by decide +kernel
theorem dX6_onShelf_13 : decode cX6_onShelf 13 = .ok (.l2i, 1) := by decide +kernel
theorem dX6_onShelf_14 : decode cX6_onShelf 14 = .ok (.goto 4, 3) := by decide +kernel
theorem dX6_onShelf_17 : decode cX6_onShelf 17 = .ok (.iconst (-1), 1) := by decide +kernel
theorem dX6_onShelf_18 : decode cX6_onShelf 18 = .ok (.ireturn, 1) := by decide +kernel
theorem dX6_setShelf_0 : decode cX6_setShelf 0 = .ok (.iload_n 1, 1) := by decide +kernel
theorem dX6_setShelf_1 : decode cX6_setShelf 1 = .ok (.invokestatic 28, 3) := by decide +kernel
theorem dX6_setShelf_4 : decode cX6_setShelf 4 = .ok (.ifCond .eq 11, 3) := by decide +kernel
theorem dX6_setShelf_7 : decode cX6_setShelf 7 = .ok (.aload_n 0, 1) := by decide +kernel
theorem dX6_setShelf_8 : decode cX6_setShelf 8 = .ok (.getfield 11, 3) := by decide +kernel
theorem dX6_setShelf_11 : decode cX6_setShelf 11 = .ok (.iload_n 1, 1) := by decide +kernel
theorem dX6_setShelf_12 : decode cX6_setShelf 12 = .ok (.iload_n 2, 1) := by decide +kernel
theorem dX6_setShelf_13 : decode cX6_setShelf 13 = .ok (.i2l, 1) := by decide +kernel
theorem dX6_setShelf_14 : decode cX6_setShelf 14 = .ok (.lastore, 1) := by decide +kernel
theorem dX6_setShelf_15 : decode cX6_setShelf 15 = .ok (.return_, 1) := by decide +kernel
theorem dX6_thingsMade_0 : decode cX6_thingsMade 0 = .ok (.aload_n 0, 1) := by decide +kernel
theorem dX6_thingsMade_1 : decode cX6_thingsMade 1 = .ok (.getfield 11, 3) := by decide +kernel
theorem dX6_thingsMade_4 : decode cX6_thingsMade 4 = .ok (.bipush 16, 2) := by decide +kernel
theorem dX6_thingsMade_6 : decode cX6_thingsMade 6 = .ok (.laload, 1) := by decide +kernel
theorem dX6_thingsMade_7 : decode cX6_thingsMade 7 = .ok (.l2i, 1) := by decide +kernel
theorem dX6_thingsMade_8 : decode cX6_thingsMade 8 = .ok (.ireturn, 1) := by decide +kernel
theorem dX6_add_0 : decode cX6_add 0 = .ok (.aload_n 0, 1) := by decide +kernel
theorem dX6_add_1 : decode cX6_add 1 = .ok (.invokevirtual 32, 3) := by decide +kernel
theorem dX6_add_4 : decode cX6_add 4 = .ok (.istore_n 3, 1) := by decide +kernel
theorem dX6_add_5 : decode cX6_add 5 = .ok (.aload_n 0, 1) := by decide +kernel
theorem dX6_add_6 : decode cX6_add 6 = .ok (.getfield 11, 3) := by decide +kernel
theorem dX6_add_9 : decode cX6_add 9 = .ok (.bipush 16, 2) := by decide +kernel
theorem dX6_add_11 : decode cX6_add 11 = .ok (.iload_n 3, 1) := by decide +kernel
theorem dX6_add_12 : decode cX6_add 12 = .ok (.iconst 1, 1) := by decide +kernel
theorem dX6_add_13 : decode cX6_add 13 = .ok (.iadd, 1) := by decide +kernel
theorem dX6_add_14 : decode cX6_add 14 = .ok (.i2l, 1) := by decide +kernel
theorem dX6_add_15 : decode cX6_add 15 = .ok (.lastore, 1) := by decide +kernel
theorem dX6_add_16 : decode cX6_add 16 = .ok (.aload_n 0, 1) := by decide +kernel
theorem dX6_add_17 : decode cX6_add 17 = .ok (.iload_n 3, 1) := by decide +kernel
theorem dX6_add_18 : decode cX6_add 18 = .ok (.iconst 0, 1) := by decide +kernel
theorem dX6_add_19 : decode cX6_add 19 = .ok (.iload_n 1, 1) := by decide +kernel
theorem dX6_add_20 : decode cX6_add 20 = .ok (.invokevirtual 36, 3) := by decide +kernel
theorem dX6_add_23 : decode cX6_add 23 = .ok (.aload_n 0, 1) := by decide +kernel
theorem dX6_add_24 : decode cX6_add 24 = .ok (.iload_n 3, 1) := by decide +kernel
theorem dX6_add_25 : decode cX6_add 25 = .ok (.iconst 1, 1) := by decide +kernel
theorem dX6_add_26 : decode cX6_add 26 = .ok (.iload_n 3, 1) := by decide +kernel
theorem dX6_add_27 : decode cX6_add 27 = .ok (.invokevirtual 36, 3) := by decide +kernel
theorem dX6_add_30 : decode cX6_add 30 = .ok (.iload_n 1, 1) := by decide +kernel
theorem dX6_add_31 : decode cX6_add 31 = .ok (.iconst 1, 1) := by decide +kernel
theorem dX6_add_32 : decode cX6_add 32 = .ok (.invokestatic 40, 3) := by decide +kernel
theorem dX6_add_35 : decode cX6_add 35 = .ok (.ifCond .eq 11, 3) := by decide +kernel
theorem dX6_add_38 : decode cX6_add 38 = .ok (.aload_n 0, 1) := by decide +kernel
theorem dX6_add_39 : decode cX6_add 39 = .ok (.iload_n 3, 1) := by decide +kernel
theorem dX6_add_40 : decode cX6_add 40 = .ok (.iconst 2, 1) := by decide +kernel
theorem dX6_add_41 : decode cX6_add 41 = .ok (.bipush 8, 2) := by decide +kernel
theorem dX6_add_43 : decode cX6_add 43 = .ok (.invokevirtual 36, 3) := by decide +kernel
theorem dX6_add_46 : decode cX6_add 46 = .ok (.iload_n 1, 1) := by decide +kernel
theorem dX6_add_47 : decode cX6_add 47 = .ok (.ldc 46, 2) := by decide +kernel
theorem dX6_add_49 : decode cX6_add 49 = .ok (.invokestatic 40, 3) := by decide +kernel
theorem dX6_add_52 : decode cX6_add 52 = .ok (.ifCond .eq 11, 3) := by decide +kernel
theorem dX6_add_55 : decode cX6_add 55 = .ok (.aload_n 0, 1) := by decide +kernel
theorem dX6_add_56 : decode cX6_add 56 = .ok (.iload_n 3, 1) := by decide +kernel
theorem dX6_add_57 : decode cX6_add 57 = .ok (.bipush 10, 2) := by decide +kernel
theorem dX6_add_59 : decode cX6_add 59 = .ok (.iload_n 2, 1) := by decide +kernel
theorem dX6_add_60 : decode cX6_add 60 = .ok (.invokevirtual 36, 3) := by decide +kernel
theorem dX6_add_63 : decode cX6_add 63 = .ok (.iload_n 1, 1) := by decide +kernel
theorem dX6_add_64 : decode cX6_add 64 = .ok (.ldc 47, 2) := by decide +kernel
theorem dX6_add_66 : decode cX6_add 66 = .ok (.invokestatic 40, 3) := by decide +kernel
theorem dX6_add_69 : decode cX6_add 69 = .ok (.ifCond .eq 28, 3) := by decide +kernel
theorem dX6_add_72 : decode cX6_add 72 = .ok (.iconst 0, 1) := by decide +kernel
theorem dX6_add_73 : decode cX6_add 73 = .ok (.istore 4, 2) := by decide +kernel
theorem dX6_add_75 : decode cX6_add 75 = .ok (.iload 4, 2) := by decide +kernel
theorem dX6_add_77 : decode cX6_add 77 = .ok (.iload_n 2, 1) := by decide +kernel
theorem dX6_add_78 : decode cX6_add 78 = .ok (.if_icmp .ge 19, 3) := by decide +kernel
theorem dX6_add_81 : decode cX6_add 81 = .ok (.aload_n 0, 1) := by decide +kernel
theorem dX6_add_82 : decode cX6_add 82 = .ok (.iload_n 3, 1) := by decide +kernel
theorem dX6_add_83 : decode cX6_add 83 = .ok (.iload 4, 2) := by decide +kernel
theorem dX6_add_85 : decode cX6_add 85 = .ok (.ldc2_w 26, 3) := by decide +kernel
theorem dX6_add_88 : decode cX6_add 88 = .ok (.invokevirtual 48, 3) := by decide +kernel
theorem dX6_add_91 : decode cX6_add 91 = .ok (.iinc 4 1, 3) := by decide +kernel
theorem dX6_add_94 : decode cX6_add 94 = .ok (.goto (-19), 3) := by decide +kernel
theorem dX6_add_97 : decode cX6_add 97 = .ok (.iload_n 3, 1) := by decide +kernel
theorem dX6_add_98 : decode cX6_add 98 = .ok (.ireturn, 1) := by decide +kernel
theorem dX6_trait_0 : decode cX6_trait 0 = .ok (.bipush 17, 2) := by decide +kernel
theorem dX6_trait_2 : decode cX6_trait 2 = .ok (.iload_n 1, 1) := by decide +kernel
theorem dX6_trait_3 : decode cX6_trait 3 = .ok (.bipush 23, 2) := by decide +kernel
theorem dX6_trait_5 : decode cX6_trait 5 = .ok (.imul, 1) := by decide +kernel
theorem dX6_trait_6 : decode cX6_trait 6 = .ok (.iadd, 1) := by decide +kernel
theorem dX6_trait_7 : decode cX6_trait 7 = .ok (.iload_n 2, 1) := by decide +kernel
theorem dX6_trait_8 : decode cX6_trait 8 = .ok (.iadd, 1) := by decide +kernel
theorem dX6_trait_9 : decode cX6_trait 9 = .ok (.istore_n 3, 1) := by decide +kernel
theorem dX6_trait_10 : decode cX6_trait 10 = .ok (.iload_n 3, 1) := by decide +kernel
theorem dX6_trait_11 : decode cX6_trait 11 = .ok (.bipush 17, 2) := by decide +kernel
theorem dX6_trait_13 : decode cX6_trait 13 = .ok (.if_icmp .lt 22, 3) := by decide +kernel
theorem dX6_trait_16 : decode cX6_trait 16 = .ok (.iload_n 3, 1) := by decide +kernel
theorem dX6_trait_17 : decode cX6_trait 17 = .ok (.aload_n 0, 1) := by decide +kernel
theorem dX6_trait_18 : decode cX6_trait 18 = .ok (.getfield 11, 3) := by decide +kernel
theorem dX6_trait_21 : decode cX6_trait 21 = .ok (.arraylength, 1) := by decide +kernel
theorem dX6_trait_22 : decode cX6_trait 22 = .ok (.if_icmp .ge 13, 3) := by decide +kernel
theorem dX6_trait_25 : decode cX6_trait 25 = .ok (.aload_n 0, 1) := by decide +kernel
theorem dX6_trait_26 : decode cX6_trait 26 = .ok (.getfield 11, 3) := by decide +kernel
theorem dX6_trait_29 : decode cX6_trait 29 = .ok (.iload_n 3, 1) := by decide +kernel
theorem dX6_trait_30 : decode cX6_trait 30 = .ok (.laload, 1) := by decide +kernel
theorem dX6_trait_31 : decode cX6_trait 31 = .ok (.l2i, 1) := by decide +kernel
theorem dX6_trait_32 : decode cX6_trait 32 = .ok (.goto 4, 3) := by decide +kernel
theorem dX6_trait_35 : decode cX6_trait 35 = .ok (.iconst 0, 1) := by decide +kernel
theorem dX6_trait_36 : decode cX6_trait 36 = .ok (.ireturn, 1) := by decide +kernel
theorem dX6_setTrait_0 : decode cX6_setTrait 0 = .ok (.bipush 17, 2) := by decide +kernel
theorem dX6_setTrait_2 : decode cX6_setTrait 2 = .ok (.iload_n 1, 1) := by decide +kernel
theorem dX6_setTrait_3 : decode cX6_setTrait 3 = .ok (.bipush 23, 2) := by decide +kernel
theorem dX6_setTrait_5 : decode cX6_setTrait 5 = .ok (.imul, 1) := by decide +kernel
theorem dX6_setTrait_6 : decode cX6_setTrait 6 = .ok (.iadd, 1) := by decide +kernel
theorem dX6_setTrait_7 : decode cX6_setTrait 7 = .ok (.iload_n 2, 1) := by decide +kernel
theorem dX6_setTrait_8 : decode cX6_setTrait 8 = .ok (.iadd, 1) := by decide +kernel
theorem dX6_setTrait_9 : decode cX6_setTrait 9 = .ok (.istore 4, 2) := by decide +kernel
theorem dX6_setTrait_11 : decode cX6_setTrait 11 = .ok (.iload 4, 2) := by decide +kernel
theorem dX6_setTrait_13 : decode cX6_setTrait 13 = .ok (.bipush 17, 2) := by decide +kernel
theorem dX6_setTrait_15 : decode cX6_setTrait 15 = .ok (.if_icmp .lt 22, 3) := by decide +kernel
theorem dX6_setTrait_18 : decode cX6_setTrait 18 = .ok (.iload 4, 2) := by decide +kernel
theorem dX6_setTrait_20 : decode cX6_setTrait 20 = .ok (.aload_n 0, 1) := by decide +kernel
theorem dX6_setTrait_21 : decode cX6_setTrait 21 = .ok (.getfield 11, 3) := by decide +kernel
theorem dX6_setTrait_24 : decode cX6_setTrait 24 = .ok (.arraylength, 1) := by decide +kernel
theorem dX6_setTrait_25 : decode cX6_setTrait 25 = .ok (.if_icmp .ge 12, 3) := by decide +kernel
theorem dX6_setTrait_28 : decode cX6_setTrait 28 = .ok (.aload_n 0, 1) := by decide +kernel
theorem dX6_setTrait_29 : decode cX6_setTrait 29 = .ok (.getfield 11, 3) := by decide +kernel
theorem dX6_setTrait_32 : decode cX6_setTrait 32 = .ok (.iload 4, 2) := by decide +kernel
theorem dX6_setTrait_34 : decode cX6_setTrait 34 = .ok (.iload_n 3, 1) := by decide +kernel
theorem dX6_setTrait_35 : decode cX6_setTrait 35 = .ok (.i2l, 1) := by decide +kernel
theorem dX6_setTrait_36 : decode cX6_setTrait 36 = .ok (.lastore, 1) := by decide +kernel
theorem dX6_setTrait_37 : decode cX6_setTrait 37 = .ok (.return_, 1) := by decide +kernel
theorem dX6_grow_0 : decode cX6_grow 0 = .ok (.bipush 17, 2) := by decide +kernel
theorem dX6_grow_2 : decode cX6_grow 2 = .ok (.iload_n 1, 1) := by decide +kernel
theorem dX6_grow_3 : decode cX6_grow 3 = .ok (.bipush 23, 2) := by decide +kernel
theorem dX6_grow_5 : decode cX6_grow 5 = .ok (.imul, 1) := by decide +kernel
theorem dX6_grow_6 : decode cX6_grow 6 = .ok (.iadd, 1) := by decide +kernel
theorem dX6_grow_7 : decode cX6_grow 7 = .ok (.iload_n 2, 1) := by decide +kernel
theorem dX6_grow_8 : decode cX6_grow 8 = .ok (.iadd, 1) := by decide +kernel
theorem dX6_grow_9 : decode cX6_grow 9 = .ok (.istore 4, 2) := by decide +kernel
theorem dX6_grow_11 : decode cX6_grow 11 = .ok (.iload 4, 2) := by decide +kernel
theorem dX6_grow_13 : decode cX6_grow 13 = .ok (.bipush 17, 2) := by decide +kernel
theorem dX6_grow_15 : decode cX6_grow 15 = .ok (.if_icmp .lt 31, 3) := by decide +kernel
theorem dX6_grow_18 : decode cX6_grow 18 = .ok (.iload 4, 2) := by decide +kernel
theorem dX6_grow_20 : decode cX6_grow 20 = .ok (.aload_n 0, 1) := by decide +kernel
theorem dX6_grow_21 : decode cX6_grow 21 = .ok (.getfield 11, 3) := by decide +kernel
theorem dX6_grow_24 : decode cX6_grow 24 = .ok (.arraylength, 1) := by decide +kernel
theorem dX6_grow_25 : decode cX6_grow 25 = .ok (.if_icmp .ge 21, 3) := by decide +kernel
theorem dX6_grow_28 : decode cX6_grow 28 = .ok (.aload_n 0, 1) := by decide +kernel
theorem dX6_grow_29 : decode cX6_grow 29 = .ok (.getfield 11, 3) := by decide +kernel
theorem dX6_grow_32 : decode cX6_grow 32 = .ok (.iload 4, 2) := by decide +kernel
theorem dX6_grow_34 : decode cX6_grow 34 = .ok (.aload_n 0, 1) := by decide +kernel
theorem dX6_grow_35 : decode cX6_grow 35 = .ok (.getfield 11, 3) := by decide +kernel
theorem dX6_grow_38 : decode cX6_grow 38 = .ok (.iload 4, 2) := by decide +kernel
theorem dX6_grow_40 : decode cX6_grow 40 = .ok (.laload, 1) := by decide +kernel
theorem dX6_grow_41 : decode cX6_grow 41 = .ok (.l2i, 1) := by decide +kernel
theorem dX6_grow_42 : decode cX6_grow 42 = .ok (.iload_n 3, 1) := by decide +kernel
theorem dX6_grow_43 : decode cX6_grow 43 = .ok (.iadd, 1) := by decide +kernel
theorem dX6_grow_44 : decode cX6_grow 44 = .ok (.i2l, 1) := by decide +kernel
theorem dX6_grow_45 : decode cX6_grow 45 = .ok (.lastore, 1) := by decide +kernel
theorem dX6_grow_46 : decode cX6_grow 46 = .ok (.return_, 1) := by decide +kernel
theorem dX6_isIn_0 : decode cX6_isIn 0 = .ok (.iload_n 1, 1) := by decide +kernel
theorem dX6_isIn_1 : decode cX6_isIn 1 = .ok (.iconst (-1), 1) := by decide +kernel
theorem dX6_isIn_2 : decode cX6_isIn 2 = .ok (.if_icmp .eq 20, 3) := by decide +kernel
theorem dX6_isIn_5 : decode cX6_isIn 5 = .ok (.aload_n 0, 1) := by decide +kernel
theorem dX6_isIn_6 : decode cX6_isIn 6 = .ok (.iload_n 1, 1) := by decide +kernel
theorem dX6_isIn_7 : decode cX6_isIn 7 = .ok (.iconst 0, 1) := by decide +kernel
theorem dX6_isIn_8 : decode cX6_isIn 8 = .ok (.invokevirtual 52, 3) := by decide +kernel
theorem dX6_isIn_11 : decode cX6_isIn 11 = .ok (.iload_n 2, 1) := by decide +kernel
theorem dX6_isIn_12 : decode cX6_isIn 12 = .ok (.invokestatic 40, 3) := by decide +kernel
theorem dX6_isIn_15 : decode cX6_isIn 15 = .ok (.ifCond .eq 7, 3) := by decide +kernel
theorem dX6_isIn_18 : decode cX6_isIn 18 = .ok (.iconst 1, 1) := by decide +kernel
theorem dX6_isIn_19 : decode cX6_isIn 19 = .ok (.goto 4, 3) := by decide +kernel
theorem dX6_isIn_22 : decode cX6_isIn 22 = .ok (.iconst 0, 1) := by decide +kernel
theorem dX6_isIn_23 : decode cX6_isIn 23 = .ok (.ireturn, 1) := by decide +kernel
theorem dX6_places_0 : decode cX6_places 0 = .ok (.aload_n 0, 1) := by decide +kernel
theorem dX6_places_1 : decode cX6_places 1 = .ok (.iload_n 1, 1) := by decide +kernel
theorem dX6_places_2 : decode cX6_places 2 = .ok (.bipush 10, 2) := by decide +kernel
theorem dX6_places_4 : decode cX6_places 4 = .ok (.invokevirtual 52, 3) := by decide +kernel
theorem dX6_places_7 : decode cX6_places 7 = .ok (.ireturn, 1) := by decide +kernel
theorem dX6_hasPlace_0 : decode cX6_hasPlace 0 = .ok (.iload_n 2, 1) := by decide +kernel
theorem dX6_hasPlace_1 : decode cX6_hasPlace 1 = .ok (.ifCond .lt 18, 3) := by decide +kernel
theorem dX6_hasPlace_4 : decode cX6_hasPlace 4 = .ok (.iload_n 2, 1) := by decide +kernel
theorem dX6_hasPlace_5 : decode cX6_hasPlace 5 = .ok (.aload_n 0, 1) := by decide +kernel
theorem dX6_hasPlace_6 : decode cX6_hasPlace 6 = .ok (.iload_n 1, 1) := by decide +kernel
theorem dX6_hasPlace_7 : decode cX6_hasPlace 7 = .ok (.bipush 10, 2) := by decide +kernel
theorem dX6_hasPlace_9 : decode cX6_hasPlace 9 = .ok (.invokevirtual 52, 3) := by decide +kernel
theorem dX6_hasPlace_12 : decode cX6_hasPlace 12 = .ok (.if_icmp .ge 7, 3) := by decide +kernel
theorem dX6_hasPlace_15 : decode cX6_hasPlace 15 = .ok (.iconst 1, 1) := by decide +kernel
theorem dX6_hasPlace_16 : decode cX6_hasPlace 16 = .ok (.goto 4, 3) := by decide +kernel
theorem dX6_hasPlace_19 : decode cX6_hasPlace 19 = .ok (.iconst 0, 1) := by decide +kernel
theorem dX6_hasPlace_20 : decode cX6_hasPlace 20 = .ok (.ireturn, 1) := by decide +kernel
theorem dX6_hasPlaces_0 : decode cX6_hasPlaces 0 = .ok (.iload_n 2, 1) := by decide +kernel
theorem dX6_hasPlaces_1 : decode cX6_hasPlaces 1 = .ok (.ifCond .lt 28, 3) := by decide +kernel
theorem dX6_hasPlaces_4 : decode cX6_hasPlaces 4 = .ok (.iload_n 3, 1) := by decide +kernel
theorem dX6_hasPlaces_5 : decode cX6_hasPlaces 5 = .ok (.ifCond .lt 24, 3) := by decide +kernel
theorem dX6_hasPlaces_8 : decode cX6_hasPlaces 8 = .ok (.iload_n 2, 1) := by decide +kernel
theorem dX6_hasPlaces_9 : decode cX6_hasPlaces 9 = .ok (.i2l, 1) := by decide +kernel
theorem dX6_hasPlaces_10 : decode cX6_hasPlaces 10 = .ok (.iload_n 3, 1) := by decide +kernel
theorem dX6_hasPlaces_11 : decode cX6_hasPlaces 11 = .ok (.i2l, 1) := by decide +kernel
theorem dX6_hasPlaces_12 : decode cX6_hasPlaces 12 = .ok (.ladd, 1) := by decide +kernel
theorem dX6_hasPlaces_13 : decode cX6_hasPlaces 13 = .ok (.aload_n 0, 1) := by decide +kernel
theorem dX6_hasPlaces_14 : decode cX6_hasPlaces 14 = .ok (.iload_n 1, 1) := by decide +kernel
theorem dX6_hasPlaces_15 : decode cX6_hasPlaces 15 = .ok (.bipush 10, 2) := by decide +kernel
theorem dX6_hasPlaces_17 : decode cX6_hasPlaces 17 = .ok (.invokevirtual 52, 3) := by decide +kernel
theorem dX6_hasPlaces_20 : decode cX6_hasPlaces 20 = .ok (.i2l, 1) := by decide +kernel
theorem dX6_hasPlaces_21 : decode cX6_hasPlaces 21 = .ok (.lcmp, 1) := by decide +kernel
theorem dX6_hasPlaces_22 : decode cX6_hasPlaces 22 = .ok (.ifCond .gt 7, 3) := by decide +kernel
theorem dX6_hasPlaces_25 : decode cX6_hasPlaces 25 = .ok (.iconst 1, 1) := by decide +kernel
theorem dX6_hasPlaces_26 : decode cX6_hasPlaces 26 = .ok (.goto 4, 3) := by decide +kernel
theorem dX6_hasPlaces_29 : decode cX6_hasPlaces 29 = .ok (.iconst 0, 1) := by decide +kernel
theorem dX6_hasPlaces_30 : decode cX6_hasPlaces 30 = .ok (.ireturn, 1) := by decide +kernel
theorem dX6_placeCell_0 : decode cX6_placeCell 0 = .ok (.bipush 17, 2) := by decide +kernel
theorem dX6_placeCell_2 : decode cX6_placeCell 2 = .ok (.iload_n 0, 1) := by decide +kernel
theorem dX6_placeCell_3 : decode cX6_placeCell 3 = .ok (.bipush 23, 2) := by decide +kernel
theorem dX6_placeCell_5 : decode cX6_placeCell 5 = .ok (.imul, 1) := by decide +kernel
theorem dX6_placeCell_6 : decode cX6_placeCell 6 = .ok (.iadd, 1) := by decide +kernel
theorem dX6_placeCell_7 : decode cX6_placeCell 7 = .ok (.bipush 11, 2) := by decide +kernel
theorem dX6_placeCell_9 : decode cX6_placeCell 9 = .ok (.iadd, 1) := by decide +kernel
theorem dX6_placeCell_10 : decode cX6_placeCell 10 = .ok (.iload_n 1, 1) := by decide +kernel
theorem dX6_placeCell_11 : decode cX6_placeCell 11 = .ok (.iadd, 1) := by decide +kernel
theorem dX6_placeCell_12 : decode cX6_placeCell 12 = .ok (.ireturn, 1) := by decide +kernel
theorem dX6_atPlace_0 : decode cX6_atPlace 0 = .ok (.iload_n 2, 1) := by decide +kernel
theorem dX6_atPlace_1 : decode cX6_atPlace 1 = .ok (.ifCond .lt 27, 3) := by decide +kernel
theorem dX6_atPlace_4 : decode cX6_atPlace 4 = .ok (.iload_n 2, 1) := by decide +kernel
theorem dX6_atPlace_5 : decode cX6_atPlace 5 = .ok (.aload_n 0, 1) := by decide +kernel
theorem dX6_atPlace_6 : decode cX6_atPlace 6 = .ok (.iload_n 1, 1) := by decide +kernel
theorem dX6_atPlace_7 : decode cX6_atPlace 7 = .ok (.bipush 10, 2) := by decide +kernel
theorem dX6_atPlace_9 : decode cX6_atPlace 9 = .ok (.invokevirtual 52, 3) := by decide +kernel
theorem dX6_atPlace_12 : decode cX6_atPlace 12 = .ok (.if_icmp .ge 16, 3) := by decide +kernel
theorem dX6_atPlace_15 : decode cX6_atPlace 15 = .ok (.aload_n 0, 1) := by decide +kernel
theorem dX6_atPlace_16 : decode cX6_atPlace 16 = .ok (.getfield 11, 3) := by decide +kernel
theorem dX6_atPlace_19 : decode cX6_atPlace 19 = .ok (.iload_n 1, 1) := by decide +kernel
theorem dX6_atPlace_20 : decode cX6_atPlace 20 = .ok (.iload_n 2, 1) := by decide +kernel
theorem dX6_atPlace_21 : decode cX6_atPlace 21 = .ok (.invokestatic 56, 3) := by decide +kernel
theorem dX6_atPlace_24 : decode cX6_atPlace 24 = .ok (.laload, 1) := by decide +kernel
theorem dX6_atPlace_25 : decode cX6_atPlace 25 = .ok (.goto 6, 3) := by decide +kernel
theorem dX6_atPlace_28 : decode cX6_atPlace 28 = .ok (.ldc2_w 26, 3) := by decide +kernel
theorem dX6_atPlace_31 : decode cX6_atPlace 31 = .ok (.lreturn, 1) := by decide +kernel
theorem dX6_setPlace_0 : decode cX6_setPlace 0 = .ok (.aload_n 0, 1) := by decide +kernel
theorem dX6_setPlace_1 : decode cX6_setPlace 1 = .ok (.iload_n 1, 1) := by decide +kernel
theorem dX6_setPlace_2 : decode cX6_setPlace 2 = .ok (.iload_n 2, 1) := by decide +kernel
theorem dX6_setPlace_3 : decode cX6_setPlace 3 = .ok (.invokevirtual 59, 3) := by decide +kernel
theorem dX6_setPlace_6 : decode cX6_setPlace 6 = .ok (.ifCond .eq 14, 3) := by decide +kernel
theorem dX6_setPlace_9 : decode cX6_setPlace 9 = .ok (.aload_n 0, 1) := by decide +kernel
theorem dX6_setPlace_10 : decode cX6_setPlace 10 = .ok (.getfield 11, 3) := by decide +kernel
theorem dX6_setPlace_13 : decode cX6_setPlace 13 = .ok (.iload_n 1, 1) := by decide +kernel
theorem dX6_setPlace_14 : decode cX6_setPlace 14 = .ok (.iload_n 2, 1) := by decide +kernel
theorem dX6_setPlace_15 : decode cX6_setPlace 15 = .ok (.invokestatic 56, 3) := by decide +kernel
theorem dX6_setPlace_18 : decode cX6_setPlace 18 = .ok (.lload_n 3, 1) := by decide +kernel
theorem dX6_setPlace_19 : decode cX6_setPlace 19 = .ok (.lastore, 1) := by decide +kernel
theorem dX6_setPlace_20 : decode cX6_setPlace 20 = .ok (.return_, 1) := by decide +kernel
theorem dX6_fits_0 : decode cX6_fits 0 = .ok (.iload_n 1, 1) := by decide +kernel
theorem dX6_fits_1 : decode cX6_fits 1 = .ok (.iconst (-1), 1) := by decide +kernel
theorem dX6_fits_2 : decode cX6_fits 2 = .ok (.if_icmp .eq 20, 3) := by decide +kernel
theorem dX6_fits_5 : decode cX6_fits 5 = .ok (.aload_n 0, 1) := by decide +kernel
theorem dX6_fits_6 : decode cX6_fits 6 = .ok (.iload_n 1, 1) := by decide +kernel
theorem dX6_fits_7 : decode cX6_fits 7 = .ok (.aload_n 0, 1) := by decide +kernel
theorem dX6_fits_8 : decode cX6_fits 8 = .ok (.iload_n 2, 1) := by decide +kernel
theorem dX6_fits_9 : decode cX6_fits 9 = .ok (.iconst 0, 1) := by decide +kernel
theorem dX6_fits_10 : decode cX6_fits 10 = .ok (.invokevirtual 52, 3) := by decide +kernel
theorem dX6_fits_13 : decode cX6_fits 13 = .ok (.invokestatic 62, 3) := by decide +kernel
theorem dX6_fits_16 : decode cX6_fits 16 = .ok (.invokevirtual 66, 3) := by decide +kernel
theorem dX6_fits_19 : decode cX6_fits 19 = .ok (.ifCond .eq 7, 3) := by decide +kernel
theorem dX6_fits_22 : decode cX6_fits 22 = .ok (.iconst 1, 1) := by decide +kernel
theorem dX6_fits_23 : decode cX6_fits 23 = .ok (.goto 4, 3) := by decide +kernel
theorem dX6_fits_26 : decode cX6_fits 26 = .ok (.iconst 0, 1) := by decide +kernel
theorem dX6_fits_27 : decode cX6_fits 27 = .ok (.ireturn, 1) := by decide +kernel
theorem dX6_howManyFit_0 : decode cX6_howManyFit 0 = .ok (.aload_n 0, 1) := by decide +kernel
theorem dX6_howManyFit_1 : decode cX6_howManyFit 1 = .ok (.iload_n 1, 1) := by decide +kernel
theorem dX6_howManyFit_2 : decode cX6_howManyFit 2 = .ok (.ldc 69, 2) := by decide +kernel
theorem dX6_howManyFit_4 : decode cX6_howManyFit 4 = .ok (.invokevirtual 66, 3) := by decide +kernel
theorem dX6_howManyFit_7 : decode cX6_howManyFit 7 = .ok (.ifCond .eq 6, 3) := by decide +kernel
theorem dX6_howManyFit_10 : decode cX6_howManyFit 10 = .ok (.iload 4, 2) := by decide +kernel
theorem dX6_howManyFit_12 : decode cX6_howManyFit 12 = .ok (.ireturn, 1) := by decide +kernel
theorem dX6_howManyFit_13 : decode cX6_howManyFit 13 = .ok (.iconst 0, 1) := by decide +kernel
theorem dX6_howManyFit_14 : decode cX6_howManyFit 14 = .ok (.istore 5, 2) := by decide +kernel
theorem dX6_howManyFit_16 : decode cX6_howManyFit 16 = .ok (.iload 5, 2) := by decide +kernel
theorem dX6_howManyFit_18 : decode cX6_howManyFit 18 = .ok (.iload 4, 2) := by decide +kernel
theorem dX6_howManyFit_20 : decode cX6_howManyFit 20 = .ok (.if_icmp .ge 27, 3) := by decide +kernel
theorem dX6_howManyFit_23 : decode cX6_howManyFit 23 = .ok (.aload_n 0, 1) := by decide +kernel
theorem dX6_howManyFit_24 : decode cX6_howManyFit 24 = .ok (.aload_n 0, 1) := by decide +kernel
theorem dX6_howManyFit_25 : decode cX6_howManyFit 25 = .ok (.iload_n 1, 1) := by decide +kernel
theorem dX6_howManyFit_26 : decode cX6_howManyFit 26 = .ok (.iload_n 2, 1) := by decide +kernel
theorem dX6_howManyFit_27 : decode cX6_howManyFit 27 = .ok (.iload 5, 2) := by decide +kernel
theorem dX6_howManyFit_29 : decode cX6_howManyFit 29 = .ok (.iadd, 1) := by decide +kernel
theorem dX6_howManyFit_30 : decode cX6_howManyFit 30 = .ok (.invokevirtual 70, 3) := by decide +kernel
theorem dX6_howManyFit_33 : decode cX6_howManyFit 33 = .ok (.l2i, 1) := by decide +kernel
theorem dX6_howManyFit_34 : decode cX6_howManyFit 34 = .ok (.iload_n 3, 1) := by decide +kernel
theorem dX6_howManyFit_35 : decode cX6_howManyFit 35 = .ok (.invokevirtual 74, 3) := by decide +kernel
theorem dX6_howManyFit_38 : decode cX6_howManyFit 38 = .ok (.ifCond .eq 9, 3) := by decide +kernel
theorem dX6_howManyFit_41 : decode cX6_howManyFit 41 = .ok (.iinc 5 1, 3) := by decide +kernel
theorem dX6_howManyFit_44 : decode cX6_howManyFit 44 = .ok (.goto (-28), 3) := by decide +kernel
theorem dX6_howManyFit_47 : decode cX6_howManyFit 47 = .ok (.iload 5, 2) := by decide +kernel
theorem dX6_howManyFit_49 : decode cX6_howManyFit 49 = .ok (.ireturn, 1) := by decide +kernel
theorem dX6_movePlaces_0 : decode cX6_movePlaces 0 = .ok (.aload_n 0, 1) := by decide +kernel
theorem dX6_movePlaces_1 : decode cX6_movePlaces 1 = .ok (.iload_n 1, 1) := by decide +kernel
theorem dX6_movePlaces_2 : decode cX6_movePlaces 2 = .ok (.iload_n 2, 1) := by decide +kernel
theorem dX6_movePlaces_3 : decode cX6_movePlaces 3 = .ok (.iload 5, 2) := by decide +kernel
theorem dX6_movePlaces_5 : decode cX6_movePlaces 5 = .ok (.invokevirtual 77, 3) := by decide +kernel
theorem dX6_movePlaces_8 : decode cX6_movePlaces 8 = .ok (.ifCond .eq 39, 3) := by decide +kernel
theorem dX6_movePlaces_11 : decode cX6_movePlaces 11 = .ok (.aload_n 0, 1) := by decide +kernel
theorem dX6_movePlaces_12 : decode cX6_movePlaces 12 = .ok (.iload_n 3, 1) := by decide +kernel
theorem dX6_movePlaces_13 : decode cX6_movePlaces 13 = .ok (.iload 4, 2) := by decide +kernel
theorem dX6_movePlaces_15 : decode cX6_movePlaces 15 = .ok (.iload 5, 2) := by decide +kernel
theorem dX6_movePlaces_17 : decode cX6_movePlaces 17 = .ok (.invokevirtual 77, 3) := by decide +kernel
theorem dX6_movePlaces_20 : decode cX6_movePlaces 20 = .ok (.ifCond .eq 27, 3) := by decide +kernel
theorem dX6_movePlaces_23 : decode cX6_movePlaces 23 = .ok (.aload_n 0, 1) := by decide +kernel
theorem dX6_movePlaces_24 : decode cX6_movePlaces 24 = .ok (.getfield 11, 3) := by decide +kernel
theorem dX6_movePlaces_27 : decode cX6_movePlaces 27 = .ok (.iload_n 1, 1) := by decide +kernel
theorem dX6_movePlaces_28 : decode cX6_movePlaces 28 = .ok (.iload_n 2, 1) := by decide +kernel
theorem dX6_movePlaces_29 : decode cX6_movePlaces 29 = .ok (.invokestatic 56, 3) := by decide +kernel
theorem dX6_movePlaces_32 : decode cX6_movePlaces 32 = .ok (.aload_n 0, 1) := by decide +kernel
theorem dX6_movePlaces_33 : decode cX6_movePlaces 33 = .ok (.getfield 11, 3) := by decide +kernel
theorem dX6_movePlaces_36 : decode cX6_movePlaces 36 = .ok (.iload_n 3, 1) := by decide +kernel
theorem dX6_movePlaces_37 : decode cX6_movePlaces 37 = .ok (.iload 4, 2) := by decide +kernel
theorem dX6_movePlaces_39 : decode cX6_movePlaces 39 = .ok (.invokestatic 56, 3) := by decide +kernel
theorem dX6_movePlaces_42 : decode cX6_movePlaces 42 = .ok (.iload 5, 2) := by decide +kernel
theorem dX6_movePlaces_44 : decode cX6_movePlaces 44 = .ok (.invokestatic 81, 3) := by decide +kernel
theorem dX6_movePlaces_47 : decode cX6_movePlaces 47 = .ok (.return_, 1) := by decide +kernel
theorem dX6_isHistoryFull_0 : decode cX6_isHistoryFull 0 = .ok (.aload_n 0, 1) := by decide +kernel
theorem dX6_isHistoryFull_1 : decode cX6_isHistoryFull 1 = .ok (.getfield 22, 3) := by decide +kernel
theorem dX6_isHistoryFull_4 : decode cX6_isHistoryFull 4 = .ok (.sipush 512, 3) := by decide +kernel
theorem dX6_isHistoryFull_7 : decode cX6_isHistoryFull 7 = .ok (.if_icmp .lt 7, 3) := by decide +kernel
theorem dX6_isHistoryFull_10 : decode cX6_isHistoryFull 10 = .ok (.iconst 1, 1) := by decide +kernel
theorem dX6_isHistoryFull_11 : decode cX6_isHistoryFull 11 = .ok (.goto 4, 3) := by decide +kernel
theorem dX6_isHistoryFull_14 : decode cX6_isHistoryFull 14 = .ok (.iconst 0, 1) := by decide +kernel
theorem dX6_isHistoryFull_15 : decode cX6_isHistoryFull 15 = .ok (.ireturn, 1) := by decide +kernel
theorem dX6_cellsInUse_0 : decode cX6_cellsInUse 0 = .ok (.bipush 17, 2) := by decide +kernel
theorem dX6_cellsInUse_2 : decode cX6_cellsInUse 2 = .ok (.aload_n 0, 1) := by decide +kernel
theorem dX6_cellsInUse_3 : decode cX6_cellsInUse 3 = .ok (.invokevirtual 32, 3) := by decide +kernel
theorem dX6_cellsInUse_6 : decode cX6_cellsInUse 6 = .ok (.bipush 23, 2) := by decide +kernel
theorem dX6_cellsInUse_8 : decode cX6_cellsInUse 8 = .ok (.imul, 1) := by decide +kernel
theorem dX6_cellsInUse_9 : decode cX6_cellsInUse 9 = .ok (.iadd, 1) := by decide +kernel
theorem dX6_cellsInUse_10 : decode cX6_cellsInUse 10 = .ok (.sipush 1397, 3) := by decide +kernel
theorem dX6_cellsInUse_13 : decode cX6_cellsInUse 13 = .ok (.invokestatic 87, 3) := by decide +kernel
theorem dX6_cellsInUse_16 : decode cX6_cellsInUse 16 = .ok (.ireturn, 1) := by decide +kernel
theorem dX6_countChanges_0 : decode cX6_countChanges 0 = .ok (.iconst 0, 1) := by decide +kernel
theorem dX6_countChanges_1 : decode cX6_countChanges 1 = .ok (.istore_n 2, 1) := by decide +kernel
theorem dX6_countChanges_2 : decode cX6_countChanges 2 = .ok (.iconst 0, 1) := by decide +kernel
theorem dX6_countChanges_3 : decode cX6_countChanges 3 = .ok (.istore_n 3, 1) := by decide +kernel
theorem dX6_countChanges_4 : decode cX6_countChanges 4 = .ok (.iload_n 3, 1) := by decide +kernel
theorem dX6_countChanges_5 : decode cX6_countChanges 5 = .ok (.iload_n 1, 1) := by decide +kernel
theorem dX6_countChanges_6 : decode cX6_countChanges 6 = .ok (.if_icmp .ge 28, 3) := by decide +kernel
theorem dX6_countChanges_9 : decode cX6_countChanges 9 = .ok (.aload_n 0, 1) := by decide +kernel
theorem dX6_countChanges_10 : decode cX6_countChanges 10 = .ok (.getfield 11, 3) := by decide +kernel
theorem dX6_countChanges_13 : decode cX6_countChanges 13 = .ok (.iload_n 3, 1) := by decide +kernel
theorem dX6_countChanges_14 : decode cX6_countChanges 14 = .ok (.laload, 1) := by decide +kernel
theorem dX6_countChanges_15 : decode cX6_countChanges 15 = .ok (.aload_n 0, 1) := by decide +kernel
theorem dX6_countChanges_16 : decode cX6_countChanges 16 = .ok (.getfield 15, 3) := by decide +kernel
theorem dX6_countChanges_19 : decode cX6_countChanges 19 = .ok (.iload_n 3, 1) := by decide +kernel
theorem dX6_countChanges_20 : decode cX6_countChanges 20 = .ok (.laload, 1) := by decide +kernel
theorem dX6_countChanges_21 : decode cX6_countChanges 21 = .ok (.lcmp, 1) := by decide +kernel
theorem dX6_countChanges_22 : decode cX6_countChanges 22 = .ok (.ifCond .eq 6, 3) := by decide +kernel
theorem dX6_countChanges_25 : decode cX6_countChanges 25 = .ok (.iinc 2 1, 3) := by decide +kernel
theorem dX6_countChanges_28 : decode cX6_countChanges 28 = .ok (.iinc 3 1, 3) := by decide +kernel
theorem dX6_countChanges_31 : decode cX6_countChanges 31 = .ok (.goto (-27), 3) := by decide +kernel
theorem dX6_countChanges_34 : decode cX6_countChanges 34 = .ok (.iload_n 2, 1) := by decide +kernel
theorem dX6_countChanges_35 : decode cX6_countChanges 35 = .ok (.ireturn, 1) := by decide +kernel
theorem dX6_keepAct_0 : decode cX6_keepAct 0 = .ok (.aload_n 0, 1) := by decide +kernel
theorem dX6_keepAct_1 : decode cX6_keepAct 1 = .ok (.invokevirtual 92, 3) := by decide +kernel
theorem dX6_keepAct_4 : decode cX6_keepAct 4 = .ok (.istore_n 1, 1) := by decide +kernel
theorem dX6_keepAct_5 : decode cX6_keepAct 5 = .ok (.new 95, 3) := by decide +kernel
theorem dX6_keepAct_8 : decode cX6_keepAct 8 = .ok (.dup, 1) := by decide +kernel
theorem dX6_keepAct_9 : decode cX6_keepAct 9 = .ok (.aload_n 0, 1) := by decide +kernel
theorem dX6_keepAct_10 : decode cX6_keepAct 10 = .ok (.iload_n 1, 1) := by decide +kernel
theorem dX6_keepAct_11 : decode cX6_keepAct 11 = .ok (.invokevirtual 97, 3) := by decide +kernel
theorem dX6_keepAct_14 : decode cX6_keepAct 14 = .ok (.aload_n 0, 1) := by decide +kernel
theorem dX6_keepAct_15 : decode cX6_keepAct 15 = .ok (.getfield 18, 3) := by decide +kernel
theorem dX6_keepAct_18 : decode cX6_keepAct 18 = .ok (.invokespecial 100, 3) := by decide +kernel
theorem dX6_keepAct_21 : decode cX6_keepAct 21 = .ok (.astore_n 2, 1) := by decide +kernel
theorem dX6_keepAct_22 : decode cX6_keepAct 22 = .ok (.iconst 0, 1) := by decide +kernel
theorem dX6_keepAct_23 : decode cX6_keepAct 23 = .ok (.istore_n 3, 1) := by decide +kernel
theorem dX6_keepAct_24 : decode cX6_keepAct 24 = .ok (.iconst 0, 1) := by decide +kernel
theorem dX6_keepAct_25 : decode cX6_keepAct 25 = .ok (.istore 4, 2) := by decide +kernel
theorem dX6_keepAct_27 : decode cX6_keepAct 27 = .ok (.iload 4, 2) := by decide +kernel
theorem dX6_keepAct_29 : decode cX6_keepAct 29 = .ok (.iload_n 1, 1) := by decide +kernel
theorem dX6_keepAct_30 : decode cX6_keepAct 30 = .ok (.if_icmp .ge 73, 3) := by decide +kernel
theorem dX6_keepAct_33 : decode cX6_keepAct 33 = .ok (.iload_n 3, 1) := by decide +kernel
theorem dX6_keepAct_34 : decode cX6_keepAct 34 = .ok (.aload_n 2, 1) := by decide +kernel
theorem dX6_keepAct_35 : decode cX6_keepAct 35 = .ok (.getfield 103, 3) := by decide +kernel
theorem dX6_keepAct_38 : decode cX6_keepAct 38 = .ok (.if_icmp .ge 65, 3) := by decide +kernel
theorem dX6_keepAct_41 : decode cX6_keepAct 41 = .ok (.aload_n 0, 1) := by decide +kernel
theorem dX6_keepAct_42 : decode cX6_keepAct 42 = .ok (.getfield 11, 3) := by decide +kernel
theorem dX6_keepAct_45 : decode cX6_keepAct 45 = .ok (.iload 4, 2) := by decide +kernel
theorem dX6_keepAct_47 : decode cX6_keepAct 47 = .ok (.laload, 1) := by decide +kernel
theorem dX6_keepAct_48 : decode cX6_keepAct 48 = .ok (.aload_n 0, 1) := by decide +kernel
theorem dX6_keepAct_49 : decode cX6_keepAct 49 = .ok (.getfield 15, 3) := by decide +kernel
theorem dX6_keepAct_52 : decode cX6_keepAct 52 = .ok (.iload 4, 2) := by decide +kernel
theorem dX6_keepAct_54 : decode cX6_keepAct 54 = .ok (.laload, 1) := by decide +kernel
theorem dX6_keepAct_55 : decode cX6_keepAct 55 = .ok (.lcmp, 1) := by decide +kernel
theorem dX6_keepAct_56 : decode cX6_keepAct 56 = .ok (.ifCond .eq 41, 3) := by decide +kernel
theorem dX6_keepAct_59 : decode cX6_keepAct 59 = .ok (.aload_n 2, 1) := by decide +kernel
theorem dX6_keepAct_60 : decode cX6_keepAct 60 = .ok (.getfield 106, 3) := by decide +kernel
theorem dX6_keepAct_63 : decode cX6_keepAct 63 = .ok (.iload_n 3, 1) := by decide +kernel
theorem dX6_keepAct_64 : decode cX6_keepAct 64 = .ok (.iload 4, 2) := by decide +kernel
theorem dX6_keepAct_66 : decode cX6_keepAct 66 = .ok (.iastore, 1) := by decide +kernel
theorem dX6_keepAct_67 : decode cX6_keepAct 67 = .ok (.aload_n 2, 1) := by decide +kernel
theorem dX6_keepAct_68 : decode cX6_keepAct 68 = .ok (.getfield 109, 3) := by decide +kernel
theorem dX6_keepAct_71 : decode cX6_keepAct 71 = .ok (.iload_n 3, 1) := by decide +kernel
theorem dX6_keepAct_72 : decode cX6_keepAct 72 = .ok (.aload_n 0, 1) := by decide +kernel
theorem dX6_keepAct_73 : decode cX6_keepAct 73 = .ok (.getfield 15, 3) := by decide +kernel
theorem dX6_keepAct_76 : decode cX6_keepAct 76 = .ok (.iload 4, 2) := by decide +kernel
theorem dX6_keepAct_78 : decode cX6_keepAct 78 = .ok (.laload, 1) := by decide +kernel
theorem dX6_keepAct_79 : decode cX6_keepAct 79 = .ok (.lastore, 1) := by decide +kernel
theorem dX6_keepAct_80 : decode cX6_keepAct 80 = .ok (.aload_n 0, 1) := by decide +kernel
theorem dX6_keepAct_81 : decode cX6_keepAct 81 = .ok (.getfield 15, 3) := by decide +kernel
theorem dX6_keepAct_84 : decode cX6_keepAct 84 = .ok (.iload 4, 2) := by decide +kernel
theorem dX6_keepAct_86 : decode cX6_keepAct 86 = .ok (.aload_n 0, 1) := by decide +kernel
theorem dX6_keepAct_87 : decode cX6_keepAct 87 = .ok (.getfield 11, 3) := by decide +kernel
theorem dX6_keepAct_90 : decode cX6_keepAct 90 = .ok (.iload 4, 2) := by decide +kernel
theorem dX6_keepAct_92 : decode cX6_keepAct 92 = .ok (.laload, 1) := by decide +kernel
theorem dX6_keepAct_93 : decode cX6_keepAct 93 = .ok (.lastore, 1) := by decide +kernel
theorem dX6_keepAct_94 : decode cX6_keepAct 94 = .ok (.iinc 3 1, 3) := by decide +kernel
theorem dX6_keepAct_97 : decode cX6_keepAct 97 = .ok (.iinc 4 1, 3) := by decide +kernel
theorem dX6_keepAct_100 : decode cX6_keepAct 100 = .ok (.goto (-73), 3) := by decide +kernel
theorem dX6_keepAct_103 : decode cX6_keepAct 103 = .ok (.aload_n 0, 1) := by decide +kernel
theorem dX6_keepAct_104 : decode cX6_keepAct 104 = .ok (.aload_n 2, 1) := by decide +kernel
theorem dX6_keepAct_105 : decode cX6_keepAct 105 = .ok (.putfield 18, 3) := by decide +kernel
theorem dX6_keepAct_108 : decode cX6_keepAct 108 = .ok (.aload_n 0, 1) := by decide +kernel
theorem dX6_keepAct_109 : decode cX6_keepAct 109 = .ok (.dup, 1) := by decide +kernel
theorem dX6_keepAct_110 : decode cX6_keepAct 110 = .ok (.getfield 22, 3) := by decide +kernel
theorem dX6_keepAct_113 : decode cX6_keepAct 113 = .ok (.iconst 1, 1) := by decide +kernel
theorem dX6_keepAct_114 : decode cX6_keepAct 114 = .ok (.iadd, 1) := by decide +kernel
theorem dX6_keepAct_115 : decode cX6_keepAct 115 = .ok (.putfield 22, 3) := by decide +kernel
theorem dX6_keepAct_118 : decode cX6_keepAct 118 = .ok (.return_, 1) := by decide +kernel
theorem dX6_dropChanges_0 : decode cX6_dropChanges 0 = .ok (.aload_n 0, 1) := by decide +kernel
theorem dX6_dropChanges_1 : decode cX6_dropChanges 1 = .ok (.getfield 15, 3) := by decide +kernel
theorem dX6_dropChanges_4 : decode cX6_dropChanges 4 = .ok (.iconst 0, 1) := by decide +kernel
theorem dX6_dropChanges_5 : decode cX6_dropChanges 5 = .ok (.aload_n 0, 1) := by decide +kernel
theorem dX6_dropChanges_6 : decode cX6_dropChanges 6 = .ok (.getfield 11, 3) := by decide +kernel
theorem dX6_dropChanges_9 : decode cX6_dropChanges 9 = .ok (.iconst 0, 1) := by decide +kernel
theorem dX6_dropChanges_10 : decode cX6_dropChanges 10 = .ok (.sipush 1397, 3) := by decide +kernel
theorem dX6_dropChanges_13 : decode cX6_dropChanges 13 = .ok (.invokestatic 81, 3) := by decide +kernel
theorem dX6_dropChanges_16 : decode cX6_dropChanges 16 = .ok (.return_, 1) := by decide +kernel
theorem dX6_takeBackAct_0 : decode cX6_takeBackAct 0 = .ok (.aload_n 0, 1) := by decide +kernel
theorem dX6_takeBackAct_1 : decode cX6_takeBackAct 1 = .ok (.getfield 18, 3) := by decide +kernel
theorem dX6_takeBackAct_4 : decode cX6_takeBackAct 4 = .ok (.ifnonnull 4, 3) := by decide +kernel
theorem dX6_takeBackAct_7 : decode cX6_takeBackAct 7 = .ok (.return_, 1) := by decide +kernel
theorem dX6_takeBackAct_8 : decode cX6_takeBackAct 8 = .ok (.iconst 0, 1) := by decide +kernel
theorem dX6_takeBackAct_9 : decode cX6_takeBackAct 9 = .ok (.istore_n 1, 1) := by decide +kernel
theorem dX6_takeBackAct_10 : decode cX6_takeBackAct 10 = .ok (.iload_n 1, 1) := by decide +kernel
theorem dX6_takeBackAct_11 : decode cX6_takeBackAct 11 = .ok (.aload_n 0, 1) := by decide +kernel
theorem dX6_takeBackAct_12 : decode cX6_takeBackAct 12 = .ok (.getfield 18, 3) := by decide +kernel
theorem dX6_takeBackAct_15 : decode cX6_takeBackAct 15 = .ok (.getfield 103, 3) := by decide +kernel
theorem dX6_takeBackAct_18 : decode cX6_takeBackAct 18 = .ok (.if_icmp .ge 60, 3) := by decide +kernel
theorem dX6_takeBackAct_21 : decode cX6_takeBackAct 21 = .ok (.aload_n 0, 1) := by decide +kernel
theorem dX6_takeBackAct_22 : decode cX6_takeBackAct 22 = .ok (.getfield 18, 3) := by decide +kernel
theorem dX6_takeBackAct_25 : decode cX6_takeBackAct 25 = .ok (.getfield 106, 3) := by decide +kernel
theorem dX6_takeBackAct_28 : decode cX6_takeBackAct 28 = .ok (.iload_n 1, 1) := by decide +kernel
theorem dX6_takeBackAct_29 : decode cX6_takeBackAct 29 = .ok (.iaload, 1) := by decide +kernel
theorem dX6_takeBackAct_30 : decode cX6_takeBackAct 30 = .ok (.istore_n 2, 1) := by decide +kernel
theorem dX6_takeBackAct_31 : decode cX6_takeBackAct 31 = .ok (.iload_n 2, 1) := by decide +kernel
theorem dX6_takeBackAct_32 : decode cX6_takeBackAct 32 = .ok (.ifCond .lt 40, 3) := by decide +kernel
theorem dX6_takeBackAct_35 : decode cX6_takeBackAct 35 = .ok (.iload_n 2, 1) := by decide +kernel
theorem dX6_takeBackAct_36 : decode cX6_takeBackAct 36 = .ok (.sipush 1397, 3) := by decide +kernel
theorem dX6_takeBackAct_39 : decode cX6_takeBackAct 39 = .ok (.if_icmp .ge 33, 3) := by decide +kernel
theorem dX6_takeBackAct_42 : decode cX6_takeBackAct 42 = .ok (.aload_n 0, 1) := by decide +kernel
theorem dX6_takeBackAct_43 : decode cX6_takeBackAct 43 = .ok (.getfield 11, 3) := by decide +kernel
theorem dX6_takeBackAct_46 : decode cX6_takeBackAct 46 = .ok (.iload_n 2, 1) := by decide +kernel
theorem dX6_takeBackAct_47 : decode cX6_takeBackAct 47 = .ok (.aload_n 0, 1) := by decide +kernel
theorem dX6_takeBackAct_48 : decode cX6_takeBackAct 48 = .ok (.getfield 18, 3) := by decide +kernel
theorem dX6_takeBackAct_51 : decode cX6_takeBackAct 51 = .ok (.getfield 109, 3) := by decide +kernel
theorem dX6_takeBackAct_54 : decode cX6_takeBackAct 54 = .ok (.iload_n 1, 1) := by decide +kernel
theorem dX6_takeBackAct_55 : decode cX6_takeBackAct 55 = .ok (.laload, 1) := by decide +kernel
theorem dX6_takeBackAct_56 : decode cX6_takeBackAct 56 = .ok (.lastore, 1) := by decide +kernel
theorem dX6_takeBackAct_57 : decode cX6_takeBackAct 57 = .ok (.aload_n 0, 1) := by decide +kernel
theorem dX6_takeBackAct_58 : decode cX6_takeBackAct 58 = .ok (.getfield 15, 3) := by decide +kernel
theorem dX6_takeBackAct_61 : decode cX6_takeBackAct 61 = .ok (.iload_n 2, 1) := by decide +kernel
theorem dX6_takeBackAct_62 : decode cX6_takeBackAct 62 = .ok (.aload_n 0, 1) := by decide +kernel
theorem dX6_takeBackAct_63 : decode cX6_takeBackAct 63 = .ok (.getfield 18, 3) := by decide +kernel
theorem dX6_takeBackAct_66 : decode cX6_takeBackAct 66 = .ok (.getfield 109, 3) := by decide +kernel
theorem dX6_takeBackAct_69 : decode cX6_takeBackAct 69 = .ok (.iload_n 1, 1) := by decide +kernel
theorem dX6_takeBackAct_70 : decode cX6_takeBackAct 70 = .ok (.laload, 1) := by decide +kernel
theorem dX6_takeBackAct_71 : decode cX6_takeBackAct 71 = .ok (.lastore, 1) := by decide +kernel
theorem dX6_takeBackAct_72 : decode cX6_takeBackAct 72 = .ok (.iinc 1 1, 3) := by decide +kernel
theorem dX6_takeBackAct_75 : decode cX6_takeBackAct 75 = .ok (.goto (-65), 3) := by decide +kernel
theorem dX6_takeBackAct_78 : decode cX6_takeBackAct 78 = .ok (.aload_n 0, 1) := by decide +kernel
theorem dX6_takeBackAct_79 : decode cX6_takeBackAct 79 = .ok (.aload_n 0, 1) := by decide +kernel
theorem dX6_takeBackAct_80 : decode cX6_takeBackAct 80 = .ok (.getfield 18, 3) := by decide +kernel
theorem dX6_takeBackAct_83 : decode cX6_takeBackAct 83 = .ok (.getfield 112, 3) := by decide +kernel
theorem dX6_takeBackAct_86 : decode cX6_takeBackAct 86 = .ok (.putfield 18, 3) := by decide +kernel
theorem dX6_takeBackAct_89 : decode cX6_takeBackAct 89 = .ok (.aload_n 0, 1) := by decide +kernel
theorem dX6_takeBackAct_90 : decode cX6_takeBackAct 90 = .ok (.dup, 1) := by decide +kernel
theorem dX6_takeBackAct_91 : decode cX6_takeBackAct 91 = .ok (.getfield 22, 3) := by decide +kernel
theorem dX6_takeBackAct_94 : decode cX6_takeBackAct 94 = .ok (.iconst 1, 1) := by decide +kernel
theorem dX6_takeBackAct_95 : decode cX6_takeBackAct 95 = .ok (.isub, 1) := by decide +kernel
theorem dX6_takeBackAct_96 : decode cX6_takeBackAct 96 = .ok (.putfield 22, 3) := by decide +kernel
theorem dX6_takeBackAct_99 : decode cX6_takeBackAct 99 = .ok (.return_, 1) := by decide +kernel
theorem dX7_init_0 : decode cX7_init 0 = .ok (.aload_n 0, 1) := by decide +kernel
theorem dX7_init_1 : decode cX7_init 1 = .ok (.invokespecial 3, 3) := by decide +kernel
theorem dX7_init_4 : decode cX7_init 4 = .ok (.aload_n 0, 1) := by decide +kernel
theorem dX7_init_5 : decode cX7_init 5 = .ok (.new 9, 3) := by decide +kernel
theorem dX7_init_8 : decode cX7_init 8 = .ok (.dup, 1) := by decide +kernel
theorem dX7_init_9 : decode cX7_init 9 = .ok (.invokespecial 11, 3) := by decide +kernel
theorem dX7_init_12 : decode cX7_init 12 = .ok (.putfield 12, 3) := by decide +kernel
theorem dX7_init_15 : decode cX7_init 15 = .ok (.aload_n 0, 1) := by decide +kernel
theorem dX7_init_16 : decode cX7_init 16 = .ok (.new 16, 3) := by decide +kernel
theorem dX7_init_19 : decode cX7_init 19 = .ok (.dup, 1) := by decide +kernel
theorem dX7_init_20 : decode cX7_init 20 = .ok (.invokespecial 18, 3) := by decide +kernel
theorem dX7_init_23 : decode cX7_init 23 = .ok (.putfield 19, 3) := by decide +kernel
theorem dX7_init_26 : decode cX7_init 26 = .ok (.aload_n 0, 1) := by decide +kernel
theorem dX7_init_27 : decode cX7_init 27 = .ok (.new 23, 3) := by decide +kernel
theorem dX7_init_30 : decode cX7_init 30 = .ok (.dup, 1) := by decide +kernel
theorem dX7_init_31 : decode cX7_init 31 = .ok (.invokespecial 25, 3) := by decide +kernel
theorem dX7_init_34 : decode cX7_init 34 = .ok (.putfield 26, 3) := by decide +kernel
theorem dX7_init_37 : decode cX7_init 37 = .ok (.aload_n 0, 1) := by decide +kernel
theorem dX7_init_38 : decode cX7_init 38 = .ok (.iconst 0, 1) := by decide +kernel
theorem dX7_init_39 : decode cX7_init 39 = .ok (.putfield 30, 3) := by decide +kernel
theorem dX7_init_42 : decode cX7_init 42 = .ok (.return_, 1) := by decide +kernel
theorem dX7_make_0 : decode cX7_make 0 = .ok (.aload_n 0, 1) := by decide +kernel
theorem dX7_make_1 : decode cX7_make 1 = .ok (.getfield 26, 3) := by decide +kernel
theorem dX7_make_4 : decode cX7_make 4 = .ok (.getfield 34, 3) := by decide +kernel
theorem dX7_make_7 : decode cX7_make 7 = .ok (.ifCond .eq 24, 3) := by decide +kernel
theorem dX7_make_10 : decode cX7_make 10 = .ok (.aload_n 0, 1) := by decide +kernel
theorem dX7_make_11 : decode cX7_make 11 = .ok (.new 38, 3) := by decide +kernel
theorem dX7_make_14 : decode cX7_make 14 = .ok (.dup, 1) := by decide +kernel
theorem dX7_make_15 : decode cX7_make 15 = .ok (.iconst 0, 1) := by decide +kernel
theorem dX7_make_16 : decode cX7_make 16 = .ok (.iload_n 1, 1) := by decide +kernel
theorem dX7_make_17 : decode cX7_make 17 = .ok (.iload_n 2, 1) := by decide +kernel
theorem dX7_make_18 : decode cX7_make 18 = .ok (.iload_n 3, 1) := by decide +kernel
theorem dX7_make_19 : decode cX7_make 19 = .ok (.i2l, 1) := by decide +kernel
theorem dX7_make_20 : decode cX7_make 20 = .ok (.iconst 0, 1) := by decide +kernel
theorem dX7_make_21 : decode cX7_make 21 = .ok (.iconst 0, 1) := by decide +kernel
theorem dX7_make_22 : decode cX7_make 22 = .ok (.invokespecial 40, 3) := by decide +kernel
theorem dX7_make_25 : decode cX7_make 25 = .ok (.invokevirtual 43, 3) := by decide +kernel
theorem dX7_make_28 : decode cX7_make 28 = .ok (.goto 14, 3) := by decide +kernel
theorem dX7_make_31 : decode cX7_make 31 = .ok (.aload_n 0, 1) := by decide +kernel
theorem dX7_make_32 : decode cX7_make 32 = .ok (.aload_n 0, 1) := by decide +kernel
theorem dX7_make_33 : decode cX7_make 33 = .ok (.iload_n 1, 1) := by decide +kernel
theorem dX7_make_34 : decode cX7_make 34 = .ok (.iload_n 2, 1) := by decide +kernel
theorem dX7_make_35 : decode cX7_make 35 = .ok (.iload_n 3, 1) := by decide +kernel
theorem dX7_make_36 : decode cX7_make 36 = .ok (.invokevirtual 47, 3) := by decide +kernel
theorem dX7_make_39 : decode cX7_make 39 = .ok (.invokevirtual 51, 3) := by decide +kernel
theorem dX7_make_42 : decode cX7_make 42 = .ok (.ireturn, 1) := by decide +kernel
theorem dX7_lay_0 : decode cX7_lay 0 = .ok (.aload_n 0, 1) := by decide +kernel
theorem dX7_lay_1 : decode cX7_lay 1 = .ok (.getfield 26, 3) := by decide +kernel
theorem dX7_lay_4 : decode cX7_lay 4 = .ok (.getfield 34, 3) := by decide +kernel
theorem dX7_lay_7 : decode cX7_lay 7 = .ok (.ifCond .eq 23, 3) := by decide +kernel
theorem dX7_lay_10 : decode cX7_lay 10 = .ok (.aload_n 0, 1) := by decide +kernel
theorem dX7_lay_11 : decode cX7_lay 11 = .ok (.new 38, 3) := by decide +kernel
theorem dX7_lay_14 : decode cX7_lay 14 = .ok (.dup, 1) := by decide +kernel
theorem dX7_lay_15 : decode cX7_lay 15 = .ok (.iconst 1, 1) := by decide +kernel
theorem dX7_lay_16 : decode cX7_lay 16 = .ok (.iload_n 1, 1) := by decide +kernel
theorem dX7_lay_17 : decode cX7_lay 17 = .ok (.iload_n 2, 1) := by decide +kernel
theorem dX7_lay_18 : decode cX7_lay 18 = .ok (.lconst 0, 1) := by decide +kernel
theorem dX7_lay_19 : decode cX7_lay 19 = .ok (.iconst 0, 1) := by decide +kernel
theorem dX7_lay_20 : decode cX7_lay 20 = .ok (.iconst 0, 1) := by decide +kernel
theorem dX7_lay_21 : decode cX7_lay 21 = .ok (.invokespecial 40, 3) := by decide +kernel
theorem dX7_lay_24 : decode cX7_lay 24 = .ok (.invokevirtual 43, 3) := by decide +kernel
theorem dX7_lay_27 : decode cX7_lay 27 = .ok (.goto 13, 3) := by decide +kernel
theorem dX7_lay_30 : decode cX7_lay 30 = .ok (.aload_n 0, 1) := by decide +kernel
theorem dX7_lay_31 : decode cX7_lay 31 = .ok (.aload_n 0, 1) := by decide +kernel
theorem dX7_lay_32 : decode cX7_lay 32 = .ok (.iload_n 1, 1) := by decide +kernel
theorem dX7_lay_33 : decode cX7_lay 33 = .ok (.iload_n 2, 1) := by decide +kernel
theorem dX7_lay_34 : decode cX7_lay 34 = .ok (.invokevirtual 55, 3) := by decide +kernel
theorem dX7_lay_37 : decode cX7_lay 37 = .ok (.invokevirtual 51, 3) := by decide +kernel
theorem dX7_lay_40 : decode cX7_lay 40 = .ok (.ireturn, 1) := by decide +kernel
theorem dX7_plug_0 : decode cX7_plug 0 = .ok (.aload_n 0, 1) := by decide +kernel
theorem dX7_plug_1 : decode cX7_plug 1 = .ok (.getfield 26, 3) := by decide +kernel
theorem dX7_plug_4 : decode cX7_plug 4 = .ok (.getfield 34, 3) := by decide +kernel
theorem dX7_plug_7 : decode cX7_plug 7 = .ok (.ifCond .eq 24, 3) := by decide +kernel
theorem dX7_plug_10 : decode cX7_plug 10 = .ok (.aload_n 0, 1) := by decide +kernel
theorem dX7_plug_11 : decode cX7_plug 11 = .ok (.new 38, 3) := by decide +kernel
theorem dX7_plug_14 : decode cX7_plug 14 = .ok (.dup, 1) := by decide +kernel
theorem dX7_plug_15 : decode cX7_plug 15 = .ok (.iconst 2, 1) := by decide +kernel
theorem dX7_plug_16 : decode cX7_plug 16 = .ok (.iload_n 1, 1) := by decide +kernel
theorem dX7_plug_17 : decode cX7_plug 17 = .ok (.iload_n 2, 1) := by decide +kernel
theorem dX7_plug_18 : decode cX7_plug 18 = .ok (.iload_n 3, 1) := by decide +kernel
theorem dX7_plug_19 : decode cX7_plug 19 = .ok (.i2l, 1) := by decide +kernel
theorem dX7_plug_20 : decode cX7_plug 20 = .ok (.iconst 0, 1) := by decide +kernel
theorem dX7_plug_21 : decode cX7_plug 21 = .ok (.iconst 0, 1) := by decide +kernel
theorem dX7_plug_22 : decode cX7_plug 22 = .ok (.invokespecial 40, 3) := by decide +kernel
theorem dX7_plug_25 : decode cX7_plug 25 = .ok (.invokevirtual 43, 3) := by decide +kernel
theorem dX7_plug_28 : decode cX7_plug 28 = .ok (.goto 14, 3) := by decide +kernel
theorem dX7_plug_31 : decode cX7_plug 31 = .ok (.aload_n 0, 1) := by decide +kernel
theorem dX7_plug_32 : decode cX7_plug 32 = .ok (.aload_n 0, 1) := by decide +kernel
theorem dX7_plug_33 : decode cX7_plug 33 = .ok (.iload_n 1, 1) := by decide +kernel
theorem dX7_plug_34 : decode cX7_plug 34 = .ok (.iload_n 2, 1) := by decide +kernel
theorem dX7_plug_35 : decode cX7_plug 35 = .ok (.iload_n 3, 1) := by decide +kernel
theorem dX7_plug_36 : decode cX7_plug 36 = .ok (.invokevirtual 59, 3) := by decide +kernel
theorem dX7_plug_39 : decode cX7_plug 39 = .ok (.invokevirtual 51, 3) := by decide +kernel
theorem dX7_plug_42 : decode cX7_plug 42 = .ok (.ireturn, 1) := by decide +kernel
theorem dX7_pull_0 : decode cX7_pull 0 = .ok (.aload_n 0, 1) := by decide +kernel
theorem dX7_pull_1 : decode cX7_pull 1 = .ok (.getfield 26, 3) := by decide +kernel
theorem dX7_pull_4 : decode cX7_pull 4 = .ok (.getfield 34, 3) := by decide +kernel
theorem dX7_pull_7 : decode cX7_pull 7 = .ok (.ifCond .eq 24, 3) := by decide +kernel
theorem dX7_pull_10 : decode cX7_pull 10 = .ok (.aload_n 0, 1) := by decide +kernel
theorem dX7_pull_11 : decode cX7_pull 11 = .ok (.new 38, 3) := by decide +kernel
theorem dX7_pull_14 : decode cX7_pull 14 = .ok (.dup, 1) := by decide +kernel
theorem dX7_pull_15 : decode cX7_pull 15 = .ok (.iconst 3, 1) := by decide +kernel
theorem dX7_pull_16 : decode cX7_pull 16 = .ok (.iload_n 1, 1) := by decide +kernel
theorem dX7_pull_17 : decode cX7_pull 17 = .ok (.iload_n 2, 1) := by decide +kernel
theorem dX7_pull_18 : decode cX7_pull 18 = .ok (.iload_n 3, 1) := by decide +kernel
theorem dX7_pull_19 : decode cX7_pull 19 = .ok (.i2l, 1) := by decide +kernel
theorem dX7_pull_20 : decode cX7_pull 20 = .ok (.iconst 0, 1) := by decide +kernel
theorem dX7_pull_21 : decode cX7_pull 21 = .ok (.iconst 0, 1) := by decide +kernel
theorem dX7_pull_22 : decode cX7_pull 22 = .ok (.invokespecial 40, 3) := by decide +kernel
theorem dX7_pull_25 : decode cX7_pull 25 = .ok (.invokevirtual 43, 3) := by decide +kernel
theorem dX7_pull_28 : decode cX7_pull 28 = .ok (.goto 14, 3) := by decide +kernel
theorem dX7_pull_31 : decode cX7_pull 31 = .ok (.aload_n 0, 1) := by decide +kernel
theorem dX7_pull_32 : decode cX7_pull 32 = .ok (.aload_n 0, 1) := by decide +kernel
theorem dX7_pull_33 : decode cX7_pull 33 = .ok (.iload_n 1, 1) := by decide +kernel
theorem dX7_pull_34 : decode cX7_pull 34 = .ok (.iload_n 2, 1) := by decide +kernel
theorem dX7_pull_35 : decode cX7_pull 35 = .ok (.iload_n 3, 1) := by decide +kernel
theorem dX7_pull_36 : decode cX7_pull 36 = .ok (.invokevirtual 62, 3) := by decide +kernel
theorem dX7_pull_39 : decode cX7_pull 39 = .ok (.invokevirtual 51, 3) := by decide +kernel
theorem dX7_pull_42 : decode cX7_pull 42 = .ok (.ireturn, 1) := by decide +kernel
theorem dX7_copy_0 : decode cX7_copy 0 = .ok (.aload_n 0, 1) := by decide +kernel
theorem dX7_copy_1 : decode cX7_copy 1 = .ok (.getfield 26, 3) := by decide +kernel
theorem dX7_copy_4 : decode cX7_copy 4 = .ok (.getfield 34, 3) := by decide +kernel
theorem dX7_copy_7 : decode cX7_copy 7 = .ok (.ifCond .eq 24, 3) := by decide +kernel
theorem dX7_copy_10 : decode cX7_copy 10 = .ok (.aload_n 0, 1) := by decide +kernel
theorem dX7_copy_11 : decode cX7_copy 11 = .ok (.new 38, 3) := by decide +kernel
theorem dX7_copy_14 : decode cX7_copy 14 = .ok (.dup, 1) := by decide +kernel
theorem dX7_copy_15 : decode cX7_copy 15 = .ok (.iconst 4, 1) := by decide +kernel
theorem dX7_copy_16 : decode cX7_copy 16 = .ok (.iload_n 1, 1) := by decide +kernel
theorem dX7_copy_17 : decode cX7_copy 17 = .ok (.iload_n 2, 1) := by decide +kernel
theorem dX7_copy_18 : decode cX7_copy 18 = .ok (.iload_n 3, 1) := by decide +kernel
theorem dX7_copy_19 : decode cX7_copy 19 = .ok (.i2l, 1) := by decide +kernel
theorem dX7_copy_20 : decode cX7_copy 20 = .ok (.iload 4, 2) := by decide +kernel
theorem dX7_copy_22 : decode cX7_copy 22 = .ok (.iload 5, 2) := by decide +kernel
theorem dX7_copy_24 : decode cX7_copy 24 = .ok (.invokespecial 40, 3) := by decide +kernel
theorem dX7_copy_27 : decode cX7_copy 27 = .ok (.invokevirtual 43, 3) := by decide +kernel
theorem dX7_copy_30 : decode cX7_copy 30 = .ok (.ireturn, 1) := by decide +kernel
theorem dX7_copy_31 : decode cX7_copy 31 = .ok (.aload_n 0, 1) := by decide +kernel
theorem dX7_copy_32 : decode cX7_copy 32 = .ok (.iload_n 1, 1) := by decide +kernel
theorem dX7_copy_33 : decode cX7_copy 33 = .ok (.iload_n 2, 1) := by decide +kernel
theorem dX7_copy_34 : decode cX7_copy 34 = .ok (.iload_n 3, 1) := by decide +kernel
theorem dX7_copy_35 : decode cX7_copy 35 = .ok (.iload 4, 2) := by decide +kernel
theorem dX7_copy_37 : decode cX7_copy 37 = .ok (.iload 5, 2) := by decide +kernel
theorem dX7_copy_39 : decode cX7_copy 39 = .ok (.invokevirtual 65, 3) := by decide +kernel
theorem dX7_copy_42 : decode cX7_copy 42 = .ok (.istore 6, 2) := by decide +kernel
theorem dX7_copy_44 : decode cX7_copy 44 = .ok (.aload_n 0, 1) := by decide +kernel
theorem dX7_copy_45 : decode cX7_copy 45 = .ok (.getfield 30, 3) := by decide +kernel
theorem dX7_copy_48 : decode cX7_copy 48 = .ok (.iconst 5, 1) := by decide +kernel
theorem dX7_copy_49 : decode cX7_copy 49 = .ok (.if_icmp .ne 12, 3) := by decide +kernel
theorem dX7_copy_52 : decode cX7_copy 52 = .ok (.aload_n 0, 1) := by decide +kernel
theorem dX7_copy_53 : decode cX7_copy 53 = .ok (.iload 6, 2) := by decide +kernel
theorem dX7_copy_55 : decode cX7_copy 55 = .ok (.invokevirtual 69, 3) := by decide +kernel
theorem dX7_copy_58 : decode cX7_copy 58 = .ok (.goto 9, 3) := by decide +kernel
theorem dX7_copy_61 : decode cX7_copy 61 = .ok (.aload_n 0, 1) := by decide +kernel
theorem dX7_copy_62 : decode cX7_copy 62 = .ok (.iload 6, 2) := by decide +kernel
theorem dX7_copy_64 : decode cX7_copy 64 = .ok (.invokevirtual 51, 3) := by decide +kernel
theorem dX7_copy_67 : decode cX7_copy 67 = .ok (.ireturn, 1) := by decide +kernel
theorem dX7_write_0 : decode cX7_write 0 = .ok (.aload_n 0, 1) := by decide +kernel
theorem dX7_write_1 : decode cX7_write 1 = .ok (.getfield 26, 3) := by decide +kernel
theorem dX7_write_4 : decode cX7_write 4 = .ok (.getfield 34, 3) := by decide +kernel
theorem dX7_write_7 : decode cX7_write 7 = .ok (.ifCond .eq 23, 3) := by decide +kernel
theorem dX7_write_10 : decode cX7_write 10 = .ok (.aload_n 0, 1) := by decide +kernel
theorem dX7_write_11 : decode cX7_write 11 = .ok (.new 38, 3) := by decide +kernel
theorem dX7_write_14 : decode cX7_write 14 = .ok (.dup, 1) := by decide +kernel
theorem dX7_write_15 : decode cX7_write 15 = .ok (.iconst 5, 1) := by decide +kernel
theorem dX7_write_16 : decode cX7_write 16 = .ok (.iload_n 1, 1) := by decide +kernel
theorem dX7_write_17 : decode cX7_write 17 = .ok (.iload_n 2, 1) := by decide +kernel
theorem dX7_write_18 : decode cX7_write 18 = .ok (.lload_n 3, 1) := by decide +kernel
theorem dX7_write_19 : decode cX7_write 19 = .ok (.iconst 0, 1) := by decide +kernel
theorem dX7_write_20 : decode cX7_write 20 = .ok (.iconst 0, 1) := by decide +kernel
theorem dX7_write_21 : decode cX7_write 21 = .ok (.invokespecial 40, 3) := by decide +kernel
theorem dX7_write_24 : decode cX7_write 24 = .ok (.invokevirtual 43, 3) := by decide +kernel
theorem dX7_write_27 : decode cX7_write 27 = .ok (.goto 14, 3) := by decide +kernel
theorem dX7_write_30 : decode cX7_write 30 = .ok (.aload_n 0, 1) := by decide +kernel
theorem dX7_write_31 : decode cX7_write 31 = .ok (.aload_n 0, 1) := by decide +kernel
theorem dX7_write_32 : decode cX7_write 32 = .ok (.iload_n 1, 1) := by decide +kernel
theorem dX7_write_33 : decode cX7_write 33 = .ok (.iload_n 2, 1) := by decide +kernel
theorem dX7_write_34 : decode cX7_write 34 = .ok (.lload_n 3, 1) := by decide +kernel
theorem dX7_write_35 : decode cX7_write 35 = .ok (.invokevirtual 72, 3) := by decide +kernel
theorem dX7_write_38 : decode cX7_write 38 = .ok (.invokevirtual 51, 3) := by decide +kernel
theorem dX7_write_41 : decode cX7_write 41 = .ok (.ireturn, 1) := by decide +kernel
theorem dX7_knob_0 : decode cX7_knob 0 = .ok (.aload_n 0, 1) := by decide +kernel
theorem dX7_knob_1 : decode cX7_knob 1 = .ok (.getfield 26, 3) := by decide +kernel
theorem dX7_knob_4 : decode cX7_knob 4 = .ok (.getfield 34, 3) := by decide +kernel
theorem dX7_knob_7 : decode cX7_knob 7 = .ok (.ifCond .eq 24, 3) := by decide +kernel
theorem dX7_knob_10 : decode cX7_knob 10 = .ok (.aload_n 0, 1) := by decide +kernel
theorem dX7_knob_11 : decode cX7_knob 11 = .ok (.new 38, 3) := by decide +kernel
theorem dX7_knob_14 : decode cX7_knob 14 = .ok (.dup, 1) := by decide +kernel
theorem dX7_knob_15 : decode cX7_knob 15 = .ok (.bipush 6, 2) := by decide +kernel
theorem dX7_knob_17 : decode cX7_knob 17 = .ok (.iload_n 1, 1) := by decide +kernel
theorem dX7_knob_18 : decode cX7_knob 18 = .ok (.iload_n 2, 1) := by decide +kernel
theorem dX7_knob_19 : decode cX7_knob 19 = .ok (.lconst 0, 1) := by decide +kernel
theorem dX7_knob_20 : decode cX7_knob 20 = .ok (.iconst 0, 1) := by decide +kernel
theorem dX7_knob_21 : decode cX7_knob 21 = .ok (.iconst 0, 1) := by decide +kernel
theorem dX7_knob_22 : decode cX7_knob 22 = .ok (.invokespecial 40, 3) := by decide +kernel
theorem dX7_knob_25 : decode cX7_knob 25 = .ok (.invokevirtual 43, 3) := by decide +kernel
theorem dX7_knob_28 : decode cX7_knob 28 = .ok (.goto 13, 3) := by decide +kernel
theorem dX7_knob_31 : decode cX7_knob 31 = .ok (.aload_n 0, 1) := by decide +kernel
theorem dX7_knob_32 : decode cX7_knob 32 = .ok (.aload_n 0, 1) := by decide +kernel
theorem dX7_knob_33 : decode cX7_knob 33 = .ok (.iload_n 1, 1) := by decide +kernel
theorem dX7_knob_34 : decode cX7_knob 34 = .ok (.iload_n 2, 1) := by decide +kernel
theorem dX7_knob_35 : decode cX7_knob 35 = .ok (.invokevirtual 76, 3) := by decide +kernel
theorem dX7_knob_38 : decode cX7_knob 38 = .ok (.invokevirtual 51, 3) := by decide +kernel
theorem dX7_knob_41 : decode cX7_knob 41 = .ok (.ireturn, 1) := by decide +kernel
theorem dX7_play_0 : decode cX7_play 0 = .ok (.aload_n 0, 1) := by decide +kernel
theorem dX7_play_1 : decode cX7_play 1 = .ok (.getfield 26, 3) := by decide +kernel
theorem dX7_play_4 : decode cX7_play 4 = .ok (.getfield 34, 3) := by decide +kernel
theorem dX7_play_7 : decode cX7_play 7 = .ok (.ifCond .eq 24, 3) := by decide +kernel
theorem dX7_play_10 : decode cX7_play 10 = .ok (.aload_n 0, 1) := by decide +kernel
theorem dX7_play_11 : decode cX7_play 11 = .ok (.new 38, 3) := by decide +kernel
theorem dX7_play_14 : decode cX7_play 14 = .ok (.dup, 1) := by decide +kernel
theorem dX7_play_15 : decode cX7_play 15 = .ok (.bipush 7, 2) := by decide +kernel
theorem dX7_play_17 : decode cX7_play 17 = .ok (.iload_n 1, 1) := by decide +kernel
theorem dX7_play_18 : decode cX7_play 18 = .ok (.iload_n 2, 1) := by decide +kernel
theorem dX7_play_19 : decode cX7_play 19 = .ok (.lconst 0, 1) := by decide +kernel
theorem dX7_play_20 : decode cX7_play 20 = .ok (.iconst 0, 1) := by decide +kernel
theorem dX7_play_21 : decode cX7_play 21 = .ok (.iconst 0, 1) := by decide +kernel
theorem dX7_play_22 : decode cX7_play 22 = .ok (.invokespecial 40, 3) := by decide +kernel
theorem dX7_play_25 : decode cX7_play 25 = .ok (.invokevirtual 43, 3) := by decide +kernel
theorem dX7_play_28 : decode cX7_play 28 = .ok (.goto 13, 3) := by decide +kernel
theorem dX7_play_31 : decode cX7_play 31 = .ok (.aload_n 0, 1) := by decide +kernel
theorem dX7_play_32 : decode cX7_play 32 = .ok (.aload_n 0, 1) := by decide +kernel
theorem dX7_play_33 : decode cX7_play 33 = .ok (.iload_n 1, 1) := by decide +kernel
theorem dX7_play_34 : decode cX7_play 34 = .ok (.iload_n 2, 1) := by decide +kernel
theorem dX7_play_35 : decode cX7_play 35 = .ok (.invokevirtual 79, 3) := by decide +kernel
theorem dX7_play_38 : decode cX7_play 38 = .ok (.invokevirtual 51, 3) := by decide +kernel
theorem dX7_play_41 : decode cX7_play 41 = .ok (.ireturn, 1) := by decide +kernel
theorem dX7_run_0 : decode cX7_run 0 = .ok (.aload_n 0, 1) := by decide +kernel
theorem dX7_run_1 : decode cX7_run 1 = .ok (.getfield 26, 3) := by decide +kernel
theorem dX7_run_4 : decode cX7_run 4 = .ok (.getfield 34, 3) := by decide +kernel
theorem dX7_run_7 : decode cX7_run 7 = .ok (.ifCond .eq 24, 3) := by decide +kernel
theorem dX7_run_10 : decode cX7_run 10 = .ok (.aload_n 0, 1) := by decide +kernel
theorem dX7_run_11 : decode cX7_run 11 = .ok (.new 38, 3) := by decide +kernel
theorem dX7_run_14 : decode cX7_run 14 = .ok (.dup, 1) := by decide +kernel
theorem dX7_run_15 : decode cX7_run 15 = .ok (.bipush 8, 2) := by decide +kernel
theorem dX7_run_17 : decode cX7_run 17 = .ok (.iload_n 1, 1) := by decide +kernel
theorem dX7_run_18 : decode cX7_run 18 = .ok (.iload_n 2, 1) := by decide +kernel
theorem dX7_run_19 : decode cX7_run 19 = .ok (.lconst 0, 1) := by decide +kernel
theorem dX7_run_20 : decode cX7_run 20 = .ok (.iconst 0, 1) := by decide +kernel
theorem dX7_run_21 : decode cX7_run 21 = .ok (.iconst 0, 1) := by decide +kernel
theorem dX7_run_22 : decode cX7_run 22 = .ok (.invokespecial 40, 3) := by decide +kernel
theorem dX7_run_25 : decode cX7_run 25 = .ok (.invokevirtual 43, 3) := by decide +kernel
theorem dX7_run_28 : decode cX7_run 28 = .ok (.goto 13, 3) := by decide +kernel
theorem dX7_run_31 : decode cX7_run 31 = .ok (.aload_n 0, 1) := by decide +kernel
theorem dX7_run_32 : decode cX7_run 32 = .ok (.aload_n 0, 1) := by decide +kernel
theorem dX7_run_33 : decode cX7_run 33 = .ok (.iload_n 1, 1) := by decide +kernel
theorem dX7_run_34 : decode cX7_run 34 = .ok (.iload_n 2, 1) := by decide +kernel
theorem dX7_run_35 : decode cX7_run 35 = .ok (.invokevirtual 82, 3) := by decide +kernel
theorem dX7_run_38 : decode cX7_run 38 = .ok (.invokevirtual 51, 3) := by decide +kernel
theorem dX7_run_41 : decode cX7_run 41 = .ok (.ireturn, 1) := by decide +kernel
theorem dX7_ticks_0 : decode cX7_ticks 0 = .ok (.aload_n 0, 1) := by decide +kernel
theorem dX7_ticks_1 : decode cX7_ticks 1 = .ok (.getfield 26, 3) := by decide +kernel
theorem dX7_ticks_4 : decode cX7_ticks 4 = .ok (.getfield 34, 3) := by decide +kernel
theorem dX7_ticks_7 : decode cX7_ticks 7 = .ok (.ifCond .eq 24, 3) := by decide +kernel
theorem dX7_ticks_10 : decode cX7_ticks 10 = .ok (.aload_n 0, 1) := by decide +kernel
theorem dX7_ticks_11 : decode cX7_ticks 11 = .ok (.new 38, 3) := by decide +kernel
theorem dX7_ticks_14 : decode cX7_ticks 14 = .ok (.dup, 1) := by decide +kernel
theorem dX7_ticks_15 : decode cX7_ticks 15 = .ok (.bipush 9, 2) := by decide +kernel
theorem dX7_ticks_17 : decode cX7_ticks 17 = .ok (.iload_n 1, 1) := by decide +kernel
theorem dX7_ticks_18 : decode cX7_ticks 18 = .ok (.iload_n 2, 1) := by decide +kernel
theorem dX7_ticks_19 : decode cX7_ticks 19 = .ok (.lconst 0, 1) := by decide +kernel
theorem dX7_ticks_20 : decode cX7_ticks 20 = .ok (.iconst 0, 1) := by decide +kernel
theorem dX7_ticks_21 : decode cX7_ticks 21 = .ok (.iconst 0, 1) := by decide +kernel
theorem dX7_ticks_22 : decode cX7_ticks 22 = .ok (.invokespecial 40, 3) := by decide +kernel
theorem dX7_ticks_25 : decode cX7_ticks 25 = .ok (.invokevirtual 43, 3) := by decide +kernel
theorem dX7_ticks_28 : decode cX7_ticks 28 = .ok (.goto 13, 3) := by decide +kernel
theorem dX7_ticks_31 : decode cX7_ticks 31 = .ok (.aload_n 0, 1) := by decide +kernel
theorem dX7_ticks_32 : decode cX7_ticks 32 = .ok (.aload_n 0, 1) := by decide +kernel
theorem dX7_ticks_33 : decode cX7_ticks 33 = .ok (.iload_n 1, 1) := by decide +kernel
theorem dX7_ticks_34 : decode cX7_ticks 34 = .ok (.iload_n 2, 1) := by decide +kernel
theorem dX7_ticks_35 : decode cX7_ticks 35 = .ok (.invokevirtual 85, 3) := by decide +kernel
theorem dX7_ticks_38 : decode cX7_ticks 38 = .ok (.invokevirtual 51, 3) := by decide +kernel
theorem dX7_ticks_41 : decode cX7_ticks 41 = .ok (.ireturn, 1) := by decide +kernel
theorem dX7_rest_0 : decode cX7_rest 0 = .ok (.aload_n 0, 1) := by decide +kernel
theorem dX7_rest_1 : decode cX7_rest 1 = .ok (.getfield 26, 3) := by decide +kernel
theorem dX7_rest_4 : decode cX7_rest 4 = .ok (.getfield 34, 3) := by decide +kernel
theorem dX7_rest_7 : decode cX7_rest 7 = .ok (.ifCond .eq 24, 3) := by decide +kernel
theorem dX7_rest_10 : decode cX7_rest 10 = .ok (.aload_n 0, 1) := by decide +kernel
theorem dX7_rest_11 : decode cX7_rest 11 = .ok (.new 38, 3) := by decide +kernel
theorem dX7_rest_14 : decode cX7_rest 14 = .ok (.dup, 1) := by decide +kernel
theorem dX7_rest_15 : decode cX7_rest 15 = .ok (.bipush 10, 2) := by decide +kernel
theorem dX7_rest_17 : decode cX7_rest 17 = .ok (.iload_n 1, 1) := by decide +kernel
theorem dX7_rest_18 : decode cX7_rest 18 = .ok (.iconst 0, 1) := by decide +kernel
theorem dX7_rest_19 : decode cX7_rest 19 = .ok (.lconst 0, 1) := by decide +kernel
theorem dX7_rest_20 : decode cX7_rest 20 = .ok (.iconst 0, 1) := by decide +kernel
theorem dX7_rest_21 : decode cX7_rest 21 = .ok (.iconst 0, 1) := by decide +kernel
theorem dX7_rest_22 : decode cX7_rest 22 = .ok (.invokespecial 40, 3) := by decide +kernel
theorem dX7_rest_25 : decode cX7_rest 25 = .ok (.invokevirtual 43, 3) := by decide +kernel
theorem dX7_rest_28 : decode cX7_rest 28 = .ok (.goto 12, 3) := by decide +kernel
theorem dX7_rest_31 : decode cX7_rest 31 = .ok (.aload_n 0, 1) := by decide +kernel
theorem dX7_rest_32 : decode cX7_rest 32 = .ok (.aload_n 0, 1) := by decide +kernel
theorem dX7_rest_33 : decode cX7_rest 33 = .ok (.iload_n 1, 1) := by decide +kernel
theorem dX7_rest_34 : decode cX7_rest 34 = .ok (.invokevirtual 88, 3) := by decide +kernel
theorem dX7_rest_37 : decode cX7_rest 37 = .ok (.invokevirtual 51, 3) := by decide +kernel
theorem dX7_rest_40 : decode cX7_rest 40 = .ok (.ireturn, 1) := by decide +kernel
theorem dX7_when_0 : decode cX7_when 0 = .ok (.aload_n 0, 1) := by decide +kernel
theorem dX7_when_1 : decode cX7_when 1 = .ok (.getfield 26, 3) := by decide +kernel
theorem dX7_when_4 : decode cX7_when 4 = .ok (.getfield 34, 3) := by decide +kernel
theorem dX7_when_7 : decode cX7_when 7 = .ok (.ifCond .eq 24, 3) := by decide +kernel
theorem dX7_when_10 : decode cX7_when 10 = .ok (.aload_n 0, 1) := by decide +kernel
theorem dX7_when_11 : decode cX7_when 11 = .ok (.new 38, 3) := by decide +kernel
theorem dX7_when_14 : decode cX7_when 14 = .ok (.dup, 1) := by decide +kernel
theorem dX7_when_15 : decode cX7_when 15 = .ok (.bipush 11, 2) := by decide +kernel
theorem dX7_when_17 : decode cX7_when 17 = .ok (.iload_n 1, 1) := by decide +kernel
theorem dX7_when_18 : decode cX7_when 18 = .ok (.iload_n 2, 1) := by decide +kernel
theorem dX7_when_19 : decode cX7_when 19 = .ok (.lconst 0, 1) := by decide +kernel
theorem dX7_when_20 : decode cX7_when 20 = .ok (.iconst 0, 1) := by decide +kernel
theorem dX7_when_21 : decode cX7_when 21 = .ok (.iconst 0, 1) := by decide +kernel
theorem dX7_when_22 : decode cX7_when 22 = .ok (.invokespecial 40, 3) := by decide +kernel
theorem dX7_when_25 : decode cX7_when 25 = .ok (.invokevirtual 43, 3) := by decide +kernel
theorem dX7_when_28 : decode cX7_when 28 = .ok (.goto 9, 3) := by decide +kernel
theorem dX7_when_31 : decode cX7_when 31 = .ok (.aload_n 0, 1) := by decide +kernel
theorem dX7_when_32 : decode cX7_when 32 = .ok (.bipush 7, 2) := by decide +kernel
theorem dX7_when_34 : decode cX7_when 34 = .ok (.invokevirtual 91, 3) := by decide +kernel
theorem dX7_when_37 : decode cX7_when 37 = .ok (.ireturn, 1) := by decide +kernel
theorem dX7_begin_0 : decode cX7_begin 0 = .ok (.aload_n 0, 1) := by decide +kernel
theorem dX7_begin_1 : decode cX7_begin 1 = .ok (.getfield 26, 3) := by decide +kernel
theorem dX7_begin_4 : decode cX7_begin 4 = .ok (.getfield 34, 3) := by decide +kernel
theorem dX7_begin_7 : decode cX7_begin 7 = .ok (.ifCond .eq 10, 3) := by decide +kernel
theorem dX7_begin_10 : decode cX7_begin 10 = .ok (.aload_n 0, 1) := by decide +kernel
theorem dX7_begin_11 : decode cX7_begin 11 = .ok (.bipush 7, 2) := by decide +kernel
theorem dX7_begin_13 : decode cX7_begin 13 = .ok (.invokevirtual 91, 3) := by decide +kernel
theorem dX7_begin_16 : decode cX7_begin 16 = .ok (.ireturn, 1) := by decide +kernel
theorem dX7_begin_17 : decode cX7_begin 17 = .ok (.aload_n 0, 1) := by decide +kernel
theorem dX7_begin_18 : decode cX7_begin 18 = .ok (.iconst 0, 1) := by decide +kernel
theorem dX7_begin_19 : decode cX7_begin 19 = .ok (.putfield 30, 3) := by decide +kernel
theorem dX7_begin_22 : decode cX7_begin 22 = .ok (.aload_n 0, 1) := by decide +kernel
theorem dX7_begin_23 : decode cX7_begin 23 = .ok (.getfield 26, 3) := by decide +kernel
theorem dX7_begin_26 : decode cX7_begin 26 = .ok (.invokevirtual 94, 3) := by decide +kernel
theorem dX7_begin_29 : decode cX7_begin 29 = .ok (.iconst 1, 1) := by decide +kernel
theorem dX7_begin_30 : decode cX7_begin 30 = .ok (.ireturn, 1) := by decide +kernel
theorem dX7_end_0 : decode cX7_end 0 = .ok (.aload_n 0, 1) := by decide +kernel
theorem dX7_end_1 : decode cX7_end 1 = .ok (.getfield 26, 3) := by decide +kernel
theorem dX7_end_4 : decode cX7_end 4 = .ok (.getfield 34, 3) := by decide +kernel
theorem dX7_end_7 : decode cX7_end 7 = .ok (.ifCond .ne 10, 3) := by decide +kernel
theorem dX7_end_10 : decode cX7_end 10 = .ok (.aload_n 0, 1) := by decide +kernel
theorem dX7_end_11 : decode cX7_end 11 = .ok (.bipush 7, 2) := by decide +kernel
theorem dX7_end_13 : decode cX7_end 13 = .ok (.invokevirtual 91, 3) := by decide +kernel
theorem dX7_end_16 : decode cX7_end 16 = .ok (.ireturn, 1) := by decide +kernel
theorem dX7_end_17 : decode cX7_end 17 = .ok (.aload_n 0, 1) := by decide +kernel
theorem dX7_end_18 : decode cX7_end 18 = .ok (.iconst 0, 1) := by decide +kernel
theorem dX7_end_19 : decode cX7_end 19 = .ok (.putfield 30, 3) := by decide +kernel
theorem dX7_end_22 : decode cX7_end 22 = .ok (.aload_n 0, 1) := by decide +kernel
theorem dX7_end_23 : decode cX7_end 23 = .ok (.getfield 26, 3) := by decide +kernel
theorem dX7_end_26 : decode cX7_end 26 = .ok (.iconst 0, 1) := by decide +kernel
theorem dX7_end_27 : decode cX7_end 27 = .ok (.putfield 34, 3) := by decide +kernel
theorem dX7_end_30 : decode cX7_end 30 = .ok (.aload_n 0, 1) := by decide +kernel
theorem dX7_end_31 : decode cX7_end 31 = .ok (.getfield 26, 3) := by decide +kernel
theorem dX7_end_34 : decode cX7_end 34 = .ok (.getfield 97, 3) := by decide +kernel
theorem dX7_end_37 : decode cX7_end 37 = .ok (.ireturn, 1) := by decide +kernel
theorem dX7_carry_0 : decode cX7_carry 0 = .ok (.iload_n 1, 1) := by decide +kernel
theorem dX7_carry_1 : decode cX7_carry 1 = .ok (.iconst 1, 1) := by decide +kernel
theorem dX7_carry_2 : decode cX7_carry 2 = .ok (.if_icmp .lt 8, 3) := by decide +kernel
theorem dX7_carry_5 : decode cX7_carry 5 = .ok (.iload_n 1, 1) := by decide +kernel
theorem dX7_carry_6 : decode cX7_carry 6 = .ok (.iconst 4, 1) := by decide +kernel
theorem dX7_carry_7 : decode cX7_carry 7 = .ok (.if_icmp .le 9, 3) := by decide +kernel
theorem dX7_carry_10 : decode cX7_carry 10 = .ok (.aload_n 0, 1) := by decide +kernel
theorem dX7_carry_11 : decode cX7_carry 11 = .ok (.iconst 1, 1) := by decide +kernel
theorem dX7_carry_12 : decode cX7_carry 12 = .ok (.invokevirtual 91, 3) := by decide +kernel
theorem dX7_carry_15 : decode cX7_carry 15 = .ok (.ireturn, 1) := by decide +kernel
theorem dX7_carry_16 : decode cX7_carry 16 = .ok (.aload_n 0, 1) := by decide +kernel
theorem dX7_carry_17 : decode cX7_carry 17 = .ok (.getfield 26, 3) := by decide +kernel
theorem dX7_carry_20 : decode cX7_carry 20 = .ok (.getfield 34, 3) := by decide +kernel
theorem dX7_carry_23 : decode cX7_carry 23 = .ok (.ifCond .eq 10, 3) := by decide +kernel
theorem dX7_carry_26 : decode cX7_carry 26 = .ok (.aload_n 0, 1) := by decide +kernel
theorem dX7_carry_27 : decode cX7_carry 27 = .ok (.bipush 7, 2) := by decide +kernel
theorem dX7_carry_29 : decode cX7_carry 29 = .ok (.invokevirtual 91, 3) := by decide +kernel
theorem dX7_carry_32 : decode cX7_carry 32 = .ok (.ireturn, 1) := by decide +kernel
theorem dX7_carry_33 : decode cX7_carry 33 = .ok (.aload_n 0, 1) := by decide +kernel
theorem dX7_carry_34 : decode cX7_carry 34 = .ok (.iconst 0, 1) := by decide +kernel
theorem dX7_carry_35 : decode cX7_carry 35 = .ok (.putfield 30, 3) := by decide +kernel
theorem dX7_carry_38 : decode cX7_carry 38 = .ok (.iconst 0, 1) := by decide +kernel
theorem dX7_carry_39 : decode cX7_carry 39 = .ok (.istore_n 2, 1) := by decide +kernel
theorem dX7_carry_40 : decode cX7_carry 40 = .ok (.iconst 1, 1) := by decide +kernel
theorem dX7_carry_41 : decode cX7_carry 41 = .ok (.istore_n 3, 1) := by decide +kernel
theorem dX7_carry_42 : decode cX7_carry 42 = .ok (.iload_n 3, 1) := by decide +kernel
theorem dX7_carry_43 : decode cX7_carry 43 = .ok (.iload_n 1, 1) := by decide +kernel
theorem dX7_carry_44 : decode cX7_carry 44 = .ok (.if_icmp .gt 105, 3) := by decide +kernel
theorem dX7_carry_47 : decode cX7_carry 47 = .ok (.iconst 0, 1) := by decide +kernel
theorem dX7_carry_48 : decode cX7_carry 48 = .ok (.istore 4, 2) := by decide +kernel
theorem dX7_carry_50 : decode cX7_carry 50 = .ok (.iconst 1, 1) := by decide +kernel
theorem dX7_carry_51 : decode cX7_carry 51 = .ok (.istore 5, 2) := by decide +kernel
theorem dX7_carry_53 : decode cX7_carry 53 = .ok (.iload 5, 2) := by decide +kernel
theorem dX7_carry_55 : decode cX7_carry 55 = .ok (.aload_n 0, 1) := by decide +kernel
theorem dX7_carry_56 : decode cX7_carry 56 = .ok (.getfield 26, 3) := by decide +kernel
theorem dX7_carry_59 : decode cX7_carry 59 = .ok (.getfield 97, 3) := by decide +kernel
theorem dX7_carry_62 : decode cX7_carry 62 = .ok (.if_icmp .gt 81, 3) := by decide +kernel
theorem dX7_carry_65 : decode cX7_carry 65 = .ok (.iload 4, 2) := by decide +kernel
theorem dX7_carry_67 : decode cX7_carry 67 = .ok (.ifCond .eq 9, 3) := by decide +kernel
theorem dX7_carry_70 : decode cX7_carry 70 = .ok (.iconst 0, 1) := by decide +kernel
theorem dX7_carry_71 : decode cX7_carry 71 = .ok (.istore 4, 2) := by decide +kernel
theorem dX7_carry_73 : decode cX7_carry 73 = .ok (.goto 64, 3) := by decide +kernel
theorem dX7_carry_76 : decode cX7_carry 76 = .ok (.aload_n 0, 1) := by decide +kernel
theorem dX7_carry_77 : decode cX7_carry 77 = .ok (.getfield 26, 3) := by decide +kernel
theorem dX7_carry_80 : decode cX7_carry 80 = .ok (.iload 5, 2) := by decide +kernel
theorem dX7_carry_82 : decode cX7_carry 82 = .ok (.invokevirtual 100, 3) := by decide +kernel
theorem dX7_carry_85 : decode cX7_carry 85 = .ok (.astore 6, 2) := by decide +kernel
theorem dX7_carry_87 : decode cX7_carry 87 = .ok (.aload_n 0, 1) := by decide +kernel
theorem dX7_carry_88 : decode cX7_carry 88 = .ok (.aload 6, 2) := by decide +kernel
theorem dX7_carry_90 : decode cX7_carry 90 = .ok (.invokevirtual 104, 3) := by decide +kernel
theorem dX7_carry_93 : decode cX7_carry 93 = .ok (.istore 7, 2) := by decide +kernel
theorem dX7_carry_95 : decode cX7_carry 95 = .ok (.aload_n 0, 1) := by decide +kernel
theorem dX7_carry_96 : decode cX7_carry 96 = .ok (.getfield 30, 3) := by decide +kernel
theorem dX7_carry_99 : decode cX7_carry 99 = .ok (.ifCond .eq 13, 3) := by decide +kernel
theorem dX7_carry_102 : decode cX7_carry 102 = .ok (.aload_n 0, 1) := by decide +kernel
theorem dX7_carry_103 : decode cX7_carry 103 = .ok (.getfield 12, 3) := by decide +kernel
theorem dX7_carry_106 : decode cX7_carry 106 = .ok (.invokevirtual 107, 3) := by decide +kernel
theorem dX7_carry_109 : decode cX7_carry 109 = .ok (.iload 5, 2) := by decide +kernel
theorem dX7_carry_111 : decode cX7_carry 111 = .ok (.ireturn, 1) := by decide +kernel
theorem dX7_carry_112 : decode cX7_carry 112 = .ok (.iload_n 2, 1) := by decide +kernel
theorem dX7_carry_113 : decode cX7_carry 113 = .ok (.iload 7, 2) := by decide +kernel
theorem dX7_carry_115 : decode cX7_carry 115 = .ok (.iadd, 1) := by decide +kernel
theorem dX7_carry_116 : decode cX7_carry 116 = .ok (.istore_n 2, 1) := by decide +kernel
theorem dX7_carry_117 : decode cX7_carry 117 = .ok (.iload 7, 2) := by decide +kernel
theorem dX7_carry_119 : decode cX7_carry 119 = .ok (.ifCond .ne 15, 3) := by decide +kernel
theorem dX7_carry_122 : decode cX7_carry 122 = .ok (.aload 6, 2) := by decide +kernel
theorem dX7_carry_124 : decode cX7_carry 124 = .ok (.invokestatic 110, 3) := by decide +kernel
theorem dX7_carry_127 : decode cX7_carry 127 = .ok (.ifCond .eq 7, 3) := by decide +kernel
theorem dX7_carry_130 : decode cX7_carry 130 = .ok (.iconst 1, 1) := by decide +kernel
theorem dX7_carry_131 : decode cX7_carry 131 = .ok (.goto 4, 3) := by decide +kernel
theorem dX7_carry_134 : decode cX7_carry 134 = .ok (.iconst 0, 1) := by decide +kernel
theorem dX7_carry_135 : decode cX7_carry 135 = .ok (.istore 4, 2) := by decide +kernel
theorem dX7_carry_137 : decode cX7_carry 137 = .ok (.iinc 5 1, 3) := by decide +kernel
theorem dX7_carry_140 : decode cX7_carry 140 = .ok (.goto (-87), 3) := by decide +kernel
theorem dX7_carry_143 : decode cX7_carry 143 = .ok (.iinc 3 1, 3) := by decide +kernel
theorem dX7_carry_146 : decode cX7_carry 146 = .ok (.goto (-104), 3) := by decide +kernel
theorem dX7_carry_149 : decode cX7_carry 149 = .ok (.aload_n 0, 1) := by decide +kernel
theorem dX7_carry_150 : decode cX7_carry 150 = .ok (.iload_n 2, 1) := by decide +kernel
theorem dX7_carry_151 : decode cX7_carry 151 = .ok (.invokevirtual 69, 3) := by decide +kernel
theorem dX7_carry_154 : decode cX7_carry 154 = .ok (.ireturn, 1) := by decide +kernel
theorem dX7_undo_0 : decode cX7_undo 0 = .ok (.aload_n 0, 1) := by decide +kernel
theorem dX7_undo_1 : decode cX7_undo 1 = .ok (.getfield 26, 3) := by decide +kernel
theorem dX7_undo_4 : decode cX7_undo 4 = .ok (.getfield 34, 3) := by decide +kernel
theorem dX7_undo_7 : decode cX7_undo 7 = .ok (.ifCond .ne 13, 3) := by decide +kernel
theorem dX7_undo_10 : decode cX7_undo 10 = .ok (.aload_n 0, 1) := by decide +kernel
theorem dX7_undo_11 : decode cX7_undo 11 = .ok (.getfield 12, 3) := by decide +kernel
theorem dX7_undo_14 : decode cX7_undo 14 = .ok (.getfield 114, 3) := by decide +kernel
theorem dX7_undo_17 : decode cX7_undo 17 = .ok (.ifCond .ne 10, 3) := by decide +kernel
theorem dX7_undo_20 : decode cX7_undo 20 = .ok (.aload_n 0, 1) := by decide +kernel
theorem dX7_undo_21 : decode cX7_undo 21 = .ok (.bipush 7, 2) := by decide +kernel
theorem dX7_undo_23 : decode cX7_undo 23 = .ok (.invokevirtual 91, 3) := by decide +kernel
theorem dX7_undo_26 : decode cX7_undo 26 = .ok (.ireturn, 1) := by decide +kernel
theorem dX7_undo_27 : decode cX7_undo 27 = .ok (.aload_n 0, 1) := by decide +kernel
theorem dX7_undo_28 : decode cX7_undo 28 = .ok (.iconst 0, 1) := by decide +kernel
theorem dX7_undo_29 : decode cX7_undo 29 = .ok (.putfield 30, 3) := by decide +kernel
theorem dX7_undo_32 : decode cX7_undo 32 = .ok (.aload_n 0, 1) := by decide +kernel
theorem dX7_undo_33 : decode cX7_undo 33 = .ok (.getfield 12, 3) := by decide +kernel
theorem dX7_undo_36 : decode cX7_undo 36 = .ok (.invokevirtual 117, 3) := by decide +kernel
theorem dX7_undo_39 : decode cX7_undo 39 = .ok (.aload_n 0, 1) := by decide +kernel
theorem dX7_undo_40 : decode cX7_undo 40 = .ok (.getfield 12, 3) := by decide +kernel
theorem dX7_undo_43 : decode cX7_undo 43 = .ok (.getfield 114, 3) := by decide +kernel
theorem dX7_undo_46 : decode cX7_undo 46 = .ok (.ireturn, 1) := by decide +kernel
theorem dX7_acts_0 : decode cX7_acts 0 = .ok (.aload_n 0, 1) := by decide +kernel
theorem dX7_acts_1 : decode cX7_acts 1 = .ok (.iconst 0, 1) := by decide +kernel
theorem dX7_acts_2 : decode cX7_acts 2 = .ok (.putfield 30, 3) := by decide +kernel
theorem dX7_acts_5 : decode cX7_acts 5 = .ok (.aload_n 0, 1) := by decide +kernel
theorem dX7_acts_6 : decode cX7_acts 6 = .ok (.getfield 12, 3) := by decide +kernel
theorem dX7_acts_9 : decode cX7_acts 9 = .ok (.getfield 114, 3) := by decide +kernel
theorem dX7_acts_12 : decode cX7_acts 12 = .ok (.ireturn, 1) := by decide +kernel
theorem dX7_ask_0 : decode cX7_ask 0 = .ok (.aload_n 0, 1) := by decide +kernel
theorem dX7_ask_1 : decode cX7_ask 1 = .ok (.iload_n 1, 1) := by decide +kernel
theorem dX7_ask_2 : decode cX7_ask 2 = .ok (.iload_n 2, 1) := by decide +kernel
theorem dX7_ask_3 : decode cX7_ask 3 = .ok (.invokevirtual 120, 3) := by decide +kernel
theorem dX7_ask_6 : decode cX7_ask 6 = .ok (.ireturn, 1) := by decide +kernel
theorem dX7_take_0 : decode cX7_take 0 = .ok (.iload_n 1, 1) := by decide +kernel
theorem dX7_take_1 : decode cX7_take 1 = .ok (.invokestatic 123, 3) := by decide +kernel
theorem dX7_take_4 : decode cX7_take 4 = .ok (.ifCond .eq 10, 3) := by decide +kernel
theorem dX7_take_7 : decode cX7_take 7 = .ok (.iload_n 2, 1) := by decide +kernel
theorem dX7_take_8 : decode cX7_take 8 = .ok (.invokestatic 127, 3) := by decide +kernel
theorem dX7_take_11 : decode cX7_take 11 = .ok (.ifCond .ne 10, 3) := by decide +kernel
theorem dX7_take_14 : decode cX7_take 14 = .ok (.aload_n 0, 1) := by decide +kernel
theorem dX7_take_15 : decode cX7_take 15 = .ok (.iconst 1, 1) := by decide +kernel
theorem dX7_take_16 : decode cX7_take 16 = .ok (.invokevirtual 91, 3) := by decide +kernel
theorem dX7_take_19 : decode cX7_take 19 = .ok (.i2l, 1) := by decide +kernel
theorem dX7_take_20 : decode cX7_take 20 = .ok (.lreturn, 1) := by decide +kernel
theorem dX7_take_21 : decode cX7_take 21 = .ok (.aload_n 0, 1) := by decide +kernel
theorem dX7_take_22 : decode cX7_take 22 = .ok (.iload_n 1, 1) := by decide +kernel
theorem dX7_take_23 : decode cX7_take 23 = .ok (.iconst 1, 1) := by decide +kernel
theorem dX7_take_24 : decode cX7_take 24 = .ok (.iload_n 2, 1) := by decide +kernel
theorem dX7_take_25 : decode cX7_take 25 = .ok (.ishl, 1) := by decide +kernel
theorem dX7_take_26 : decode cX7_take 26 = .ok (.invokevirtual 132, 3) := by decide +kernel
theorem dX7_take_29 : decode cX7_take 29 = .ok (.ifCond .eq 5, 3) := by decide +kernel
theorem dX7_take_32 : decode cX7_take 32 = .ok (.lconst 0, 1) := by decide +kernel
theorem dX7_take_33 : decode cX7_take 33 = .ok (.lreturn, 1) := by decide +kernel
theorem dX7_take_34 : decode cX7_take 34 = .ok (.aload_n 0, 1) := by decide +kernel
theorem dX7_take_35 : decode cX7_take 35 = .ok (.getfield 12, 3) := by decide +kernel
theorem dX7_take_38 : decode cX7_take 38 = .ok (.iload_n 1, 1) := by decide +kernel
theorem dX7_take_39 : decode cX7_take 39 = .ok (.invokevirtual 136, 3) := by decide +kernel
theorem dX7_take_42 : decode cX7_take 42 = .ok (.istore 4, 2) := by decide +kernel
theorem dX7_take_44 : decode cX7_take 44 = .ok (.iload_n 2, 1) := by decide +kernel
theorem dX7_take_45 : decode cX7_take 45 = .ok (.ldc 139, 2) := by decide +kernel
theorem dX7_take_47 : decode cX7_take 47 = .ok (.invokestatic 140, 3) := by decide +kernel
theorem dX7_take_50 : decode cX7_take 50 = .ok (.ifCond .eq 14, 3) := by decide +kernel
theorem dX7_take_53 : decode cX7_take 53 = .ok (.aload_n 0, 1) := by decide +kernel
theorem dX7_take_54 : decode cX7_take 54 = .ok (.iload 4, 2) := by decide +kernel
theorem dX7_take_56 : decode cX7_take 56 = .ok (.iload_n 2, 1) := by decide +kernel
theorem dX7_take_57 : decode cX7_take 57 = .ok (.iload_n 3, 1) := by decide +kernel
theorem dX7_take_58 : decode cX7_take 58 = .ok (.invokevirtual 143, 3) := by decide +kernel
theorem dX7_take_61 : decode cX7_take 61 = .ok (.goto 11, 3) := by decide +kernel
theorem dX7_take_64 : decode cX7_take 64 = .ok (.aload_n 0, 1) := by decide +kernel
theorem dX7_take_65 : decode cX7_take 65 = .ok (.iload 4, 2) := by decide +kernel
theorem dX7_take_67 : decode cX7_take 67 = .ok (.iload_n 2, 1) := by decide +kernel
theorem dX7_take_68 : decode cX7_take 68 = .ok (.invokevirtual 147, 3) := by decide +kernel
theorem dX7_take_71 : decode cX7_take 71 = .ok (.i2l, 1) := by decide +kernel
theorem dX7_take_72 : decode cX7_take 72 = .ok (.lreturn, 1) := by decide +kernel
theorem dX7_size_0 : decode cX7_size 0 = .ok (.aload_n 0, 1) := by decide +kernel
theorem dX7_size_1 : decode cX7_size 1 = .ok (.iload_n 1, 1) := by decide +kernel
theorem dX7_size_2 : decode cX7_size 2 = .ok (.ldc 139, 2) := by decide +kernel
theorem dX7_size_4 : decode cX7_size 4 = .ok (.invokevirtual 132, 3) := by decide +kernel
theorem dX7_size_7 : decode cX7_size 7 = .ok (.ifCond .eq 7, 3) := by decide +kernel
theorem dX7_size_10 : decode cX7_size 10 = .ok (.iconst 0, 1) := by decide +kernel
theorem dX7_size_11 : decode cX7_size 11 = .ok (.goto 18, 3) := by decide +kernel
theorem dX7_size_14 : decode cX7_size 14 = .ok (.aload_n 0, 1) := by decide +kernel
theorem dX7_size_15 : decode cX7_size 15 = .ok (.getfield 12, 3) := by decide +kernel
theorem dX7_size_18 : decode cX7_size 18 = .ok (.aload_n 0, 1) := by decide +kernel
theorem dX7_size_19 : decode cX7_size 19 = .ok (.getfield 12, 3) := by decide +kernel
theorem dX7_size_22 : decode cX7_size 22 = .ok (.iload_n 1, 1) := by decide +kernel
theorem dX7_size_23 : decode cX7_size 23 = .ok (.invokevirtual 136, 3) := by decide +kernel
theorem dX7_size_26 : decode cX7_size 26 = .ok (.invokevirtual 150, 3) := by decide +kernel
theorem dX7_size_29 : decode cX7_size 29 = .ok (.ireturn, 1) := by decide +kernel
theorem dX7_read_0 : decode cX7_read 0 = .ok (.aload_n 0, 1) := by decide +kernel
theorem dX7_read_1 : decode cX7_read 1 = .ok (.iload_n 1, 1) := by decide +kernel
theorem dX7_read_2 : decode cX7_read 2 = .ok (.ldc 153, 2) := by decide +kernel
theorem dX7_read_4 : decode cX7_read 4 = .ok (.iload_n 2, 1) := by decide +kernel
theorem dX7_read_5 : decode cX7_read 5 = .ok (.invokevirtual 154, 3) := by decide +kernel
theorem dX7_read_8 : decode cX7_read 8 = .ok (.ifCond .eq 7, 3) := by decide +kernel
theorem dX7_read_11 : decode cX7_read 11 = .ok (.lconst 0, 1) := by decide +kernel
theorem dX7_read_12 : decode cX7_read 12 = .ok (.goto 19, 3) := by decide +kernel
theorem dX7_read_15 : decode cX7_read 15 = .ok (.aload_n 0, 1) := by decide +kernel
theorem dX7_read_16 : decode cX7_read 16 = .ok (.getfield 12, 3) := by decide +kernel
theorem dX7_read_19 : decode cX7_read 19 = .ok (.aload_n 0, 1) := by decide +kernel
theorem dX7_read_20 : decode cX7_read 20 = .ok (.getfield 12, 3) := by decide +kernel
theorem dX7_read_23 : decode cX7_read 23 = .ok (.iload_n 1, 1) := by decide +kernel
theorem dX7_read_24 : decode cX7_read 24 = .ok (.invokevirtual 136, 3) := by decide +kernel
theorem dX7_read_27 : decode cX7_read 27 = .ok (.iload_n 2, 1) := by decide +kernel
theorem dX7_read_28 : decode cX7_read 28 = .ok (.invokevirtual 158, 3) := by decide +kernel
theorem dX7_read_31 : decode cX7_read 31 = .ok (.lreturn, 1) := by decide +kernel
theorem dX7_at_0 : decode cX7_at 0 = .ok (.aload_n 0, 1) := by decide +kernel
theorem dX7_at_1 : decode cX7_at 1 = .ok (.iload_n 1, 1) := by decide +kernel
theorem dX7_at_2 : decode cX7_at 2 = .ok (.ldc 162, 2) := by decide +kernel
theorem dX7_at_4 : decode cX7_at 4 = .ok (.iload_n 2, 1) := by decide +kernel
theorem dX7_at_5 : decode cX7_at 5 = .ok (.invokevirtual 154, 3) := by decide +kernel
theorem dX7_at_8 : decode cX7_at 8 = .ok (.ifCond .eq 5, 3) := by decide +kernel
theorem dX7_at_11 : decode cX7_at 11 = .ok (.iconst 0, 1) := by decide +kernel
theorem dX7_at_12 : decode cX7_at 12 = .ok (.ireturn, 1) := by decide +kernel
theorem dX7_at_13 : decode cX7_at 13 = .ok (.aload_n 0, 1) := by decide +kernel
theorem dX7_at_14 : decode cX7_at 14 = .ok (.getfield 12, 3) := by decide +kernel
theorem dX7_at_17 : decode cX7_at 17 = .ok (.aload_n 0, 1) := by decide +kernel
theorem dX7_at_18 : decode cX7_at 18 = .ok (.getfield 12, 3) := by decide +kernel
theorem dX7_at_21 : decode cX7_at 21 = .ok (.iload_n 1, 1) := by decide +kernel
theorem dX7_at_22 : decode cX7_at 22 = .ok (.invokevirtual 136, 3) := by decide +kernel
theorem dX7_at_25 : decode cX7_at 25 = .ok (.iload_n 2, 1) := by decide +kernel
theorem dX7_at_26 : decode cX7_at 26 = .ok (.invokevirtual 158, 3) := by decide +kernel
theorem dX7_at_29 : decode cX7_at 29 = .ok (.l2i, 1) := by decide +kernel
theorem dX7_at_30 : decode cX7_at 30 = .ok (.istore 4, 2) := by decide +kernel
theorem dX7_at_32 : decode cX7_at 32 = .ok (.iload 4, 2) := by decide +kernel
theorem dX7_at_34 : decode cX7_at 34 = .ok (.iconst (-1), 1) := by decide +kernel
theorem dX7_at_35 : decode cX7_at 35 = .ok (.if_icmp .ne 9, 3) := by decide +kernel
theorem dX7_at_38 : decode cX7_at 38 = .ok (.aload_n 0, 1) := by decide +kernel
theorem dX7_at_39 : decode cX7_at 39 = .ok (.iconst 2, 1) := by decide +kernel
theorem dX7_at_40 : decode cX7_at 40 = .ok (.invokevirtual 91, 3) := by decide +kernel
theorem dX7_at_43 : decode cX7_at 43 = .ok (.ireturn, 1) := by decide +kernel
theorem dX7_at_44 : decode cX7_at 44 = .ok (.aload_n 0, 1) := by decide +kernel
theorem dX7_at_45 : decode cX7_at 45 = .ok (.getfield 12, 3) := by decide +kernel
theorem dX7_at_48 : decode cX7_at 48 = .ok (.iload 4, 2) := by decide +kernel
theorem dX7_at_50 : decode cX7_at 50 = .ok (.iload_n 3, 1) := by decide +kernel
theorem dX7_at_51 : decode cX7_at 51 = .ok (.invokevirtual 163, 3) := by decide +kernel
theorem dX7_at_54 : decode cX7_at 54 = .ok (.ifCond .ne 9, 3) := by decide +kernel
theorem dX7_at_57 : decode cX7_at 57 = .ok (.aload_n 0, 1) := by decide +kernel
theorem dX7_at_58 : decode cX7_at 58 = .ok (.iconst 4, 1) := by decide +kernel
theorem dX7_at_59 : decode cX7_at 59 = .ok (.invokevirtual 91, 3) := by decide +kernel
theorem dX7_at_62 : decode cX7_at 62 = .ok (.ireturn, 1) := by decide +kernel
theorem dX7_at_63 : decode cX7_at 63 = .ok (.aload_n 0, 1) := by decide +kernel
theorem dX7_at_64 : decode cX7_at 64 = .ok (.getfield 12, 3) := by decide +kernel
theorem dX7_at_67 : decode cX7_at 67 = .ok (.iload 4, 2) := by decide +kernel
theorem dX7_at_69 : decode cX7_at 69 = .ok (.iload_n 3, 1) := by decide +kernel
theorem dX7_at_70 : decode cX7_at 70 = .ok (.invokevirtual 158, 3) := by decide +kernel
theorem dX7_at_73 : decode cX7_at 73 = .ok (.l2i, 1) := by decide +kernel
theorem dX7_at_74 : decode cX7_at 74 = .ok (.istore 5, 2) := by decide +kernel
theorem dX7_at_76 : decode cX7_at 76 = .ok (.iload 5, 2) := by decide +kernel
theorem dX7_at_78 : decode cX7_at 78 = .ok (.iconst (-1), 1) := by decide +kernel
theorem dX7_at_79 : decode cX7_at 79 = .ok (.if_icmp .ne 23, 3) := by decide +kernel
theorem dX7_at_82 : decode cX7_at 82 = .ok (.aload_n 0, 1) := by decide +kernel
theorem dX7_at_83 : decode cX7_at 83 = .ok (.getfield 12, 3) := by decide +kernel
theorem dX7_at_86 : decode cX7_at 86 = .ok (.iload 4, 2) := by decide +kernel
theorem dX7_at_88 : decode cX7_at 88 = .ok (.ldc 166, 2) := by decide +kernel
theorem dX7_at_90 : decode cX7_at 90 = .ok (.invokevirtual 167, 3) := by decide +kernel
theorem dX7_at_93 : decode cX7_at 93 = .ok (.ifCond .eq 9, 3) := by decide +kernel
theorem dX7_at_96 : decode cX7_at 96 = .ok (.aload_n 0, 1) := by decide +kernel
theorem dX7_at_97 : decode cX7_at 97 = .ok (.iconst 2, 1) := by decide +kernel
theorem dX7_at_98 : decode cX7_at 98 = .ok (.invokevirtual 91, 3) := by decide +kernel
theorem dX7_at_101 : decode cX7_at 101 = .ok (.ireturn, 1) := by decide +kernel
theorem dX7_at_102 : decode cX7_at 102 = .ok (.iload 5, 2) := by decide +kernel
theorem dX7_at_104 : decode cX7_at 104 = .ok (.ireturn, 1) := by decide +kernel
theorem dX7_tell_0 : decode cX7_tell 0 = .ok (.iload_n 2, 1) := by decide +kernel
theorem dX7_tell_1 : decode cX7_tell 1 = .ok (.ifCond .lt 9, 3) := by decide +kernel
theorem dX7_tell_4 : decode cX7_tell 4 = .ok (.iload_n 2, 1) := by decide +kernel
theorem dX7_tell_5 : decode cX7_tell 5 = .ok (.bipush 9, 2) := by decide +kernel
theorem dX7_tell_7 : decode cX7_tell 7 = .ok (.if_icmp .le 9, 3) := by decide +kernel
theorem dX7_tell_10 : decode cX7_tell 10 = .ok (.aload_n 0, 1) := by decide +kernel
theorem dX7_tell_11 : decode cX7_tell 11 = .ok (.iconst 1, 1) := by decide +kernel
theorem dX7_tell_12 : decode cX7_tell 12 = .ok (.invokevirtual 91, 3) := by decide +kernel
theorem dX7_tell_15 : decode cX7_tell 15 = .ok (.ireturn, 1) := by decide +kernel
theorem dX7_tell_16 : decode cX7_tell 16 = .ok (.aload_n 0, 1) := by decide +kernel
theorem dX7_tell_17 : decode cX7_tell 17 = .ok (.iload_n 1, 1) := by decide +kernel
theorem dX7_tell_18 : decode cX7_tell 18 = .ok (.iconst (-1), 1) := by decide +kernel
theorem dX7_tell_19 : decode cX7_tell 19 = .ok (.invokevirtual 132, 3) := by decide +kernel
theorem dX7_tell_22 : decode cX7_tell 22 = .ok (.ifCond .eq 5, 3) := by decide +kernel
theorem dX7_tell_25 : decode cX7_tell 25 = .ok (.iconst 0, 1) := by decide +kernel
theorem dX7_tell_26 : decode cX7_tell 26 = .ok (.ireturn, 1) := by decide +kernel
theorem dX7_tell_27 : decode cX7_tell 27 = .ok (.aload_n 0, 1) := by decide +kernel
theorem dX7_tell_28 : decode cX7_tell 28 = .ok (.getfield 12, 3) := by decide +kernel
theorem dX7_tell_31 : decode cX7_tell 31 = .ok (.iload_n 1, 1) := by decide +kernel
theorem dX7_tell_32 : decode cX7_tell 32 = .ok (.invokevirtual 136, 3) := by decide +kernel
theorem dX7_tell_35 : decode cX7_tell 35 = .ok (.istore_n 3, 1) := by decide +kernel
theorem dX7_tell_36 : decode cX7_tell 36 = .ok (.iload_n 2, 1) := by decide +kernel
theorem dX7_tell_37 : decode cX7_tell 37 = .ok (.bipush 7, 2) := by decide +kernel
theorem dX7_tell_39 : decode cX7_tell 39 = .ok (.if_icmp .ne 14, 3) := by decide +kernel
theorem dX7_tell_42 : decode cX7_tell 42 = .ok (.aload_n 0, 1) := by decide +kernel
theorem dX7_tell_43 : decode cX7_tell 43 = .ok (.getfield 12, 3) := by decide +kernel
theorem dX7_tell_46 : decode cX7_tell 46 = .ok (.iload_n 3, 1) := by decide +kernel
theorem dX7_tell_47 : decode cX7_tell 47 = .ok (.invokestatic 170, 3) := by decide +kernel
theorem dX7_tell_50 : decode cX7_tell 50 = .ok (.goto 12, 3) := by decide +kernel
theorem dX7_tell_53 : decode cX7_tell 53 = .ok (.aload_n 0, 1) := by decide +kernel
theorem dX7_tell_54 : decode cX7_tell 54 = .ok (.getfield 12, 3) := by decide +kernel
theorem dX7_tell_57 : decode cX7_tell 57 = .ok (.iload_n 3, 1) := by decide +kernel
theorem dX7_tell_58 : decode cX7_tell 58 = .ok (.iload_n 2, 1) := by decide +kernel
theorem dX7_tell_59 : decode cX7_tell 59 = .ok (.invokevirtual 176, 3) := by decide +kernel
theorem dX7_tell_62 : decode cX7_tell 62 = .ok (.ireturn, 1) := by decide +kernel
theorem dX7_why_0 : decode cX7_why 0 = .ok (.aload_n 0, 1) := by decide +kernel
theorem dX7_why_1 : decode cX7_why 1 = .ok (.getfield 30, 3) := by decide +kernel
theorem dX7_why_4 : decode cX7_why 4 = .ok (.ireturn, 1) := by decide +kernel
theorem dX7_refuse_0 : decode cX7_refuse 0 = .ok (.aload_n 0, 1) := by decide +kernel
theorem dX7_refuse_1 : decode cX7_refuse 1 = .ok (.iload_n 1, 1) := by decide +kernel
theorem dX7_refuse_2 : decode cX7_refuse 2 = .ok (.putfield 30, 3) := by decide +kernel
theorem dX7_refuse_5 : decode cX7_refuse 5 = .ok (.iconst 0, 1) := by decide +kernel
theorem dX7_refuse_6 : decode cX7_refuse 6 = .ok (.ireturn, 1) := by decide +kernel
theorem dX7_isShelf_0 : decode cX7_isShelf 0 = .ok (.iload_n 0, 1) := by decide +kernel
theorem dX7_isShelf_1 : decode cX7_isShelf 1 = .ok (.ifCond .lt 13, 3) := by decide +kernel
theorem dX7_isShelf_4 : decode cX7_isShelf 4 = .ok (.iload_n 0, 1) := by decide +kernel
theorem dX7_isShelf_5 : decode cX7_isShelf 5 = .ok (.bipush 16, 2) := by decide +kernel
theorem dX7_isShelf_7 : decode cX7_isShelf 7 = .ok (.if_icmp .ge 7, 3) := by decide +kernel
theorem dX7_isShelf_10 : decode cX7_isShelf 10 = .ok (.iconst 1, 1) := by decide +kernel
theorem dX7_isShelf_11 : decode cX7_isShelf 11 = .ok (.goto 4, 3) := by decide +kernel
theorem dX7_isShelf_14 : decode cX7_isShelf 14 = .ok (.iconst 0, 1) := by decide +kernel
theorem dX7_isShelf_15 : decode cX7_isShelf 15 = .ok (.ireturn, 1) := by decide +kernel
theorem dX7_holdsNone_0 : decode cX7_holdsNone 0 = .ok (.aload_n 0, 1) := by decide +kernel
theorem dX7_holdsNone_1 : decode cX7_holdsNone 1 = .ok (.iconst 0, 1) := by decide +kernel
theorem dX7_holdsNone_2 : decode cX7_holdsNone 2 = .ok (.putfield 30, 3) := by decide +kernel
theorem dX7_holdsNone_5 : decode cX7_holdsNone 5 = .ok (.iload_n 1, 1) := by decide +kernel
theorem dX7_holdsNone_6 : decode cX7_holdsNone 6 = .ok (.invokestatic 123, 3) := by decide +kernel
theorem dX7_holdsNone_9 : decode cX7_holdsNone 9 = .ok (.ifCond .ne 11, 3) := by decide +kernel
theorem dX7_holdsNone_12 : decode cX7_holdsNone 12 = .ok (.aload_n 0, 1) := by decide +kernel
theorem dX7_holdsNone_13 : decode cX7_holdsNone 13 = .ok (.iconst 1, 1) := by decide +kernel
theorem dX7_holdsNone_14 : decode cX7_holdsNone 14 = .ok (.putfield 30, 3) := by decide +kernel
theorem dX7_holdsNone_17 : decode cX7_holdsNone 17 = .ok (.goto 47, 3) := by decide +kernel
theorem dX7_holdsNone_20 : decode cX7_holdsNone 20 = .ok (.aload_n 0, 1) := by decide +kernel
theorem dX7_holdsNone_21 : decode cX7_holdsNone 21 = .ok (.getfield 12, 3) := by decide +kernel
theorem dX7_holdsNone_24 : decode cX7_holdsNone 24 = .ok (.iload_n 1, 1) := by decide +kernel
theorem dX7_holdsNone_25 : decode cX7_holdsNone 25 = .ok (.invokevirtual 136, 3) := by decide +kernel
theorem dX7_holdsNone_28 : decode cX7_holdsNone 28 = .ok (.iconst (-1), 1) := by decide +kernel
theorem dX7_holdsNone_29 : decode cX7_holdsNone 29 = .ok (.if_icmp .ne 11, 3) := by decide +kernel
theorem dX7_holdsNone_32 : decode cX7_holdsNone 32 = .ok (.aload_n 0, 1) := by decide +kernel
theorem dX7_holdsNone_33 : decode cX7_holdsNone 33 = .ok (.iconst 2, 1) := by decide +kernel
theorem dX7_holdsNone_34 : decode cX7_holdsNone 34 = .ok (.putfield 30, 3) := by decide +kernel
theorem dX7_holdsNone_37 : decode cX7_holdsNone 37 = .ok (.goto 27, 3) := by decide +kernel
theorem dX7_holdsNone_40 : decode cX7_holdsNone 40 = .ok (.aload_n 0, 1) := by decide +kernel
theorem dX7_holdsNone_41 : decode cX7_holdsNone 41 = .ok (.getfield 12, 3) := by decide +kernel
theorem dX7_holdsNone_44 : decode cX7_holdsNone 44 = .ok (.aload_n 0, 1) := by decide +kernel
theorem dX7_holdsNone_45 : decode cX7_holdsNone 45 = .ok (.getfield 12, 3) := by decide +kernel
theorem dX7_holdsNone_48 : decode cX7_holdsNone 48 = .ok (.iload_n 1, 1) := by decide +kernel
theorem dX7_holdsNone_49 : decode cX7_holdsNone 49 = .ok (.invokevirtual 136, 3) := by decide +kernel
theorem dX7_holdsNone_52 : decode cX7_holdsNone 52 = .ok (.iload_n 2, 1) := by decide +kernel
theorem dX7_holdsNone_53 : decode cX7_holdsNone 53 = .ok (.invokevirtual 167, 3) := by decide +kernel
theorem dX7_holdsNone_56 : decode cX7_holdsNone 56 = .ok (.ifCond .ne 8, 3) := by decide +kernel
theorem dX7_holdsNone_59 : decode cX7_holdsNone 59 = .ok (.aload_n 0, 1) := by decide +kernel
theorem dX7_holdsNone_60 : decode cX7_holdsNone 60 = .ok (.iconst 3, 1) := by decide +kernel
theorem dX7_holdsNone_61 : decode cX7_holdsNone 61 = .ok (.putfield 30, 3) := by decide +kernel
theorem dX7_holdsNone_64 : decode cX7_holdsNone 64 = .ok (.aload_n 0, 1) := by decide +kernel
theorem dX7_holdsNone_65 : decode cX7_holdsNone 65 = .ok (.getfield 30, 3) := by decide +kernel
theorem dX7_holdsNone_68 : decode cX7_holdsNone 68 = .ok (.ifCond .eq 7, 3) := by decide +kernel
theorem dX7_holdsNone_71 : decode cX7_holdsNone 71 = .ok (.iconst 1, 1) := by decide +kernel
theorem dX7_holdsNone_72 : decode cX7_holdsNone 72 = .ok (.goto 4, 3) := by decide +kernel
theorem dX7_holdsNone_75 : decode cX7_holdsNone 75 = .ok (.iconst 0, 1) := by decide +kernel
theorem dX7_holdsNone_76 : decode cX7_holdsNone 76 = .ok (.ireturn, 1) := by decide +kernel
theorem dX7_hasNoPlace_0 : decode cX7_hasNoPlace 0 = .ok (.aload_n 0, 1) := by decide +kernel
theorem dX7_hasNoPlace_1 : decode cX7_hasNoPlace 1 = .ok (.iload_n 1, 1) := by decide +kernel
theorem dX7_hasNoPlace_2 : decode cX7_hasNoPlace 2 = .ok (.iload_n 2, 1) := by decide +kernel
theorem dX7_hasNoPlace_3 : decode cX7_hasNoPlace 3 = .ok (.invokevirtual 132, 3) := by decide +kernel
theorem dX7_hasNoPlace_6 : decode cX7_hasNoPlace 6 = .ok (.ifCond .ne 27, 3) := by decide +kernel
theorem dX7_hasNoPlace_9 : decode cX7_hasNoPlace 9 = .ok (.aload_n 0, 1) := by decide +kernel
theorem dX7_hasNoPlace_10 : decode cX7_hasNoPlace 10 = .ok (.getfield 12, 3) := by decide +kernel
theorem dX7_hasNoPlace_13 : decode cX7_hasNoPlace 13 = .ok (.aload_n 0, 1) := by decide +kernel
theorem dX7_hasNoPlace_14 : decode cX7_hasNoPlace 14 = .ok (.getfield 12, 3) := by decide +kernel
theorem dX7_hasNoPlace_17 : decode cX7_hasNoPlace 17 = .ok (.iload_n 1, 1) := by decide +kernel
theorem dX7_hasNoPlace_18 : decode cX7_hasNoPlace 18 = .ok (.invokevirtual 136, 3) := by decide +kernel
theorem dX7_hasNoPlace_21 : decode cX7_hasNoPlace 21 = .ok (.iload_n 3, 1) := by decide +kernel
theorem dX7_hasNoPlace_22 : decode cX7_hasNoPlace 22 = .ok (.invokevirtual 163, 3) := by decide +kernel
theorem dX7_hasNoPlace_25 : decode cX7_hasNoPlace 25 = .ok (.ifCond .ne 8, 3) := by decide +kernel
theorem dX7_hasNoPlace_28 : decode cX7_hasNoPlace 28 = .ok (.aload_n 0, 1) := by decide +kernel
theorem dX7_hasNoPlace_29 : decode cX7_hasNoPlace 29 = .ok (.iconst 4, 1) := by decide +kernel
theorem dX7_hasNoPlace_30 : decode cX7_hasNoPlace 30 = .ok (.putfield 30, 3) := by decide +kernel
theorem dX7_hasNoPlace_33 : decode cX7_hasNoPlace 33 = .ok (.aload_n 0, 1) := by decide +kernel
theorem dX7_hasNoPlace_34 : decode cX7_hasNoPlace 34 = .ok (.getfield 30, 3) := by decide +kernel
theorem dX7_hasNoPlace_37 : decode cX7_hasNoPlace 37 = .ok (.ifCond .eq 7, 3) := by decide +kernel
theorem dX7_hasNoPlace_40 : decode cX7_hasNoPlace 40 = .ok (.iconst 1, 1) := by decide +kernel
theorem dX7_hasNoPlace_41 : decode cX7_hasNoPlace 41 = .ok (.goto 4, 3) := by decide +kernel
theorem dX7_hasNoPlace_44 : decode cX7_hasNoPlace 44 = .ok (.iconst 0, 1) := by decide +kernel
theorem dX7_hasNoPlace_45 : decode cX7_hasNoPlace 45 = .ok (.ireturn, 1) := by decide +kernel
theorem dX7_isEitherEmpty_0 : decode cX7_isEitherEmpty 0 = .ok (.aload_n 0, 1) := by decide +kernel
theorem dX7_isEitherEmpty_1 : decode cX7_isEitherEmpty 1 = .ok (.iconst 0, 1) := by decide +kernel
theorem dX7_isEitherEmpty_2 : decode cX7_isEitherEmpty 2 = .ok (.putfield 30, 3) := by decide +kernel
theorem dX7_isEitherEmpty_5 : decode cX7_isEitherEmpty 5 = .ok (.iload_n 1, 1) := by decide +kernel
theorem dX7_isEitherEmpty_6 : decode cX7_isEitherEmpty 6 = .ok (.invokestatic 123, 3) := by decide +kernel
theorem dX7_isEitherEmpty_9 : decode cX7_isEitherEmpty 9 = .ok (.ifCond .eq 10, 3) := by decide +kernel
theorem dX7_isEitherEmpty_12 : decode cX7_isEitherEmpty 12 = .ok (.iload_n 2, 1) := by decide +kernel
theorem dX7_isEitherEmpty_13 : decode cX7_isEitherEmpty 13 = .ok (.invokestatic 123, 3) := by decide +kernel
theorem dX7_isEitherEmpty_16 : decode cX7_isEitherEmpty 16 = .ok (.ifCond .ne 11, 3) := by decide +kernel
theorem dX7_isEitherEmpty_19 : decode cX7_isEitherEmpty 19 = .ok (.aload_n 0, 1) := by decide +kernel
theorem dX7_isEitherEmpty_20 : decode cX7_isEitherEmpty 20 = .ok (.iconst 1, 1) := by decide +kernel
theorem dX7_isEitherEmpty_21 : decode cX7_isEitherEmpty 21 = .ok (.putfield 30, 3) := by decide +kernel
theorem dX7_isEitherEmpty_24 : decode cX7_isEitherEmpty 24 = .ok (.goto 32, 3) := by decide +kernel
theorem dX7_isEitherEmpty_27 : decode cX7_isEitherEmpty 27 = .ok (.aload_n 0, 1) := by decide +kernel
theorem dX7_isEitherEmpty_28 : decode cX7_isEitherEmpty 28 = .ok (.getfield 12, 3) := by decide +kernel
theorem dX7_isEitherEmpty_31 : decode cX7_isEitherEmpty 31 = .ok (.iload_n 1, 1) := by decide +kernel
theorem dX7_isEitherEmpty_32 : decode cX7_isEitherEmpty 32 = .ok (.invokevirtual 136, 3) := by decide +kernel
theorem dX7_isEitherEmpty_35 : decode cX7_isEitherEmpty 35 = .ok (.iconst (-1), 1) := by decide +kernel
theorem dX7_isEitherEmpty_36 : decode cX7_isEitherEmpty 36 = .ok (.if_icmp .eq 15, 3) := by decide +kernel
theorem dX7_isEitherEmpty_39 : decode cX7_isEitherEmpty 39 = .ok (.aload_n 0, 1) := by decide +kernel
theorem dX7_isEitherEmpty_40 : decode cX7_isEitherEmpty 40 = .ok (.getfield 12, 3) := by decide +kernel
theorem dX7_isEitherEmpty_43 : decode cX7_isEitherEmpty 43 = .ok (.iload_n 2, 1) := by decide +kernel
theorem dX7_isEitherEmpty_44 : decode cX7_isEitherEmpty 44 = .ok (.invokevirtual 136, 3) := by decide +kernel
theorem dX7_isEitherEmpty_47 : decode cX7_isEitherEmpty 47 = .ok (.iconst (-1), 1) := by decide +kernel
theorem dX7_isEitherEmpty_48 : decode cX7_isEitherEmpty 48 = .ok (.if_icmp .ne 8, 3) := by decide +kernel
theorem dX7_isEitherEmpty_51 : decode cX7_isEitherEmpty 51 = .ok (.aload_n 0, 1) := by decide +kernel
theorem dX7_isEitherEmpty_52 : decode cX7_isEitherEmpty 52 = .ok (.iconst 2, 1) := by decide +kernel
theorem dX7_isEitherEmpty_53 : decode cX7_isEitherEmpty 53 = .ok (.putfield 30, 3) := by decide +kernel
theorem dX7_isEitherEmpty_56 : decode cX7_isEitherEmpty 56 = .ok (.aload_n 0, 1) := by decide +kernel
theorem dX7_isEitherEmpty_57 : decode cX7_isEitherEmpty 57 = .ok (.getfield 30, 3) := by decide +kernel
theorem dX7_isEitherEmpty_60 : decode cX7_isEitherEmpty 60 = .ok (.ifCond .eq 7, 3) := by decide +kernel
theorem dX7_isEitherEmpty_63 : decode cX7_isEitherEmpty 63 = .ok (.iconst 1, 1) := by decide +kernel
theorem dX7_isEitherEmpty_64 : decode cX7_isEitherEmpty 64 = .ok (.goto 4, 3) := by decide +kernel
theorem dX7_isEitherEmpty_67 : decode cX7_isEitherEmpty 67 = .ok (.iconst 0, 1) := by decide +kernel
theorem dX7_isEitherEmpty_68 : decode cX7_isEitherEmpty 68 = .ok (.ireturn, 1) := by decide +kernel
theorem dX7_keepIfDone_0 : decode cX7_keepIfDone 0 = .ok (.aload_n 0, 1) := by decide +kernel
theorem dX7_keepIfDone_1 : decode cX7_keepIfDone 1 = .ok (.getfield 30, 3) := by decide +kernel
theorem dX7_keepIfDone_4 : decode cX7_keepIfDone 4 = .ok (.ifCond .ne 11, 3) := by decide +kernel
theorem dX7_keepIfDone_7 : decode cX7_keepIfDone 7 = .ok (.aload_n 0, 1) := by decide +kernel
theorem dX7_keepIfDone_8 : decode cX7_keepIfDone 8 = .ok (.iload_n 1, 1) := by decide +kernel
theorem dX7_keepIfDone_9 : decode cX7_keepIfDone 9 = .ok (.invokevirtual 69, 3) := by decide +kernel
theorem dX7_keepIfDone_12 : decode cX7_keepIfDone 12 = .ok (.goto 4, 3) := by decide +kernel
theorem dX7_keepIfDone_15 : decode cX7_keepIfDone 15 = .ok (.iload_n 1, 1) := by decide +kernel
theorem dX7_keepIfDone_16 : decode cX7_keepIfDone 16 = .ok (.ireturn, 1) := by decide +kernel
theorem dX7_keep_0 : decode cX7_keep 0 = .ok (.aload_n 0, 1) := by decide +kernel
theorem dX7_keep_1 : decode cX7_keep 1 = .ok (.getfield 12, 3) := by decide +kernel
theorem dX7_keep_4 : decode cX7_keep 4 = .ok (.invokevirtual 179, 3) := by decide +kernel
theorem dX7_keep_7 : decode cX7_keep 7 = .ok (.ifCond .eq 17, 3) := by decide +kernel
theorem dX7_keep_10 : decode cX7_keep 10 = .ok (.aload_n 0, 1) := by decide +kernel
theorem dX7_keep_11 : decode cX7_keep 11 = .ok (.getfield 12, 3) := by decide +kernel
theorem dX7_keep_14 : decode cX7_keep 14 = .ok (.invokevirtual 107, 3) := by decide +kernel
theorem dX7_keep_17 : decode cX7_keep 17 = .ok (.aload_n 0, 1) := by decide +kernel
theorem dX7_keep_18 : decode cX7_keep 18 = .ok (.bipush 6, 2) := by decide +kernel
theorem dX7_keep_20 : decode cX7_keep 20 = .ok (.invokevirtual 91, 3) := by decide +kernel
theorem dX7_keep_23 : decode cX7_keep 23 = .ok (.ireturn, 1) := by decide +kernel
theorem dX7_keep_24 : decode cX7_keep 24 = .ok (.aload_n 0, 1) := by decide +kernel
theorem dX7_keep_25 : decode cX7_keep 25 = .ok (.getfield 12, 3) := by decide +kernel
theorem dX7_keep_28 : decode cX7_keep 28 = .ok (.invokevirtual 183, 3) := by decide +kernel
theorem dX7_keep_31 : decode cX7_keep 31 = .ok (.iload_n 1, 1) := by decide +kernel
theorem dX7_keep_32 : decode cX7_keep 32 = .ok (.ireturn, 1) := by decide +kernel
theorem dX7_noteDown_0 : decode cX7_noteDown 0 = .ok (.aload_n 0, 1) := by decide +kernel
theorem dX7_noteDown_1 : decode cX7_noteDown 1 = .ok (.getfield 26, 3) := by decide +kernel
theorem dX7_noteDown_4 : decode cX7_noteDown 4 = .ok (.invokevirtual 186, 3) := by decide +kernel
theorem dX7_noteDown_7 : decode cX7_noteDown 7 = .ok (.ifCond .eq 10, 3) := by decide +kernel
theorem dX7_noteDown_10 : decode cX7_noteDown 10 = .ok (.aload_n 0, 1) := by decide +kernel
theorem dX7_noteDown_11 : decode cX7_noteDown 11 = .ok (.bipush 6, 2) := by decide +kernel
theorem dX7_noteDown_13 : decode cX7_noteDown 13 = .ok (.invokevirtual 91, 3) := by decide +kernel
theorem dX7_noteDown_16 : decode cX7_noteDown 16 = .ok (.ireturn, 1) := by decide +kernel
theorem dX7_noteDown_17 : decode cX7_noteDown 17 = .ok (.aload_n 0, 1) := by decide +kernel
theorem dX7_noteDown_18 : decode cX7_noteDown 18 = .ok (.iconst 0, 1) := by decide +kernel
theorem dX7_noteDown_19 : decode cX7_noteDown 19 = .ok (.putfield 30, 3) := by decide +kernel
theorem dX7_noteDown_22 : decode cX7_noteDown 22 = .ok (.aload_n 0, 1) := by decide +kernel
theorem dX7_noteDown_23 : decode cX7_noteDown 23 = .ok (.getfield 26, 3) := by decide +kernel
theorem dX7_noteDown_26 : decode cX7_noteDown 26 = .ok (.aload_n 1, 1) := by decide +kernel
theorem dX7_noteDown_27 : decode cX7_noteDown 27 = .ok (.invokevirtual 189, 3) := by decide +kernel
theorem dX7_noteDown_30 : decode cX7_noteDown 30 = .ok (.ireturn, 1) := by decide +kernel
theorem dX7_isWhen_0 : decode cX7_isWhen 0 = .ok (.aload_n 0, 1) := by decide +kernel
theorem dX7_isWhen_1 : decode cX7_isWhen 1 = .ok (.ifnull 16, 3) := by decide +kernel
theorem dX7_isWhen_4 : decode cX7_isWhen 4 = .ok (.aload_n 0, 1) := by decide +kernel
theorem dX7_isWhen_5 : decode cX7_isWhen 5 = .ok (.getfield 192, 3) := by decide +kernel
theorem dX7_isWhen_8 : decode cX7_isWhen 8 = .ok (.bipush 11, 2) := by decide +kernel
theorem dX7_isWhen_10 : decode cX7_isWhen 10 = .ok (.if_icmp .ne 7, 3) := by decide +kernel
theorem dX7_isWhen_13 : decode cX7_isWhen 13 = .ok (.iconst 1, 1) := by decide +kernel
theorem dX7_isWhen_14 : decode cX7_isWhen 14 = .ok (.goto 4, 3) := by decide +kernel
theorem dX7_isWhen_17 : decode cX7_isWhen 17 = .ok (.iconst 0, 1) := by decide +kernel
theorem dX7_isWhen_18 : decode cX7_isWhen 18 = .ok (.ireturn, 1) := by decide +kernel
theorem dX7_perform_0 : decode cX7_perform 0 = .ok (.aload_n 1, 1) := by decide +kernel
theorem dX7_perform_1 : decode cX7_perform 1 = .ok (.ifnonnull 5, 3) := by decide +kernel
theorem dX7_perform_4 : decode cX7_perform 4 = .ok (.iconst 0, 1) := by decide +kernel
theorem dX7_perform_5 : decode cX7_perform 5 = .ok (.ireturn, 1) := by decide +kernel
theorem dX7_perform_6 : decode cX7_perform 6 = .ok (.aload_n 1, 1) := by decide +kernel
theorem dX7_perform_7 : decode cX7_perform 7 = .ok (.getfield 192, 3) := by decide +kernel
theorem dX7_perform_10 : decode cX7_perform 10 = .ok (.tableswitch 229 0 10 #[58, 76, 89, 107, 125, 151, 168, 181, 194, 207, 220], 58) := by decide +kernel
theorem dX7_perform_68 : decode cX7_perform 68 = .ok (.aload_n 0, 1) := by decide +kernel
theorem dX7_perform_69 : decode cX7_perform 69 = .ok (.aload_n 1, 1) := by decide +kernel
theorem dX7_perform_70 : decode cX7_perform 70 = .ok (.getfield 195, 3) := by decide +kernel
theorem dX7_perform_73 : decode cX7_perform 73 = .ok (.aload_n 1, 1) := by decide +kernel
theorem dX7_perform_74 : decode cX7_perform 74 = .ok (.getfield 198, 3) := by decide +kernel
theorem dX7_perform_77 : decode cX7_perform 77 = .ok (.aload_n 1, 1) := by decide +kernel
theorem dX7_perform_78 : decode cX7_perform 78 = .ok (.getfield 201, 3) := by decide +kernel
theorem dX7_perform_81 : decode cX7_perform 81 = .ok (.l2i, 1) := by decide +kernel
theorem dX7_perform_82 : decode cX7_perform 82 = .ok (.invokevirtual 47, 3) := by decide +kernel
theorem dX7_perform_85 : decode cX7_perform 85 = .ok (.ireturn, 1) := by decide +kernel
theorem dX7_perform_86 : decode cX7_perform 86 = .ok (.aload_n 0, 1) := by decide +kernel
theorem dX7_perform_87 : decode cX7_perform 87 = .ok (.aload_n 1, 1) := by decide +kernel
theorem dX7_perform_88 : decode cX7_perform 88 = .ok (.getfield 195, 3) := by decide +kernel
theorem dX7_perform_91 : decode cX7_perform 91 = .ok (.aload_n 1, 1) := by decide +kernel
theorem dX7_perform_92 : decode cX7_perform 92 = .ok (.getfield 198, 3) := by decide +kernel
theorem dX7_perform_95 : decode cX7_perform 95 = .ok (.invokevirtual 55, 3) := by decide +kernel
theorem dX7_perform_98 : decode cX7_perform 98 = .ok (.ireturn, 1) := by decide +kernel
theorem dX7_perform_99 : decode cX7_perform 99 = .ok (.aload_n 0, 1) := by decide +kernel
theorem dX7_perform_100 : decode cX7_perform 100 = .ok (.aload_n 1, 1) := by decide +kernel
theorem dX7_perform_101 : decode cX7_perform 101 = .ok (.getfield 195, 3) := by decide +kernel
theorem dX7_perform_104 : decode cX7_perform 104 = .ok (.aload_n 1, 1) := by decide +kernel
theorem dX7_perform_105 : decode cX7_perform 105 = .ok (.getfield 198, 3) := by decide +kernel
theorem dX7_perform_108 : decode cX7_perform 108 = .ok (.aload_n 1, 1) := by decide +kernel
theorem dX7_perform_109 : decode cX7_perform 109 = .ok (.getfield 201, 3) := by decide +kernel
theorem dX7_perform_112 : decode cX7_perform 112 = .ok (.l2i, 1) := by decide +kernel
theorem dX7_perform_113 : decode cX7_perform 113 = .ok (.invokevirtual 59, 3) := by decide +kernel
theorem dX7_perform_116 : decode cX7_perform 116 = .ok (.ireturn, 1) := by decide +kernel
theorem dX7_perform_117 : decode cX7_perform 117 = .ok (.aload_n 0, 1) := by decide +kernel
theorem dX7_perform_118 : decode cX7_perform 118 = .ok (.aload_n 1, 1) := by decide +kernel
theorem dX7_perform_119 : decode cX7_perform 119 = .ok (.getfield 195, 3) := by decide +kernel
theorem dX7_perform_122 : decode cX7_perform 122 = .ok (.aload_n 1, 1) := by decide +kernel
theorem dX7_perform_123 : decode cX7_perform 123 = .ok (.getfield 198, 3) := by decide +kernel
theorem dX7_perform_126 : decode cX7_perform 126 = .ok (.aload_n 1, 1) := by decide +kernel
theorem dX7_perform_127 : decode cX7_perform 127 = .ok (.getfield 201, 3) := by decide +kernel
theorem dX7_perform_130 : decode cX7_perform 130 = .ok (.l2i, 1) := by decide +kernel
theorem dX7_perform_131 : decode cX7_perform 131 = .ok (.invokevirtual 62, 3) := by decide +kernel
theorem dX7_perform_134 : decode cX7_perform 134 = .ok (.ireturn, 1) := by decide +kernel
theorem dX7_perform_135 : decode cX7_perform 135 = .ok (.aload_n 0, 1) := by decide +kernel
theorem dX7_perform_136 : decode cX7_perform 136 = .ok (.aload_n 1, 1) := by decide +kernel
theorem dX7_perform_137 : decode cX7_perform 137 = .ok (.getfield 195, 3) := by decide +kernel
theorem dX7_perform_140 : decode cX7_perform 140 = .ok (.aload_n 1, 1) := by decide +kernel
theorem dX7_perform_141 : decode cX7_perform 141 = .ok (.getfield 198, 3) := by decide +kernel
theorem dX7_perform_144 : decode cX7_perform 144 = .ok (.aload_n 1, 1) := by decide +kernel
theorem dX7_perform_145 : decode cX7_perform 145 = .ok (.getfield 201, 3) := by decide +kernel
theorem dX7_perform_148 : decode cX7_perform 148 = .ok (.l2i, 1) := by decide +kernel
theorem dX7_perform_149 : decode cX7_perform 149 = .ok (.aload_n 1, 1) := by decide +kernel
theorem dX7_perform_150 : decode cX7_perform 150 = .ok (.getfield 205, 3) := by decide +kernel
theorem dX7_perform_153 : decode cX7_perform 153 = .ok (.aload_n 1, 1) := by decide +kernel
theorem dX7_perform_154 : decode cX7_perform 154 = .ok (.getfield 208, 3) := by decide +kernel
theorem dX7_perform_157 : decode cX7_perform 157 = .ok (.invokevirtual 65, 3) := by decide +kernel
theorem dX7_perform_160 : decode cX7_perform 160 = .ok (.ireturn, 1) := by decide +kernel
theorem dX7_perform_161 : decode cX7_perform 161 = .ok (.aload_n 0, 1) := by decide +kernel
theorem dX7_perform_162 : decode cX7_perform 162 = .ok (.aload_n 1, 1) := by decide +kernel
theorem dX7_perform_163 : decode cX7_perform 163 = .ok (.getfield 195, 3) := by decide +kernel
theorem dX7_perform_166 : decode cX7_perform 166 = .ok (.aload_n 1, 1) := by decide +kernel
theorem dX7_perform_167 : decode cX7_perform 167 = .ok (.getfield 198, 3) := by decide +kernel
theorem dX7_perform_170 : decode cX7_perform 170 = .ok (.aload_n 1, 1) := by decide +kernel
theorem dX7_perform_171 : decode cX7_perform 171 = .ok (.getfield 201, 3) := by decide +kernel
theorem dX7_perform_174 : decode cX7_perform 174 = .ok (.invokevirtual 72, 3) := by decide +kernel
theorem dX7_perform_177 : decode cX7_perform 177 = .ok (.ireturn, 1) := by decide +kernel
theorem dX7_perform_178 : decode cX7_perform 178 = .ok (.aload_n 0, 1) := by decide +kernel
theorem dX7_perform_179 : decode cX7_perform 179 = .ok (.aload_n 1, 1) := by decide +kernel
theorem dX7_perform_180 : decode cX7_perform 180 = .ok (.getfield 195, 3) := by decide +kernel
theorem dX7_perform_183 : decode cX7_perform 183 = .ok (.aload_n 1, 1) := by decide +kernel
theorem dX7_perform_184 : decode cX7_perform 184 = .ok (.getfield 198, 3) := by decide +kernel
theorem dX7_perform_187 : decode cX7_perform 187 = .ok (.invokevirtual 76, 3) := by decide +kernel
theorem dX7_perform_190 : decode cX7_perform 190 = .ok (.ireturn, 1) := by decide +kernel
theorem dX7_perform_191 : decode cX7_perform 191 = .ok (.aload_n 0, 1) := by decide +kernel
theorem dX7_perform_192 : decode cX7_perform 192 = .ok (.aload_n 1, 1) := by decide +kernel
theorem dX7_perform_193 : decode cX7_perform 193 = .ok (.getfield 195, 3) := by decide +kernel
theorem dX7_perform_196 : decode cX7_perform 196 = .ok (.aload_n 1, 1) := by decide +kernel
theorem dX7_perform_197 : decode cX7_perform 197 = .ok (.getfield 198, 3) := by decide +kernel
theorem dX7_perform_200 : decode cX7_perform 200 = .ok (.invokevirtual 79, 3) := by decide +kernel
theorem dX7_perform_203 : decode cX7_perform 203 = .ok (.ireturn, 1) := by decide +kernel
theorem dX7_perform_204 : decode cX7_perform 204 = .ok (.aload_n 0, 1) := by decide +kernel
theorem dX7_perform_205 : decode cX7_perform 205 = .ok (.aload_n 1, 1) := by decide +kernel
theorem dX7_perform_206 : decode cX7_perform 206 = .ok (.getfield 195, 3) := by decide +kernel
theorem dX7_perform_209 : decode cX7_perform 209 = .ok (.aload_n 1, 1) := by decide +kernel
theorem dX7_perform_210 : decode cX7_perform 210 = .ok (.getfield 198, 3) := by decide +kernel
theorem dX7_perform_213 : decode cX7_perform 213 = .ok (.invokevirtual 82, 3) := by decide +kernel
theorem dX7_perform_216 : decode cX7_perform 216 = .ok (.ireturn, 1) := by decide +kernel
theorem dX7_perform_217 : decode cX7_perform 217 = .ok (.aload_n 0, 1) := by decide +kernel
theorem dX7_perform_218 : decode cX7_perform 218 = .ok (.aload_n 1, 1) := by decide +kernel
theorem dX7_perform_219 : decode cX7_perform 219 = .ok (.getfield 195, 3) := by decide +kernel
theorem dX7_perform_222 : decode cX7_perform 222 = .ok (.aload_n 1, 1) := by decide +kernel
theorem dX7_perform_223 : decode cX7_perform 223 = .ok (.getfield 198, 3) := by decide +kernel
theorem dX7_perform_226 : decode cX7_perform 226 = .ok (.invokevirtual 85, 3) := by decide +kernel
theorem dX7_perform_229 : decode cX7_perform 229 = .ok (.ireturn, 1) := by decide +kernel
theorem dX7_perform_230 : decode cX7_perform 230 = .ok (.aload_n 0, 1) := by decide +kernel
theorem dX7_perform_231 : decode cX7_perform 231 = .ok (.aload_n 1, 1) := by decide +kernel
theorem dX7_perform_232 : decode cX7_perform 232 = .ok (.getfield 195, 3) := by decide +kernel
theorem dX7_perform_235 : decode cX7_perform 235 = .ok (.invokevirtual 88, 3) := by decide +kernel
theorem dX7_perform_238 : decode cX7_perform 238 = .ok (.ireturn, 1) := by decide +kernel
theorem dX7_perform_239 : decode cX7_perform 239 = .ok (.aload_n 0, 1) := by decide +kernel
theorem dX7_perform_240 : decode cX7_perform 240 = .ok (.aload_n 1, 1) := by decide +kernel
theorem dX7_perform_241 : decode cX7_perform 241 = .ok (.getfield 195, 3) := by decide +kernel
theorem dX7_perform_244 : decode cX7_perform 244 = .ok (.aload_n 1, 1) := by decide +kernel
theorem dX7_perform_245 : decode cX7_perform 245 = .ok (.getfield 198, 3) := by decide +kernel
theorem dX7_perform_248 : decode cX7_perform 248 = .ok (.invokevirtual 120, 3) := by decide +kernel
theorem dX7_perform_251 : decode cX7_perform 251 = .ok (.ireturn, 1) := by decide +kernel
theorem dX7_makeThing_0 : decode cX7_makeThing 0 = .ok (.aload_n 0, 1) := by decide +kernel
theorem dX7_makeThing_1 : decode cX7_makeThing 1 = .ok (.iconst 0, 1) := by decide +kernel
theorem dX7_makeThing_2 : decode cX7_makeThing 2 = .ok (.putfield 30, 3) := by decide +kernel
theorem dX7_makeThing_5 : decode cX7_makeThing 5 = .ok (.iload_n 1, 1) := by decide +kernel
theorem dX7_makeThing_6 : decode cX7_makeThing 6 = .ok (.invokestatic 123, 3) := by decide +kernel
theorem dX7_makeThing_9 : decode cX7_makeThing 9 = .ok (.ifCond .eq 20, 3) := by decide +kernel
theorem dX7_makeThing_12 : decode cX7_makeThing 12 = .ok (.iload_n 2, 1) := by decide +kernel
theorem dX7_makeThing_13 : decode cX7_makeThing 13 = .ok (.invokestatic 211, 3) := by decide +kernel
theorem dX7_makeThing_16 : decode cX7_makeThing 16 = .ok (.ifCond .eq 13, 3) := by decide +kernel
theorem dX7_makeThing_19 : decode cX7_makeThing 19 = .ok (.iload_n 3, 1) := by decide +kernel
theorem dX7_makeThing_20 : decode cX7_makeThing 20 = .ok (.ifCond .lt 9, 3) := by decide +kernel
theorem dX7_makeThing_23 : decode cX7_makeThing 23 = .ok (.iload_n 3, 1) := by decide +kernel
theorem dX7_makeThing_24 : decode cX7_makeThing 24 = .ok (.bipush 12, 2) := by decide +kernel
theorem dX7_makeThing_26 : decode cX7_makeThing 26 = .ok (.if_icmp .le 9, 3) := by decide +kernel
theorem dX7_makeThing_29 : decode cX7_makeThing 29 = .ok (.aload_n 0, 1) := by decide +kernel
theorem dX7_makeThing_30 : decode cX7_makeThing 30 = .ok (.iconst 1, 1) := by decide +kernel
theorem dX7_makeThing_31 : decode cX7_makeThing 31 = .ok (.invokevirtual 91, 3) := by decide +kernel
theorem dX7_makeThing_34 : decode cX7_makeThing 34 = .ok (.ireturn, 1) := by decide +kernel
theorem dX7_makeThing_35 : decode cX7_makeThing 35 = .ok (.aload_n 0, 1) := by decide +kernel
theorem dX7_makeThing_36 : decode cX7_makeThing 36 = .ok (.getfield 12, 3) := by decide +kernel
theorem dX7_makeThing_39 : decode cX7_makeThing 39 = .ok (.invokevirtual 214, 3) := by decide +kernel
theorem dX7_makeThing_42 : decode cX7_makeThing 42 = .ok (.bipush 60, 2) := by decide +kernel
theorem dX7_makeThing_44 : decode cX7_makeThing 44 = .ok (.if_icmp .lt 10, 3) := by decide +kernel
theorem dX7_makeThing_47 : decode cX7_makeThing 47 = .ok (.aload_n 0, 1) := by decide +kernel
theorem dX7_makeThing_48 : decode cX7_makeThing 48 = .ok (.bipush 6, 2) := by decide +kernel
theorem dX7_makeThing_50 : decode cX7_makeThing 50 = .ok (.invokevirtual 91, 3) := by decide +kernel
theorem dX7_makeThing_53 : decode cX7_makeThing 53 = .ok (.ireturn, 1) := by decide +kernel
theorem dX7_makeThing_54 : decode cX7_makeThing 54 = .ok (.aload_n 0, 1) := by decide +kernel
theorem dX7_makeThing_55 : decode cX7_makeThing 55 = .ok (.getfield 12, 3) := by decide +kernel
theorem dX7_makeThing_58 : decode cX7_makeThing 58 = .ok (.iload_n 2, 1) := by decide +kernel
theorem dX7_makeThing_59 : decode cX7_makeThing 59 = .ok (.iload_n 3, 1) := by decide +kernel
theorem dX7_makeThing_60 : decode cX7_makeThing 60 = .ok (.invokevirtual 218, 3) := by decide +kernel
theorem dX7_makeThing_63 : decode cX7_makeThing 63 = .ok (.istore 4, 2) := by decide +kernel
theorem dX7_makeThing_65 : decode cX7_makeThing 65 = .ok (.aload_n 0, 1) := by decide +kernel
theorem dX7_makeThing_66 : decode cX7_makeThing 66 = .ok (.getfield 12, 3) := by decide +kernel
theorem dX7_makeThing_69 : decode cX7_makeThing 69 = .ok (.iload_n 1, 1) := by decide +kernel
theorem dX7_makeThing_70 : decode cX7_makeThing 70 = .ok (.iload 4, 2) := by decide +kernel
theorem dX7_makeThing_72 : decode cX7_makeThing 72 = .ok (.invokevirtual 220, 3) := by decide +kernel
theorem dX7_makeThing_75 : decode cX7_makeThing 75 = .ok (.iload 4, 2) := by decide +kernel
theorem dX7_makeThing_77 : decode cX7_makeThing 77 = .ok (.ireturn, 1) := by decide +kernel
theorem dX7_layOver_0 : decode cX7_layOver 0 = .ok (.aload_n 0, 1) := by decide +kernel
theorem dX7_layOver_1 : decode cX7_layOver 1 = .ok (.iconst 0, 1) := by decide +kernel
theorem dX7_layOver_2 : decode cX7_layOver 2 = .ok (.putfield 30, 3) := by decide +kernel
theorem dX7_layOver_5 : decode cX7_layOver 5 = .ok (.iload_n 1, 1) := by decide +kernel
theorem dX7_layOver_6 : decode cX7_layOver 6 = .ok (.invokestatic 123, 3) := by decide +kernel
theorem dX7_layOver_9 : decode cX7_layOver 9 = .ok (.ifCond .eq 10, 3) := by decide +kernel
theorem dX7_layOver_12 : decode cX7_layOver 12 = .ok (.iload_n 2, 1) := by decide +kernel
theorem dX7_layOver_13 : decode cX7_layOver 13 = .ok (.invokestatic 123, 3) := by decide +kernel
theorem dX7_layOver_16 : decode cX7_layOver 16 = .ok (.ifCond .ne 9, 3) := by decide +kernel
theorem dX7_layOver_19 : decode cX7_layOver 19 = .ok (.aload_n 0, 1) := by decide +kernel
theorem dX7_layOver_20 : decode cX7_layOver 20 = .ok (.iconst 1, 1) := by decide +kernel
theorem dX7_layOver_21 : decode cX7_layOver 21 = .ok (.invokevirtual 91, 3) := by decide +kernel
theorem dX7_layOver_24 : decode cX7_layOver 24 = .ok (.ireturn, 1) := by decide +kernel
theorem dX7_layOver_25 : decode cX7_layOver 25 = .ok (.aload_n 0, 1) := by decide +kernel
theorem dX7_layOver_26 : decode cX7_layOver 26 = .ok (.iload_n 2, 1) := by decide +kernel
theorem dX7_layOver_27 : decode cX7_layOver 27 = .ok (.aload_n 0, 1) := by decide +kernel
theorem dX7_layOver_28 : decode cX7_layOver 28 = .ok (.getfield 12, 3) := by decide +kernel
theorem dX7_layOver_31 : decode cX7_layOver 31 = .ok (.iload_n 1, 1) := by decide +kernel
theorem dX7_layOver_32 : decode cX7_layOver 32 = .ok (.invokevirtual 136, 3) := by decide +kernel
theorem dX7_layOver_35 : decode cX7_layOver 35 = .ok (.invokevirtual 224, 3) := by decide +kernel
theorem dX7_layOver_38 : decode cX7_layOver 38 = .ok (.ireturn, 1) := by decide +kernel
theorem dX7_putOnShelf_0 : decode cX7_putOnShelf 0 = .ok (.aload_n 0, 1) := by decide +kernel
theorem dX7_putOnShelf_1 : decode cX7_putOnShelf 1 = .ok (.getfield 12, 3) := by decide +kernel
theorem dX7_putOnShelf_4 : decode cX7_putOnShelf 4 = .ok (.iload_n 1, 1) := by decide +kernel
theorem dX7_putOnShelf_5 : decode cX7_putOnShelf 5 = .ok (.iload_n 2, 1) := by decide +kernel
theorem dX7_putOnShelf_6 : decode cX7_putOnShelf 6 = .ok (.invokevirtual 220, 3) := by decide +kernel
theorem dX7_putOnShelf_9 : decode cX7_putOnShelf 9 = .ok (.iload_n 2, 1) := by decide +kernel
theorem dX7_putOnShelf_10 : decode cX7_putOnShelf 10 = .ok (.iconst (-1), 1) := by decide +kernel
theorem dX7_putOnShelf_11 : decode cX7_putOnShelf 11 = .ok (.if_icmp .ne 7, 3) := by decide +kernel
theorem dX7_putOnShelf_14 : decode cX7_putOnShelf 14 = .ok (.iconst 0, 1) := by decide +kernel
theorem dX7_putOnShelf_15 : decode cX7_putOnShelf 15 = .ok (.goto 4, 3) := by decide +kernel
theorem dX7_putOnShelf_18 : decode cX7_putOnShelf 18 = .ok (.iconst 1, 1) := by decide +kernel
theorem dX7_putOnShelf_19 : decode cX7_putOnShelf 19 = .ok (.ireturn, 1) := by decide +kernel
theorem dX7_plugIn_0 : decode cX7_plugIn 0 = .ok (.iload_n 3, 1) := by decide +kernel
theorem dX7_plugIn_1 : decode cX7_plugIn 1 = .ok (.invokestatic 123, 3) := by decide +kernel
theorem dX7_plugIn_4 : decode cX7_plugIn 4 = .ok (.ifCond .ne 9, 3) := by decide +kernel
theorem dX7_plugIn_7 : decode cX7_plugIn 7 = .ok (.aload_n 0, 1) := by decide +kernel
theorem dX7_plugIn_8 : decode cX7_plugIn 8 = .ok (.iconst 1, 1) := by decide +kernel
theorem dX7_plugIn_9 : decode cX7_plugIn 9 = .ok (.invokevirtual 91, 3) := by decide +kernel
theorem dX7_plugIn_12 : decode cX7_plugIn 12 = .ok (.ireturn, 1) := by decide +kernel
theorem dX7_plugIn_13 : decode cX7_plugIn 13 = .ok (.aload_n 0, 1) := by decide +kernel
theorem dX7_plugIn_14 : decode cX7_plugIn 14 = .ok (.iload_n 1, 1) := by decide +kernel
theorem dX7_plugIn_15 : decode cX7_plugIn 15 = .ok (.ldc 166, 2) := by decide +kernel
theorem dX7_plugIn_17 : decode cX7_plugIn 17 = .ok (.iload_n 2, 1) := by decide +kernel
theorem dX7_plugIn_18 : decode cX7_plugIn 18 = .ok (.invokevirtual 154, 3) := by decide +kernel
theorem dX7_plugIn_21 : decode cX7_plugIn 21 = .ok (.ifCond .eq 5, 3) := by decide +kernel
theorem dX7_plugIn_24 : decode cX7_plugIn 24 = .ok (.iconst 0, 1) := by decide +kernel
theorem dX7_plugIn_25 : decode cX7_plugIn 25 = .ok (.ireturn, 1) := by decide +kernel
theorem dX7_plugIn_26 : decode cX7_plugIn 26 = .ok (.aload_n 0, 1) := by decide +kernel
theorem dX7_plugIn_27 : decode cX7_plugIn 27 = .ok (.getfield 12, 3) := by decide +kernel
theorem dX7_plugIn_30 : decode cX7_plugIn 30 = .ok (.iload_n 1, 1) := by decide +kernel
theorem dX7_plugIn_31 : decode cX7_plugIn 31 = .ok (.invokevirtual 136, 3) := by decide +kernel
theorem dX7_plugIn_34 : decode cX7_plugIn 34 = .ok (.istore 4, 2) := by decide +kernel
theorem dX7_plugIn_36 : decode cX7_plugIn 36 = .ok (.aload_n 0, 1) := by decide +kernel
theorem dX7_plugIn_37 : decode cX7_plugIn 37 = .ok (.getfield 12, 3) := by decide +kernel
theorem dX7_plugIn_40 : decode cX7_plugIn 40 = .ok (.iload_n 3, 1) := by decide +kernel
theorem dX7_plugIn_41 : decode cX7_plugIn 41 = .ok (.invokevirtual 136, 3) := by decide +kernel
theorem dX7_plugIn_44 : decode cX7_plugIn 44 = .ok (.istore 5, 2) := by decide +kernel
theorem dX7_plugIn_46 : decode cX7_plugIn 46 = .ok (.aload_n 0, 1) := by decide +kernel
theorem dX7_plugIn_47 : decode cX7_plugIn 47 = .ok (.getfield 12, 3) := by decide +kernel
theorem dX7_plugIn_50 : decode cX7_plugIn 50 = .ok (.iload 5, 2) := by decide +kernel
theorem dX7_plugIn_52 : decode cX7_plugIn 52 = .ok (.iload 4, 2) := by decide +kernel
theorem dX7_plugIn_54 : decode cX7_plugIn 54 = .ok (.invokevirtual 227, 3) := by decide +kernel
theorem dX7_plugIn_57 : decode cX7_plugIn 57 = .ok (.ifCond .ne 9, 3) := by decide +kernel
theorem dX7_plugIn_60 : decode cX7_plugIn 60 = .ok (.aload_n 0, 1) := by decide +kernel
theorem dX7_plugIn_61 : decode cX7_plugIn 61 = .ok (.iconst 5, 1) := by decide +kernel
theorem dX7_plugIn_62 : decode cX7_plugIn 62 = .ok (.invokevirtual 91, 3) := by decide +kernel
theorem dX7_plugIn_65 : decode cX7_plugIn 65 = .ok (.ireturn, 1) := by decide +kernel
theorem dX7_plugIn_66 : decode cX7_plugIn 66 = .ok (.aload_n 0, 1) := by decide +kernel
theorem dX7_plugIn_67 : decode cX7_plugIn 67 = .ok (.getfield 12, 3) := by decide +kernel
theorem dX7_plugIn_70 : decode cX7_plugIn 70 = .ok (.iload 4, 2) := by decide +kernel
theorem dX7_plugIn_72 : decode cX7_plugIn 72 = .ok (.iload_n 2, 1) := by decide +kernel
theorem dX7_plugIn_73 : decode cX7_plugIn 73 = .ok (.invokevirtual 158, 3) := by decide +kernel
theorem dX7_plugIn_76 : decode cX7_plugIn 76 = .ok (.lstore 6, 2) := by decide +kernel
theorem dX7_plugIn_78 : decode cX7_plugIn 78 = .ok (.aload_n 0, 1) := by decide +kernel
theorem dX7_plugIn_79 : decode cX7_plugIn 79 = .ok (.getfield 12, 3) := by decide +kernel
theorem dX7_plugIn_82 : decode cX7_plugIn 82 = .ok (.iload 4, 2) := by decide +kernel
theorem dX7_plugIn_84 : decode cX7_plugIn 84 = .ok (.iload_n 2, 1) := by decide +kernel
theorem dX7_plugIn_85 : decode cX7_plugIn 85 = .ok (.iload 5, 2) := by decide +kernel
theorem dX7_plugIn_87 : decode cX7_plugIn 87 = .ok (.i2l, 1) := by decide +kernel
theorem dX7_plugIn_88 : decode cX7_plugIn 88 = .ok (.invokevirtual 230, 3) := by decide +kernel
theorem dX7_plugIn_91 : decode cX7_plugIn 91 = .ok (.lload 6, 2) := by decide +kernel
theorem dX7_plugIn_93 : decode cX7_plugIn 93 = .ok (.ldc2_w 234, 3) := by decide +kernel
theorem dX7_plugIn_96 : decode cX7_plugIn 96 = .ok (.lcmp, 1) := by decide +kernel
theorem dX7_plugIn_97 : decode cX7_plugIn 97 = .ok (.ifCond .ne 7, 3) := by decide +kernel
theorem dX7_plugIn_100 : decode cX7_plugIn 100 = .ok (.iconst 0, 1) := by decide +kernel
theorem dX7_plugIn_101 : decode cX7_plugIn 101 = .ok (.goto 4, 3) := by decide +kernel
theorem dX7_plugIn_104 : decode cX7_plugIn 104 = .ok (.iconst 1, 1) := by decide +kernel
theorem dX7_plugIn_105 : decode cX7_plugIn 105 = .ok (.ireturn, 1) := by decide +kernel
theorem dX7_pullOut_0 : decode cX7_pullOut 0 = .ok (.iload_n 3, 1) := by decide +kernel
theorem dX7_pullOut_1 : decode cX7_pullOut 1 = .ok (.invokestatic 123, 3) := by decide +kernel
theorem dX7_pullOut_4 : decode cX7_pullOut 4 = .ok (.ifCond .ne 9, 3) := by decide +kernel
theorem dX7_pullOut_7 : decode cX7_pullOut 7 = .ok (.aload_n 0, 1) := by decide +kernel
theorem dX7_pullOut_8 : decode cX7_pullOut 8 = .ok (.iconst 1, 1) := by decide +kernel
theorem dX7_pullOut_9 : decode cX7_pullOut 9 = .ok (.invokevirtual 91, 3) := by decide +kernel
theorem dX7_pullOut_12 : decode cX7_pullOut 12 = .ok (.ireturn, 1) := by decide +kernel
theorem dX7_pullOut_13 : decode cX7_pullOut 13 = .ok (.aload_n 0, 1) := by decide +kernel
theorem dX7_pullOut_14 : decode cX7_pullOut 14 = .ok (.iload_n 1, 1) := by decide +kernel
theorem dX7_pullOut_15 : decode cX7_pullOut 15 = .ok (.ldc 166, 2) := by decide +kernel
theorem dX7_pullOut_17 : decode cX7_pullOut 17 = .ok (.iload_n 2, 1) := by decide +kernel
theorem dX7_pullOut_18 : decode cX7_pullOut 18 = .ok (.invokevirtual 154, 3) := by decide +kernel
theorem dX7_pullOut_21 : decode cX7_pullOut 21 = .ok (.ifCond .eq 5, 3) := by decide +kernel
theorem dX7_pullOut_24 : decode cX7_pullOut 24 = .ok (.iconst 0, 1) := by decide +kernel
theorem dX7_pullOut_25 : decode cX7_pullOut 25 = .ok (.ireturn, 1) := by decide +kernel
theorem dX7_pullOut_26 : decode cX7_pullOut 26 = .ok (.aload_n 0, 1) := by decide +kernel
theorem dX7_pullOut_27 : decode cX7_pullOut 27 = .ok (.iload_n 3, 1) := by decide +kernel
theorem dX7_pullOut_28 : decode cX7_pullOut 28 = .ok (.aload_n 0, 1) := by decide +kernel
theorem dX7_pullOut_29 : decode cX7_pullOut 29 = .ok (.getfield 12, 3) := by decide +kernel
theorem dX7_pullOut_32 : decode cX7_pullOut 32 = .ok (.aload_n 0, 1) := by decide +kernel
theorem dX7_pullOut_33 : decode cX7_pullOut 33 = .ok (.getfield 12, 3) := by decide +kernel
theorem dX7_pullOut_36 : decode cX7_pullOut 36 = .ok (.iload_n 1, 1) := by decide +kernel
theorem dX7_pullOut_37 : decode cX7_pullOut 37 = .ok (.invokevirtual 136, 3) := by decide +kernel
theorem dX7_pullOut_40 : decode cX7_pullOut 40 = .ok (.iload_n 2, 1) := by decide +kernel
theorem dX7_pullOut_41 : decode cX7_pullOut 41 = .ok (.invokevirtual 158, 3) := by decide +kernel
theorem dX7_pullOut_44 : decode cX7_pullOut 44 = .ok (.l2i, 1) := by decide +kernel
theorem dX7_pullOut_45 : decode cX7_pullOut 45 = .ok (.invokevirtual 224, 3) := by decide +kernel
theorem dX7_pullOut_48 : decode cX7_pullOut 48 = .ok (.ireturn, 1) := by decide +kernel
theorem dX7_copyPlaces_0 : decode cX7_copyPlaces 0 = .ok (.aload_n 0, 1) := by decide +kernel
theorem dX7_copyPlaces_1 : decode cX7_copyPlaces 1 = .ok (.iload_n 1, 1) := by decide +kernel
theorem dX7_copyPlaces_2 : decode cX7_copyPlaces 2 = .ok (.iload_n 3, 1) := by decide +kernel
theorem dX7_copyPlaces_3 : decode cX7_copyPlaces 3 = .ok (.invokevirtual 236, 3) := by decide +kernel
theorem dX7_copyPlaces_6 : decode cX7_copyPlaces 6 = .ok (.ifCond .eq 5, 3) := by decide +kernel
theorem dX7_copyPlaces_9 : decode cX7_copyPlaces 9 = .ok (.iconst 0, 1) := by decide +kernel
theorem dX7_copyPlaces_10 : decode cX7_copyPlaces 10 = .ok (.ireturn, 1) := by decide +kernel
theorem dX7_copyPlaces_11 : decode cX7_copyPlaces 11 = .ok (.aload_n 0, 1) := by decide +kernel
theorem dX7_copyPlaces_12 : decode cX7_copyPlaces 12 = .ok (.getfield 12, 3) := by decide +kernel
theorem dX7_copyPlaces_15 : decode cX7_copyPlaces 15 = .ok (.iload_n 1, 1) := by decide +kernel
theorem dX7_copyPlaces_16 : decode cX7_copyPlaces 16 = .ok (.invokevirtual 136, 3) := by decide +kernel
theorem dX7_copyPlaces_19 : decode cX7_copyPlaces 19 = .ok (.istore 6, 2) := by decide +kernel
theorem dX7_copyPlaces_21 : decode cX7_copyPlaces 21 = .ok (.aload_n 0, 1) := by decide +kernel
theorem dX7_copyPlaces_22 : decode cX7_copyPlaces 22 = .ok (.getfield 12, 3) := by decide +kernel
theorem dX7_copyPlaces_25 : decode cX7_copyPlaces 25 = .ok (.iload_n 3, 1) := by decide +kernel
theorem dX7_copyPlaces_26 : decode cX7_copyPlaces 26 = .ok (.invokevirtual 136, 3) := by decide +kernel
theorem dX7_copyPlaces_29 : decode cX7_copyPlaces 29 = .ok (.istore 7, 2) := by decide +kernel
theorem dX7_copyPlaces_31 : decode cX7_copyPlaces 31 = .ok (.aload_n 0, 1) := by decide +kernel
theorem dX7_copyPlaces_32 : decode cX7_copyPlaces 32 = .ok (.getfield 12, 3) := by decide +kernel
theorem dX7_copyPlaces_35 : decode cX7_copyPlaces 35 = .ok (.iload 6, 2) := by decide +kernel
theorem dX7_copyPlaces_37 : decode cX7_copyPlaces 37 = .ok (.iconst 0, 1) := by decide +kernel
theorem dX7_copyPlaces_38 : decode cX7_copyPlaces 38 = .ok (.invokevirtual 176, 3) := by decide +kernel
theorem dX7_copyPlaces_41 : decode cX7_copyPlaces 41 = .ok (.aload_n 0, 1) := by decide +kernel
theorem dX7_copyPlaces_42 : decode cX7_copyPlaces 42 = .ok (.getfield 12, 3) := by decide +kernel
theorem dX7_copyPlaces_45 : decode cX7_copyPlaces 45 = .ok (.iload 7, 2) := by decide +kernel
theorem dX7_copyPlaces_47 : decode cX7_copyPlaces 47 = .ok (.iconst 0, 1) := by decide +kernel
theorem dX7_copyPlaces_48 : decode cX7_copyPlaces 48 = .ok (.invokevirtual 176, 3) := by decide +kernel
theorem dX7_copyPlaces_51 : decode cX7_copyPlaces 51 = .ok (.invokestatic 239, 3) := by decide +kernel
theorem dX7_copyPlaces_54 : decode cX7_copyPlaces 54 = .ok (.ifCond .ne 9, 3) := by decide +kernel
theorem dX7_copyPlaces_57 : decode cX7_copyPlaces 57 = .ok (.aload_n 0, 1) := by decide +kernel
theorem dX7_copyPlaces_58 : decode cX7_copyPlaces 58 = .ok (.iconst 3, 1) := by decide +kernel
theorem dX7_copyPlaces_59 : decode cX7_copyPlaces 59 = .ok (.invokevirtual 91, 3) := by decide +kernel
theorem dX7_copyPlaces_62 : decode cX7_copyPlaces 62 = .ok (.ireturn, 1) := by decide +kernel
theorem dX7_copyPlaces_63 : decode cX7_copyPlaces 63 = .ok (.aload_n 0, 1) := by decide +kernel
theorem dX7_copyPlaces_64 : decode cX7_copyPlaces 64 = .ok (.getfield 12, 3) := by decide +kernel
theorem dX7_copyPlaces_67 : decode cX7_copyPlaces 67 = .ok (.iload 6, 2) := by decide +kernel
theorem dX7_copyPlaces_69 : decode cX7_copyPlaces 69 = .ok (.iload_n 2, 1) := by decide +kernel
theorem dX7_copyPlaces_70 : decode cX7_copyPlaces 70 = .ok (.iload 5, 2) := by decide +kernel
theorem dX7_copyPlaces_72 : decode cX7_copyPlaces 72 = .ok (.invokevirtual 242, 3) := by decide +kernel
theorem dX7_copyPlaces_75 : decode cX7_copyPlaces 75 = .ok (.ifCond .eq 19, 3) := by decide +kernel
theorem dX7_copyPlaces_78 : decode cX7_copyPlaces 78 = .ok (.aload_n 0, 1) := by decide +kernel
theorem dX7_copyPlaces_79 : decode cX7_copyPlaces 79 = .ok (.getfield 12, 3) := by decide +kernel
theorem dX7_copyPlaces_82 : decode cX7_copyPlaces 82 = .ok (.iload 7, 2) := by decide +kernel
theorem dX7_copyPlaces_84 : decode cX7_copyPlaces 84 = .ok (.iload 4, 2) := by decide +kernel
theorem dX7_copyPlaces_86 : decode cX7_copyPlaces 86 = .ok (.iload 5, 2) := by decide +kernel
theorem dX7_copyPlaces_88 : decode cX7_copyPlaces 88 = .ok (.invokevirtual 242, 3) := by decide +kernel
theorem dX7_copyPlaces_91 : decode cX7_copyPlaces 91 = .ok (.ifCond .ne 9, 3) := by decide +kernel
theorem dX7_copyPlaces_94 : decode cX7_copyPlaces 94 = .ok (.aload_n 0, 1) := by decide +kernel
theorem dX7_copyPlaces_95 : decode cX7_copyPlaces 95 = .ok (.iconst 4, 1) := by decide +kernel
theorem dX7_copyPlaces_96 : decode cX7_copyPlaces 96 = .ok (.invokevirtual 91, 3) := by decide +kernel
theorem dX7_copyPlaces_99 : decode cX7_copyPlaces 99 = .ok (.ireturn, 1) := by decide +kernel
theorem dX7_copyPlaces_100 : decode cX7_copyPlaces 100 = .ok (.aload_n 0, 1) := by decide +kernel
theorem dX7_copyPlaces_101 : decode cX7_copyPlaces 101 = .ok (.getfield 12, 3) := by decide +kernel
theorem dX7_copyPlaces_104 : decode cX7_copyPlaces 104 = .ok (.iload 6, 2) := by decide +kernel
theorem dX7_copyPlaces_106 : decode cX7_copyPlaces 106 = .ok (.iload_n 2, 1) := by decide +kernel
theorem dX7_copyPlaces_107 : decode cX7_copyPlaces 107 = .ok (.iload 7, 2) := by decide +kernel
theorem dX7_copyPlaces_109 : decode cX7_copyPlaces 109 = .ok (.iload 5, 2) := by decide +kernel
theorem dX7_copyPlaces_111 : decode cX7_copyPlaces 111 = .ok (.invokevirtual 245, 3) := by decide +kernel
theorem dX7_copyPlaces_114 : decode cX7_copyPlaces 114 = .ok (.istore 8, 2) := by decide +kernel
theorem dX7_copyPlaces_116 : decode cX7_copyPlaces 116 = .ok (.aload_n 0, 1) := by decide +kernel
theorem dX7_copyPlaces_117 : decode cX7_copyPlaces 117 = .ok (.getfield 12, 3) := by decide +kernel
theorem dX7_copyPlaces_120 : decode cX7_copyPlaces 120 = .ok (.iload 6, 2) := by decide +kernel
theorem dX7_copyPlaces_122 : decode cX7_copyPlaces 122 = .ok (.iload_n 2, 1) := by decide +kernel
theorem dX7_copyPlaces_123 : decode cX7_copyPlaces 123 = .ok (.iload 7, 2) := by decide +kernel
theorem dX7_copyPlaces_125 : decode cX7_copyPlaces 125 = .ok (.iload 4, 2) := by decide +kernel
theorem dX7_copyPlaces_127 : decode cX7_copyPlaces 127 = .ok (.iload 8, 2) := by decide +kernel
theorem dX7_copyPlaces_129 : decode cX7_copyPlaces 129 = .ok (.invokevirtual 249, 3) := by decide +kernel
theorem dX7_copyPlaces_132 : decode cX7_copyPlaces 132 = .ok (.iload 8, 2) := by decide +kernel
theorem dX7_copyPlaces_134 : decode cX7_copyPlaces 134 = .ok (.iload 5, 2) := by decide +kernel
theorem dX7_copyPlaces_136 : decode cX7_copyPlaces 136 = .ok (.if_icmp .ge 8, 3) := by decide +kernel
theorem dX7_copyPlaces_139 : decode cX7_copyPlaces 139 = .ok (.aload_n 0, 1) := by decide +kernel
theorem dX7_copyPlaces_140 : decode cX7_copyPlaces 140 = .ok (.iconst 5, 1) := by decide +kernel
theorem dX7_copyPlaces_141 : decode cX7_copyPlaces 141 = .ok (.putfield 30, 3) := by decide +kernel
theorem dX7_copyPlaces_144 : decode cX7_copyPlaces 144 = .ok (.iload 8, 2) := by decide +kernel
theorem dX7_copyPlaces_146 : decode cX7_copyPlaces 146 = .ok (.ireturn, 1) := by decide +kernel
theorem dX7_writeNumber_0 : decode cX7_writeNumber 0 = .ok (.aload_n 0, 1) := by decide +kernel
theorem dX7_writeNumber_1 : decode cX7_writeNumber 1 = .ok (.iload_n 1, 1) := by decide +kernel
theorem dX7_writeNumber_2 : decode cX7_writeNumber 2 = .ok (.ldc 153, 2) := by decide +kernel
theorem dX7_writeNumber_4 : decode cX7_writeNumber 4 = .ok (.iload_n 2, 1) := by decide +kernel
theorem dX7_writeNumber_5 : decode cX7_writeNumber 5 = .ok (.invokevirtual 154, 3) := by decide +kernel
theorem dX7_writeNumber_8 : decode cX7_writeNumber 8 = .ok (.ifCond .eq 5, 3) := by decide +kernel
theorem dX7_writeNumber_11 : decode cX7_writeNumber 11 = .ok (.iconst 0, 1) := by decide +kernel
theorem dX7_writeNumber_12 : decode cX7_writeNumber 12 = .ok (.ireturn, 1) := by decide +kernel
theorem dX7_writeNumber_13 : decode cX7_writeNumber 13 = .ok (.aload_n 0, 1) := by decide +kernel
theorem dX7_writeNumber_14 : decode cX7_writeNumber 14 = .ok (.getfield 12, 3) := by decide +kernel
theorem dX7_writeNumber_17 : decode cX7_writeNumber 17 = .ok (.iload_n 1, 1) := by decide +kernel
theorem dX7_writeNumber_18 : decode cX7_writeNumber 18 = .ok (.invokevirtual 136, 3) := by decide +kernel
theorem dX7_writeNumber_21 : decode cX7_writeNumber 21 = .ok (.istore 5, 2) := by decide +kernel
theorem dX7_writeNumber_23 : decode cX7_writeNumber 23 = .ok (.aload_n 0, 1) := by decide +kernel
theorem dX7_writeNumber_24 : decode cX7_writeNumber 24 = .ok (.getfield 12, 3) := by decide +kernel
theorem dX7_writeNumber_27 : decode cX7_writeNumber 27 = .ok (.iload 5, 2) := by decide +kernel
theorem dX7_writeNumber_29 : decode cX7_writeNumber 29 = .ok (.iload_n 2, 1) := by decide +kernel
theorem dX7_writeNumber_30 : decode cX7_writeNumber 30 = .ok (.aload_n 0, 1) := by decide +kernel
theorem dX7_writeNumber_31 : decode cX7_writeNumber 31 = .ok (.getfield 12, 3) := by decide +kernel
theorem dX7_writeNumber_34 : decode cX7_writeNumber 34 = .ok (.iload 5, 2) := by decide +kernel
theorem dX7_writeNumber_36 : decode cX7_writeNumber 36 = .ok (.iconst 0, 1) := by decide +kernel
theorem dX7_writeNumber_37 : decode cX7_writeNumber 37 = .ok (.invokevirtual 176, 3) := by decide +kernel
theorem dX7_writeNumber_40 : decode cX7_writeNumber 40 = .ok (.lload_n 3, 1) := by decide +kernel
theorem dX7_writeNumber_41 : decode cX7_writeNumber 41 = .ok (.invokestatic 253, 3) := by decide +kernel
theorem dX7_writeNumber_44 : decode cX7_writeNumber 44 = .ok (.invokevirtual 230, 3) := by decide +kernel
theorem dX7_writeNumber_47 : decode cX7_writeNumber 47 = .ok (.iconst 1, 1) := by decide +kernel
theorem dX7_writeNumber_48 : decode cX7_writeNumber 48 = .ok (.ireturn, 1) := by decide +kernel
theorem dX7_setKnob_0 : decode cX7_setKnob 0 = .ok (.iload_n 2, 1) := by decide +kernel
theorem dX7_setKnob_1 : decode cX7_setKnob 1 = .ok (.sipush (-1000), 3) := by decide +kernel
theorem dX7_setKnob_4 : decode cX7_setKnob 4 = .ok (.if_icmp .lt 10, 3) := by decide +kernel
theorem dX7_setKnob_7 : decode cX7_setKnob 7 = .ok (.iload_n 2, 1) := by decide +kernel
theorem dX7_setKnob_8 : decode cX7_setKnob 8 = .ok (.sipush 1000, 3) := by decide +kernel
theorem dX7_setKnob_11 : decode cX7_setKnob 11 = .ok (.if_icmp .le 9, 3) := by decide +kernel
theorem dX7_setKnob_14 : decode cX7_setKnob 14 = .ok (.aload_n 0, 1) := by decide +kernel
theorem dX7_setKnob_15 : decode cX7_setKnob 15 = .ok (.iconst 1, 1) := by decide +kernel
theorem dX7_setKnob_16 : decode cX7_setKnob 16 = .ok (.invokevirtual 91, 3) := by decide +kernel
theorem dX7_setKnob_19 : decode cX7_setKnob 19 = .ok (.ireturn, 1) := by decide +kernel
theorem dX7_setKnob_20 : decode cX7_setKnob 20 = .ok (.aload_n 0, 1) := by decide +kernel
theorem dX7_setKnob_21 : decode cX7_setKnob 21 = .ok (.iload_n 1, 1) := by decide +kernel
theorem dX7_setKnob_22 : decode cX7_setKnob 22 = .ok (.iconst 1, 1) := by decide +kernel
theorem dX7_setKnob_23 : decode cX7_setKnob 23 = .ok (.invokevirtual 132, 3) := by decide +kernel
theorem dX7_setKnob_26 : decode cX7_setKnob 26 = .ok (.ifCond .eq 5, 3) := by decide +kernel
theorem dX7_setKnob_29 : decode cX7_setKnob 29 = .ok (.iconst 0, 1) := by decide +kernel
theorem dX7_setKnob_30 : decode cX7_setKnob 30 = .ok (.ireturn, 1) := by decide +kernel
theorem dX7_setKnob_31 : decode cX7_setKnob 31 = .ok (.aload_n 0, 1) := by decide +kernel
theorem dX7_setKnob_32 : decode cX7_setKnob 32 = .ok (.getfield 12, 3) := by decide +kernel
theorem dX7_setKnob_35 : decode cX7_setKnob 35 = .ok (.iload_n 1, 1) := by decide +kernel
theorem dX7_setKnob_36 : decode cX7_setKnob 36 = .ok (.invokevirtual 136, 3) := by decide +kernel
theorem dX7_setKnob_39 : decode cX7_setKnob 39 = .ok (.istore_n 3, 1) := by decide +kernel
theorem dX7_setKnob_40 : decode cX7_setKnob 40 = .ok (.aload_n 0, 1) := by decide +kernel
theorem dX7_setKnob_41 : decode cX7_setKnob 41 = .ok (.getfield 12, 3) := by decide +kernel
theorem dX7_setKnob_44 : decode cX7_setKnob 44 = .ok (.iload_n 3, 1) := by decide +kernel
theorem dX7_setKnob_45 : decode cX7_setKnob 45 = .ok (.iconst 2, 1) := by decide +kernel
theorem dX7_setKnob_46 : decode cX7_setKnob 46 = .ok (.invokevirtual 176, 3) := by decide +kernel
theorem dX7_setKnob_49 : decode cX7_setKnob 49 = .ok (.istore 4, 2) := by decide +kernel
theorem dX7_setKnob_51 : decode cX7_setKnob 51 = .ok (.aload_n 0, 1) := by decide +kernel
theorem dX7_setKnob_52 : decode cX7_setKnob 52 = .ok (.getfield 12, 3) := by decide +kernel
theorem dX7_setKnob_55 : decode cX7_setKnob 55 = .ok (.iload_n 3, 1) := by decide +kernel
theorem dX7_setKnob_56 : decode cX7_setKnob 56 = .ok (.iconst 2, 1) := by decide +kernel
theorem dX7_setKnob_57 : decode cX7_setKnob 57 = .ok (.iload_n 2, 1) := by decide +kernel
theorem dX7_setKnob_58 : decode cX7_setKnob 58 = .ok (.invokevirtual 257, 3) := by decide +kernel
theorem dX7_setKnob_61 : decode cX7_setKnob 61 = .ok (.iload 4, 2) := by decide +kernel
theorem dX7_setKnob_63 : decode cX7_setKnob 63 = .ok (.ireturn, 1) := by decide +kernel
theorem dX7_playOnce_0 : decode cX7_playOnce 0 = .ok (.aload_n 0, 1) := by decide +kernel
theorem dX7_playOnce_1 : decode cX7_playOnce 1 = .ok (.iload_n 1, 1) := by decide +kernel
theorem dX7_playOnce_2 : decode cX7_playOnce 2 = .ok (.ldc_w 261, 3) := by decide +kernel
theorem dX7_playOnce_5 : decode cX7_playOnce 5 = .ok (.invokevirtual 132, 3) := by decide +kernel
theorem dX7_playOnce_8 : decode cX7_playOnce 8 = .ok (.ifCond .eq 5, 3) := by decide +kernel
theorem dX7_playOnce_11 : decode cX7_playOnce 11 = .ok (.iconst 0, 1) := by decide +kernel
theorem dX7_playOnce_12 : decode cX7_playOnce 12 = .ok (.ireturn, 1) := by decide +kernel
theorem dX7_playOnce_13 : decode cX7_playOnce 13 = .ok (.aload_n 0, 1) := by decide +kernel
theorem dX7_playOnce_14 : decode cX7_playOnce 14 = .ok (.getfield 19, 3) := by decide +kernel
theorem dX7_playOnce_17 : decode cX7_playOnce 17 = .ok (.aload_n 0, 1) := by decide +kernel
theorem dX7_playOnce_18 : decode cX7_playOnce 18 = .ok (.getfield 12, 3) := by decide +kernel
theorem dX7_playOnce_21 : decode cX7_playOnce 21 = .ok (.aload_n 0, 1) := by decide +kernel
theorem dX7_playOnce_22 : decode cX7_playOnce 22 = .ok (.getfield 12, 3) := by decide +kernel
theorem dX7_playOnce_25 : decode cX7_playOnce 25 = .ok (.iload_n 1, 1) := by decide +kernel
theorem dX7_playOnce_26 : decode cX7_playOnce 26 = .ok (.invokevirtual 136, 3) := by decide +kernel
theorem dX7_playOnce_29 : decode cX7_playOnce 29 = .ok (.invokevirtual 262, 3) := by decide +kernel
theorem dX7_playOnce_32 : decode cX7_playOnce 32 = .ok (.aload_n 0, 1) := by decide +kernel
theorem dX7_playOnce_33 : decode cX7_playOnce 33 = .ok (.iload_n 2, 1) := by decide +kernel
theorem dX7_playOnce_34 : decode cX7_playOnce 34 = .ok (.invokevirtual 266, 3) := by decide +kernel
theorem dX7_playOnce_37 : decode cX7_playOnce 37 = .ok (.ireturn, 1) := by decide +kernel
theorem dX7_playChain_0 : decode cX7_playChain 0 = .ok (.iload_n 1, 1) := by decide +kernel
theorem dX7_playChain_1 : decode cX7_playChain 1 = .ok (.istore_n 2, 1) := by decide +kernel
theorem dX7_playChain_2 : decode cX7_playChain 2 = .ok (.iconst 0, 1) := by decide +kernel
theorem dX7_playChain_3 : decode cX7_playChain 3 = .ok (.istore_n 3, 1) := by decide +kernel
theorem dX7_playChain_4 : decode cX7_playChain 4 = .ok (.iload_n 3, 1) := by decide +kernel
theorem dX7_playChain_5 : decode cX7_playChain 5 = .ok (.aload_n 0, 1) := by decide +kernel
theorem dX7_playChain_6 : decode cX7_playChain 6 = .ok (.getfield 19, 3) := by decide +kernel
theorem dX7_playChain_9 : decode cX7_playChain 9 = .ok (.getfield 269, 3) := by decide +kernel
theorem dX7_playChain_12 : decode cX7_playChain 12 = .ok (.if_icmp .ge 26, 3) := by decide +kernel
theorem dX7_playChain_15 : decode cX7_playChain 15 = .ok (.aload_n 0, 1) := by decide +kernel
theorem dX7_playChain_16 : decode cX7_playChain 16 = .ok (.getfield 12, 3) := by decide +kernel
theorem dX7_playChain_19 : decode cX7_playChain 19 = .ok (.aload_n 0, 1) := by decide +kernel
theorem dX7_playChain_20 : decode cX7_playChain 20 = .ok (.getfield 19, 3) := by decide +kernel
theorem dX7_playChain_23 : decode cX7_playChain 23 = .ok (.iload_n 3, 1) := by decide +kernel
theorem dX7_playChain_24 : decode cX7_playChain 24 = .ok (.invokevirtual 270, 3) := by decide +kernel
theorem dX7_playChain_27 : decode cX7_playChain 27 = .ok (.iload_n 2, 1) := by decide +kernel
theorem dX7_playChain_28 : decode cX7_playChain 28 = .ok (.invokestatic 273, 3) := by decide +kernel
theorem dX7_playChain_31 : decode cX7_playChain 31 = .ok (.istore_n 2, 1) := by decide +kernel
theorem dX7_playChain_32 : decode cX7_playChain 32 = .ok (.iinc 3 1, 3) := by decide +kernel
theorem dX7_playChain_35 : decode cX7_playChain 35 = .ok (.goto (-31), 3) := by decide +kernel
theorem dX7_playChain_38 : decode cX7_playChain 38 = .ok (.iload_n 2, 1) := by decide +kernel
theorem dX7_playChain_39 : decode cX7_playChain 39 = .ok (.ireturn, 1) := by decide +kernel
theorem dX7_runOver_0 : decode cX7_runOver 0 = .ok (.aload_n 0, 1) := by decide +kernel
theorem dX7_runOver_1 : decode cX7_runOver 1 = .ok (.iload_n 1, 1) := by decide +kernel
theorem dX7_runOver_2 : decode cX7_runOver 2 = .ok (.iload_n 2, 1) := by decide +kernel
theorem dX7_runOver_3 : decode cX7_runOver 3 = .ok (.invokevirtual 236, 3) := by decide +kernel
theorem dX7_runOver_6 : decode cX7_runOver 6 = .ok (.ifCond .eq 5, 3) := by decide +kernel
theorem dX7_runOver_9 : decode cX7_runOver 9 = .ok (.iconst 0, 1) := by decide +kernel
theorem dX7_runOver_10 : decode cX7_runOver 10 = .ok (.ireturn, 1) := by decide +kernel
theorem dX7_runOver_11 : decode cX7_runOver 11 = .ok (.aload_n 0, 1) := by decide +kernel
theorem dX7_runOver_12 : decode cX7_runOver 12 = .ok (.getfield 12, 3) := by decide +kernel
theorem dX7_runOver_15 : decode cX7_runOver 15 = .ok (.iload_n 1, 1) := by decide +kernel
theorem dX7_runOver_16 : decode cX7_runOver 16 = .ok (.invokevirtual 136, 3) := by decide +kernel
theorem dX7_runOver_19 : decode cX7_runOver 19 = .ok (.istore_n 3, 1) := by decide +kernel
theorem dX7_runOver_20 : decode cX7_runOver 20 = .ok (.aload_n 0, 1) := by decide +kernel
theorem dX7_runOver_21 : decode cX7_runOver 21 = .ok (.getfield 12, 3) := by decide +kernel
theorem dX7_runOver_24 : decode cX7_runOver 24 = .ok (.iload_n 2, 1) := by decide +kernel
theorem dX7_runOver_25 : decode cX7_runOver 25 = .ok (.invokevirtual 136, 3) := by decide +kernel
theorem dX7_runOver_28 : decode cX7_runOver 28 = .ok (.istore 4, 2) := by decide +kernel
theorem dX7_runOver_30 : decode cX7_runOver 30 = .ok (.aload_n 0, 1) := by decide +kernel
theorem dX7_runOver_31 : decode cX7_runOver 31 = .ok (.getfield 12, 3) := by decide +kernel
theorem dX7_runOver_34 : decode cX7_runOver 34 = .ok (.iload_n 3, 1) := by decide +kernel
theorem dX7_runOver_35 : decode cX7_runOver 35 = .ok (.ldc_w 261, 3) := by decide +kernel
theorem dX7_runOver_38 : decode cX7_runOver 38 = .ok (.invokevirtual 167, 3) := by decide +kernel
theorem dX7_runOver_41 : decode cX7_runOver 41 = .ok (.ifCond .eq 18, 3) := by decide +kernel
theorem dX7_runOver_44 : decode cX7_runOver 44 = .ok (.aload_n 0, 1) := by decide +kernel
theorem dX7_runOver_45 : decode cX7_runOver 45 = .ok (.getfield 12, 3) := by decide +kernel
theorem dX7_runOver_48 : decode cX7_runOver 48 = .ok (.iload 4, 2) := by decide +kernel
theorem dX7_runOver_50 : decode cX7_runOver 50 = .ok (.sipush 8192, 3) := by decide +kernel
theorem dX7_runOver_53 : decode cX7_runOver 53 = .ok (.invokevirtual 167, 3) := by decide +kernel
theorem dX7_runOver_56 : decode cX7_runOver 56 = .ok (.ifCond .ne 9, 3) := by decide +kernel
theorem dX7_runOver_59 : decode cX7_runOver 59 = .ok (.aload_n 0, 1) := by decide +kernel
theorem dX7_runOver_60 : decode cX7_runOver 60 = .ok (.iconst 3, 1) := by decide +kernel
theorem dX7_runOver_61 : decode cX7_runOver 61 = .ok (.invokevirtual 91, 3) := by decide +kernel
theorem dX7_runOver_64 : decode cX7_runOver 64 = .ok (.ireturn, 1) := by decide +kernel
theorem dX7_runOver_65 : decode cX7_runOver 65 = .ok (.aload_n 0, 1) := by decide +kernel
theorem dX7_runOver_66 : decode cX7_runOver 66 = .ok (.getfield 19, 3) := by decide +kernel
theorem dX7_runOver_69 : decode cX7_runOver 69 = .ok (.aload_n 0, 1) := by decide +kernel
theorem dX7_runOver_70 : decode cX7_runOver 70 = .ok (.getfield 12, 3) := by decide +kernel
theorem dX7_runOver_73 : decode cX7_runOver 73 = .ok (.iload_n 3, 1) := by decide +kernel
theorem dX7_runOver_74 : decode cX7_runOver 74 = .ok (.invokevirtual 262, 3) := by decide +kernel
theorem dX7_runOver_77 : decode cX7_runOver 77 = .ok (.aload_n 0, 1) := by decide +kernel
theorem dX7_runOver_78 : decode cX7_runOver 78 = .ok (.getfield 12, 3) := by decide +kernel
theorem dX7_runOver_81 : decode cX7_runOver 81 = .ok (.iload 4, 2) := by decide +kernel
theorem dX7_runOver_83 : decode cX7_runOver 83 = .ok (.invokevirtual 150, 3) := by decide +kernel
theorem dX7_runOver_86 : decode cX7_runOver 86 = .ok (.istore 5, 2) := by decide +kernel
theorem dX7_runOver_88 : decode cX7_runOver 88 = .ok (.iconst 0, 1) := by decide +kernel
theorem dX7_runOver_89 : decode cX7_runOver 89 = .ok (.istore 6, 2) := by decide +kernel
theorem dX7_runOver_91 : decode cX7_runOver 91 = .ok (.iload 6, 2) := by decide +kernel
theorem dX7_runOver_93 : decode cX7_runOver 93 = .ok (.iload 5, 2) := by decide +kernel
theorem dX7_runOver_95 : decode cX7_runOver 95 = .ok (.if_icmp .ge 37, 3) := by decide +kernel
theorem dX7_runOver_98 : decode cX7_runOver 98 = .ok (.aload_n 0, 1) := by decide +kernel
theorem dX7_runOver_99 : decode cX7_runOver 99 = .ok (.getfield 12, 3) := by decide +kernel
theorem dX7_runOver_102 : decode cX7_runOver 102 = .ok (.iload 4, 2) := by decide +kernel
theorem dX7_runOver_104 : decode cX7_runOver 104 = .ok (.iload 6, 2) := by decide +kernel
theorem dX7_runOver_106 : decode cX7_runOver 106 = .ok (.aload_n 0, 1) := by decide +kernel
theorem dX7_runOver_107 : decode cX7_runOver 107 = .ok (.aload_n 0, 1) := by decide +kernel
theorem dX7_runOver_108 : decode cX7_runOver 108 = .ok (.getfield 12, 3) := by decide +kernel
theorem dX7_runOver_111 : decode cX7_runOver 111 = .ok (.iload 4, 2) := by decide +kernel
theorem dX7_runOver_113 : decode cX7_runOver 113 = .ok (.iload 6, 2) := by decide +kernel
theorem dX7_runOver_115 : decode cX7_runOver 115 = .ok (.invokevirtual 158, 3) := by decide +kernel
theorem dX7_runOver_118 : decode cX7_runOver 118 = .ok (.l2i, 1) := by decide +kernel
theorem dX7_runOver_119 : decode cX7_runOver 119 = .ok (.invokevirtual 266, 3) := by decide +kernel
theorem dX7_runOver_122 : decode cX7_runOver 122 = .ok (.i2l, 1) := by decide +kernel
theorem dX7_runOver_123 : decode cX7_runOver 123 = .ok (.invokevirtual 230, 3) := by decide +kernel
theorem dX7_runOver_126 : decode cX7_runOver 126 = .ok (.iinc 6 1, 3) := by decide +kernel
theorem dX7_runOver_129 : decode cX7_runOver 129 = .ok (.goto (-38), 3) := by decide +kernel
theorem dX7_runOver_132 : decode cX7_runOver 132 = .ok (.iload 5, 2) := by decide +kernel
theorem dX7_runOver_134 : decode cX7_runOver 134 = .ok (.ireturn, 1) := by decide +kernel
theorem dX7_tickOn_0 : decode cX7_tickOn 0 = .ok (.iload_n 2, 1) := by decide +kernel
theorem dX7_tickOn_1 : decode cX7_tickOn 1 = .ok (.ifCond .lt 9, 3) := by decide +kernel
theorem dX7_tickOn_4 : decode cX7_tickOn 4 = .ok (.iload_n 2, 1) := by decide +kernel
theorem dX7_tickOn_5 : decode cX7_tickOn 5 = .ok (.bipush 8, 2) := by decide +kernel
theorem dX7_tickOn_7 : decode cX7_tickOn 7 = .ok (.if_icmp .le 9, 3) := by decide +kernel
theorem dX7_tickOn_10 : decode cX7_tickOn 10 = .ok (.aload_n 0, 1) := by decide +kernel
theorem dX7_tickOn_11 : decode cX7_tickOn 11 = .ok (.iconst 1, 1) := by decide +kernel
theorem dX7_tickOn_12 : decode cX7_tickOn 12 = .ok (.invokevirtual 91, 3) := by decide +kernel
theorem dX7_tickOn_15 : decode cX7_tickOn 15 = .ok (.ireturn, 1) := by decide +kernel
theorem dX7_tickOn_16 : decode cX7_tickOn 16 = .ok (.aload_n 0, 1) := by decide +kernel
theorem dX7_tickOn_17 : decode cX7_tickOn 17 = .ok (.iload_n 1, 1) := by decide +kernel
theorem dX7_tickOn_18 : decode cX7_tickOn 18 = .ok (.ldc_w 277, 3) := by decide +kernel
theorem dX7_tickOn_21 : decode cX7_tickOn 21 = .ok (.invokevirtual 132, 3) := by decide +kernel
theorem dX7_tickOn_24 : decode cX7_tickOn 24 = .ok (.ifCond .eq 5, 3) := by decide +kernel
theorem dX7_tickOn_27 : decode cX7_tickOn 27 = .ok (.iconst 0, 1) := by decide +kernel
theorem dX7_tickOn_28 : decode cX7_tickOn 28 = .ok (.ireturn, 1) := by decide +kernel
theorem dX7_tickOn_29 : decode cX7_tickOn 29 = .ok (.aload_n 0, 1) := by decide +kernel
theorem dX7_tickOn_30 : decode cX7_tickOn 30 = .ok (.getfield 12, 3) := by decide +kernel
theorem dX7_tickOn_33 : decode cX7_tickOn 33 = .ok (.iload_n 1, 1) := by decide +kernel
theorem dX7_tickOn_34 : decode cX7_tickOn 34 = .ok (.invokevirtual 136, 3) := by decide +kernel
theorem dX7_tickOn_37 : decode cX7_tickOn 37 = .ok (.istore_n 3, 1) := by decide +kernel
theorem dX7_tickOn_38 : decode cX7_tickOn 38 = .ok (.aload_n 0, 1) := by decide +kernel
theorem dX7_tickOn_39 : decode cX7_tickOn 39 = .ok (.getfield 12, 3) := by decide +kernel
theorem dX7_tickOn_42 : decode cX7_tickOn 42 = .ok (.iload_n 3, 1) := by decide +kernel
theorem dX7_tickOn_43 : decode cX7_tickOn 43 = .ok (.sipush 4096, 3) := by decide +kernel
theorem dX7_tickOn_46 : decode cX7_tickOn 46 = .ok (.invokevirtual 167, 3) := by decide +kernel
theorem dX7_tickOn_49 : decode cX7_tickOn 49 = .ok (.ifCond .eq 13, 3) := by decide +kernel
theorem dX7_tickOn_52 : decode cX7_tickOn 52 = .ok (.aload_n 0, 1) := by decide +kernel
theorem dX7_tickOn_53 : decode cX7_tickOn 53 = .ok (.getfield 12, 3) := by decide +kernel
theorem dX7_tickOn_56 : decode cX7_tickOn 56 = .ok (.iload_n 3, 1) := by decide +kernel
theorem dX7_tickOn_57 : decode cX7_tickOn 57 = .ok (.iload_n 2, 1) := by decide +kernel
theorem dX7_tickOn_58 : decode cX7_tickOn 58 = .ok (.invokestatic 278, 3) := by decide +kernel
theorem dX7_tickOn_61 : decode cX7_tickOn 61 = .ok (.ireturn, 1) := by decide +kernel
theorem dX7_tickOn_62 : decode cX7_tickOn 62 = .ok (.iconst 0, 1) := by decide +kernel
theorem dX7_tickOn_63 : decode cX7_tickOn 63 = .ok (.istore 4, 2) := by decide +kernel
theorem dX7_tickOn_65 : decode cX7_tickOn 65 = .ok (.iconst 0, 1) := by decide +kernel
theorem dX7_tickOn_66 : decode cX7_tickOn 66 = .ok (.istore 5, 2) := by decide +kernel
theorem dX7_tickOn_68 : decode cX7_tickOn 68 = .ok (.iload 5, 2) := by decide +kernel
theorem dX7_tickOn_70 : decode cX7_tickOn 70 = .ok (.aload_n 0, 1) := by decide +kernel
theorem dX7_tickOn_71 : decode cX7_tickOn 71 = .ok (.getfield 12, 3) := by decide +kernel
theorem dX7_tickOn_74 : decode cX7_tickOn 74 = .ok (.iload_n 3, 1) := by decide +kernel
theorem dX7_tickOn_75 : decode cX7_tickOn 75 = .ok (.invokevirtual 150, 3) := by decide +kernel
theorem dX7_tickOn_78 : decode cX7_tickOn 78 = .ok (.if_icmp .ge 33, 3) := by decide +kernel
theorem dX7_tickOn_81 : decode cX7_tickOn 81 = .ok (.iload 4, 2) := by decide +kernel
theorem dX7_tickOn_83 : decode cX7_tickOn 83 = .ok (.aload_n 0, 1) := by decide +kernel
theorem dX7_tickOn_84 : decode cX7_tickOn 84 = .ok (.getfield 12, 3) := by decide +kernel
theorem dX7_tickOn_87 : decode cX7_tickOn 87 = .ok (.aload_n 0, 1) := by decide +kernel
theorem dX7_tickOn_88 : decode cX7_tickOn 88 = .ok (.getfield 12, 3) := by decide +kernel
theorem dX7_tickOn_91 : decode cX7_tickOn 91 = .ok (.iload_n 3, 1) := by decide +kernel
theorem dX7_tickOn_92 : decode cX7_tickOn 92 = .ok (.iload 5, 2) := by decide +kernel
theorem dX7_tickOn_94 : decode cX7_tickOn 94 = .ok (.invokevirtual 158, 3) := by decide +kernel
theorem dX7_tickOn_97 : decode cX7_tickOn 97 = .ok (.l2i, 1) := by decide +kernel
theorem dX7_tickOn_98 : decode cX7_tickOn 98 = .ok (.iload_n 2, 1) := by decide +kernel
theorem dX7_tickOn_99 : decode cX7_tickOn 99 = .ok (.invokestatic 278, 3) := by decide +kernel
theorem dX7_tickOn_102 : decode cX7_tickOn 102 = .ok (.iadd, 1) := by decide +kernel
theorem dX7_tickOn_103 : decode cX7_tickOn 103 = .ok (.istore 4, 2) := by decide +kernel
theorem dX7_tickOn_105 : decode cX7_tickOn 105 = .ok (.iinc 5 1, 3) := by decide +kernel
theorem dX7_tickOn_108 : decode cX7_tickOn 108 = .ok (.goto (-40), 3) := by decide +kernel
theorem dX7_tickOn_111 : decode cX7_tickOn 111 = .ok (.iload 4, 2) := by decide +kernel
theorem dX7_tickOn_113 : decode cX7_tickOn 113 = .ok (.ireturn, 1) := by decide +kernel
theorem dX7_restAll_0 : decode cX7_restAll 0 = .ok (.aload_n 0, 1) := by decide +kernel
theorem dX7_restAll_1 : decode cX7_restAll 1 = .ok (.iload_n 1, 1) := by decide +kernel
theorem dX7_restAll_2 : decode cX7_restAll 2 = .ok (.ldc_w 261, 3) := by decide +kernel
theorem dX7_restAll_5 : decode cX7_restAll 5 = .ok (.invokevirtual 132, 3) := by decide +kernel
theorem dX7_restAll_8 : decode cX7_restAll 8 = .ok (.ifCond .eq 5, 3) := by decide +kernel
theorem dX7_restAll_11 : decode cX7_restAll 11 = .ok (.iconst 0, 1) := by decide +kernel
theorem dX7_restAll_12 : decode cX7_restAll 12 = .ok (.ireturn, 1) := by decide +kernel
theorem dX7_restAll_13 : decode cX7_restAll 13 = .ok (.aload_n 0, 1) := by decide +kernel
theorem dX7_restAll_14 : decode cX7_restAll 14 = .ok (.getfield 19, 3) := by decide +kernel
theorem dX7_restAll_17 : decode cX7_restAll 17 = .ok (.aload_n 0, 1) := by decide +kernel
theorem dX7_restAll_18 : decode cX7_restAll 18 = .ok (.getfield 12, 3) := by decide +kernel
theorem dX7_restAll_21 : decode cX7_restAll 21 = .ok (.aload_n 0, 1) := by decide +kernel
theorem dX7_restAll_22 : decode cX7_restAll 22 = .ok (.getfield 12, 3) := by decide +kernel
theorem dX7_restAll_25 : decode cX7_restAll 25 = .ok (.iload_n 1, 1) := by decide +kernel
theorem dX7_restAll_26 : decode cX7_restAll 26 = .ok (.invokevirtual 136, 3) := by decide +kernel
theorem dX7_restAll_29 : decode cX7_restAll 29 = .ok (.invokevirtual 262, 3) := by decide +kernel
theorem dX7_restAll_32 : decode cX7_restAll 32 = .ok (.iconst 0, 1) := by decide +kernel
theorem dX7_restAll_33 : decode cX7_restAll 33 = .ok (.istore_n 2, 1) := by decide +kernel
theorem dX7_restAll_34 : decode cX7_restAll 34 = .ok (.iload_n 2, 1) := by decide +kernel
theorem dX7_restAll_35 : decode cX7_restAll 35 = .ok (.aload_n 0, 1) := by decide +kernel
theorem dX7_restAll_36 : decode cX7_restAll 36 = .ok (.getfield 19, 3) := by decide +kernel
theorem dX7_restAll_39 : decode cX7_restAll 39 = .ok (.getfield 269, 3) := by decide +kernel
theorem dX7_restAll_42 : decode cX7_restAll 42 = .ok (.if_icmp .ge 24, 3) := by decide +kernel
theorem dX7_restAll_45 : decode cX7_restAll 45 = .ok (.aload_n 0, 1) := by decide +kernel
theorem dX7_restAll_46 : decode cX7_restAll 46 = .ok (.getfield 12, 3) := by decide +kernel
theorem dX7_restAll_49 : decode cX7_restAll 49 = .ok (.aload_n 0, 1) := by decide +kernel
theorem dX7_restAll_50 : decode cX7_restAll 50 = .ok (.getfield 19, 3) := by decide +kernel
theorem dX7_restAll_53 : decode cX7_restAll 53 = .ok (.iload_n 2, 1) := by decide +kernel
theorem dX7_restAll_54 : decode cX7_restAll 54 = .ok (.invokevirtual 270, 3) := by decide +kernel
theorem dX7_restAll_57 : decode cX7_restAll 57 = .ok (.invokestatic 281, 3) := by decide +kernel
theorem dX7_restAll_60 : decode cX7_restAll 60 = .ok (.iinc 2 1, 3) := by decide +kernel
theorem dX7_restAll_63 : decode cX7_restAll 63 = .ok (.goto (-29), 3) := by decide +kernel
theorem dX7_restAll_66 : decode cX7_restAll 66 = .ok (.aload_n 0, 1) := by decide +kernel
theorem dX7_restAll_67 : decode cX7_restAll 67 = .ok (.getfield 19, 3) := by decide +kernel
theorem dX7_restAll_70 : decode cX7_restAll 70 = .ok (.getfield 269, 3) := by decide +kernel
theorem dX7_restAll_73 : decode cX7_restAll 73 = .ok (.ireturn, 1) := by decide +kernel
theorem dX7_askWhether_0 : decode cX7_askWhether 0 = .ok (.aload_n 0, 1) := by decide +kernel
theorem dX7_askWhether_1 : decode cX7_askWhether 1 = .ok (.iconst 0, 1) := by decide +kernel
theorem dX7_askWhether_2 : decode cX7_askWhether 2 = .ok (.putfield 30, 3) := by decide +kernel
theorem dX7_askWhether_5 : decode cX7_askWhether 5 = .ok (.iload_n 1, 1) := by decide +kernel
theorem dX7_askWhether_6 : decode cX7_askWhether 6 = .ok (.invokestatic 123, 3) := by decide +kernel
theorem dX7_askWhether_9 : decode cX7_askWhether 9 = .ok (.ifCond .eq 10, 3) := by decide +kernel
theorem dX7_askWhether_12 : decode cX7_askWhether 12 = .ok (.iload_n 2, 1) := by decide +kernel
theorem dX7_askWhether_13 : decode cX7_askWhether 13 = .ok (.invokestatic 127, 3) := by decide +kernel
theorem dX7_askWhether_16 : decode cX7_askWhether 16 = .ok (.ifCond .ne 9, 3) := by decide +kernel
theorem dX7_askWhether_19 : decode cX7_askWhether 19 = .ok (.aload_n 0, 1) := by decide +kernel
theorem dX7_askWhether_20 : decode cX7_askWhether 20 = .ok (.iconst 1, 1) := by decide +kernel
theorem dX7_askWhether_21 : decode cX7_askWhether 21 = .ok (.invokevirtual 91, 3) := by decide +kernel
theorem dX7_askWhether_24 : decode cX7_askWhether 24 = .ok (.ireturn, 1) := by decide +kernel
theorem dX7_askWhether_25 : decode cX7_askWhether 25 = .ok (.aload_n 0, 1) := by decide +kernel
theorem dX7_askWhether_26 : decode cX7_askWhether 26 = .ok (.getfield 12, 3) := by decide +kernel
theorem dX7_askWhether_29 : decode cX7_askWhether 29 = .ok (.aload_n 0, 1) := by decide +kernel
theorem dX7_askWhether_30 : decode cX7_askWhether 30 = .ok (.getfield 12, 3) := by decide +kernel
theorem dX7_askWhether_33 : decode cX7_askWhether 33 = .ok (.iload_n 1, 1) := by decide +kernel
theorem dX7_askWhether_34 : decode cX7_askWhether 34 = .ok (.invokevirtual 136, 3) := by decide +kernel
theorem dX7_askWhether_37 : decode cX7_askWhether 37 = .ok (.iconst 1, 1) := by decide +kernel
theorem dX7_askWhether_38 : decode cX7_askWhether 38 = .ok (.iload_n 2, 1) := by decide +kernel
theorem dX7_askWhether_39 : decode cX7_askWhether 39 = .ok (.ishl, 1) := by decide +kernel
theorem dX7_askWhether_40 : decode cX7_askWhether 40 = .ok (.invokevirtual 167, 3) := by decide +kernel
theorem dX7_askWhether_43 : decode cX7_askWhether 43 = .ok (.ifCond .eq 7, 3) := by decide +kernel
theorem dX7_askWhether_46 : decode cX7_askWhether 46 = .ok (.iconst 1, 1) := by decide +kernel
theorem dX7_askWhether_47 : decode cX7_askWhether 47 = .ok (.goto 4, 3) := by decide +kernel
theorem dX7_askWhether_50 : decode cX7_askWhether 50 = .ok (.iconst 0, 1) := by decide +kernel
theorem dX7_askWhether_51 : decode cX7_askWhether 51 = .ok (.ireturn, 1) := by decide +kernel
theorem dX7_takeFromRow_0 : decode cX7_takeFromRow 0 = .ok (.aload_n 0, 1) := by decide +kernel
theorem dX7_takeFromRow_1 : decode cX7_takeFromRow 1 = .ok (.getfield 12, 3) := by decide +kernel
theorem dX7_takeFromRow_4 : decode cX7_takeFromRow 4 = .ok (.iload_n 1, 1) := by decide +kernel
theorem dX7_takeFromRow_5 : decode cX7_takeFromRow 5 = .ok (.iload_n 3, 1) := by decide +kernel
theorem dX7_takeFromRow_6 : decode cX7_takeFromRow 6 = .ok (.invokevirtual 163, 3) := by decide +kernel
theorem dX7_takeFromRow_9 : decode cX7_takeFromRow 9 = .ok (.ifCond .ne 10, 3) := by decide +kernel
theorem dX7_takeFromRow_12 : decode cX7_takeFromRow 12 = .ok (.aload_n 0, 1) := by decide +kernel
theorem dX7_takeFromRow_13 : decode cX7_takeFromRow 13 = .ok (.iconst 4, 1) := by decide +kernel
theorem dX7_takeFromRow_14 : decode cX7_takeFromRow 14 = .ok (.invokevirtual 91, 3) := by decide +kernel
theorem dX7_takeFromRow_17 : decode cX7_takeFromRow 17 = .ok (.i2l, 1) := by decide +kernel
theorem dX7_takeFromRow_18 : decode cX7_takeFromRow 18 = .ok (.lreturn, 1) := by decide +kernel
theorem dX7_takeFromRow_19 : decode cX7_takeFromRow 19 = .ok (.aload_n 0, 1) := by decide +kernel
theorem dX7_takeFromRow_20 : decode cX7_takeFromRow 20 = .ok (.getfield 12, 3) := by decide +kernel
theorem dX7_takeFromRow_23 : decode cX7_takeFromRow 23 = .ok (.iload_n 1, 1) := by decide +kernel
theorem dX7_takeFromRow_24 : decode cX7_takeFromRow 24 = .ok (.iload_n 3, 1) := by decide +kernel
theorem dX7_takeFromRow_25 : decode cX7_takeFromRow 25 = .ok (.invokevirtual 158, 3) := by decide +kernel
theorem dX7_takeFromRow_28 : decode cX7_takeFromRow 28 = .ok (.lstore 4, 2) := by decide +kernel
theorem dX7_takeFromRow_30 : decode cX7_takeFromRow 30 = .ok (.iload_n 2, 1) := by decide +kernel
theorem dX7_takeFromRow_31 : decode cX7_takeFromRow 31 = .ok (.ldc 153, 2) := by decide +kernel
theorem dX7_takeFromRow_33 : decode cX7_takeFromRow 33 = .ok (.invokestatic 140, 3) := by decide +kernel
theorem dX7_takeFromRow_36 : decode cX7_takeFromRow 36 = .ok (.ifCond .eq 6, 3) := by decide +kernel
theorem dX7_takeFromRow_39 : decode cX7_takeFromRow 39 = .ok (.lload 4, 2) := by decide +kernel
theorem dX7_takeFromRow_41 : decode cX7_takeFromRow 41 = .ok (.lreturn, 1) := by decide +kernel
theorem dX7_takeFromRow_42 : decode cX7_takeFromRow 42 = .ok (.lload 4, 2) := by decide +kernel
theorem dX7_takeFromRow_44 : decode cX7_takeFromRow 44 = .ok (.ldc2_w 234, 3) := by decide +kernel
theorem dX7_takeFromRow_47 : decode cX7_takeFromRow 47 = .ok (.lcmp, 1) := by decide +kernel
theorem dX7_takeFromRow_48 : decode cX7_takeFromRow 48 = .ok (.ifCond .ne 10, 3) := by decide +kernel
theorem dX7_takeFromRow_51 : decode cX7_takeFromRow 51 = .ok (.aload_n 0, 1) := by decide +kernel
theorem dX7_takeFromRow_52 : decode cX7_takeFromRow 52 = .ok (.iconst 2, 1) := by decide +kernel
theorem dX7_takeFromRow_53 : decode cX7_takeFromRow 53 = .ok (.invokevirtual 91, 3) := by decide +kernel
theorem dX7_takeFromRow_56 : decode cX7_takeFromRow 56 = .ok (.i2l, 1) := by decide +kernel
theorem dX7_takeFromRow_57 : decode cX7_takeFromRow 57 = .ok (.lreturn, 1) := by decide +kernel
theorem dX7_takeFromRow_58 : decode cX7_takeFromRow 58 = .ok (.iload_n 2, 1) := by decide +kernel
theorem dX7_takeFromRow_59 : decode cX7_takeFromRow 59 = .ok (.ldc 162, 2) := by decide +kernel
theorem dX7_takeFromRow_61 : decode cX7_takeFromRow 61 = .ok (.invokestatic 140, 3) := by decide +kernel
theorem dX7_takeFromRow_64 : decode cX7_takeFromRow 64 = .ok (.ifCond .eq 17, 3) := by decide +kernel
theorem dX7_takeFromRow_67 : decode cX7_takeFromRow 67 = .ok (.aload_n 0, 1) := by decide +kernel
theorem dX7_takeFromRow_68 : decode cX7_takeFromRow 68 = .ok (.getfield 12, 3) := by decide +kernel
theorem dX7_takeFromRow_71 : decode cX7_takeFromRow 71 = .ok (.lload 4, 2) := by decide +kernel
theorem dX7_takeFromRow_73 : decode cX7_takeFromRow 73 = .ok (.l2i, 1) := by decide +kernel
theorem dX7_takeFromRow_74 : decode cX7_takeFromRow 74 = .ok (.invokevirtual 150, 3) := by decide +kernel
theorem dX7_takeFromRow_77 : decode cX7_takeFromRow 77 = .ok (.i2l, 1) := by decide +kernel
theorem dX7_takeFromRow_78 : decode cX7_takeFromRow 78 = .ok (.goto 5, 3) := by decide +kernel
theorem dX7_takeFromRow_81 : decode cX7_takeFromRow 81 = .ok (.lload 4, 2) := by decide +kernel
theorem dX7_takeFromRow_83 : decode cX7_takeFromRow 83 = .ok (.lreturn, 1) := by decide +kernel
theorem dX7_takeFromOther_0 : decode cX7_takeFromOther 0 = .ok (.iload_n 2, 1) := by decide +kernel
theorem dX7_takeFromOther_1 : decode cX7_takeFromOther 1 = .ok (.tableswitch 141 0 12 #[67, 77, 86, 99, 99, 141, 141, 141, 141, 109, 109, 120, 131], 67) := by decide +kernel
theorem dX7_takeFromOther_68 : decode cX7_takeFromOther 68 = .ok (.aload_n 0, 1) := by decide +kernel
theorem dX7_takeFromOther_69 : decode cX7_takeFromOther 69 = .ok (.getfield 12, 3) := by decide +kernel
theorem dX7_takeFromOther_72 : decode cX7_takeFromOther 72 = .ok (.iload_n 1, 1) := by decide +kernel
theorem dX7_takeFromOther_73 : decode cX7_takeFromOther 73 = .ok (.iconst 3, 1) := by decide +kernel
theorem dX7_takeFromOther_74 : decode cX7_takeFromOther 74 = .ok (.invokevirtual 176, 3) := by decide +kernel
theorem dX7_takeFromOther_77 : decode cX7_takeFromOther 77 = .ok (.ireturn, 1) := by decide +kernel
theorem dX7_takeFromOther_78 : decode cX7_takeFromOther 78 = .ok (.aload_n 0, 1) := by decide +kernel
theorem dX7_takeFromOther_79 : decode cX7_takeFromOther 79 = .ok (.getfield 12, 3) := by decide +kernel
theorem dX7_takeFromOther_82 : decode cX7_takeFromOther 82 = .ok (.iload_n 1, 1) := by decide +kernel
theorem dX7_takeFromOther_83 : decode cX7_takeFromOther 83 = .ok (.invokestatic 170, 3) := by decide +kernel
theorem dX7_takeFromOther_86 : decode cX7_takeFromOther 86 = .ok (.ireturn, 1) := by decide +kernel
theorem dX7_takeFromOther_87 : decode cX7_takeFromOther 87 = .ok (.aload_n 0, 1) := by decide +kernel
theorem dX7_takeFromOther_88 : decode cX7_takeFromOther 88 = .ok (.getfield 12, 3) := by decide +kernel
theorem dX7_takeFromOther_91 : decode cX7_takeFromOther 91 = .ok (.iload_n 1, 1) := by decide +kernel
theorem dX7_takeFromOther_92 : decode cX7_takeFromOther 92 = .ok (.iconst 2, 1) := by decide +kernel
theorem dX7_takeFromOther_93 : decode cX7_takeFromOther 93 = .ok (.invokevirtual 176, 3) := by decide +kernel
theorem dX7_takeFromOther_96 : decode cX7_takeFromOther 96 = .ok (.invokestatic 284, 3) := by decide +kernel
theorem dX7_takeFromOther_99 : decode cX7_takeFromOther 99 = .ok (.ireturn, 1) := by decide +kernel
theorem dX7_takeFromOther_100 : decode cX7_takeFromOther 100 = .ok (.aload_n 0, 1) := by decide +kernel
theorem dX7_takeFromOther_101 : decode cX7_takeFromOther 101 = .ok (.getfield 12, 3) := by decide +kernel
theorem dX7_takeFromOther_104 : decode cX7_takeFromOther 104 = .ok (.iload_n 1, 1) := by decide +kernel
theorem dX7_takeFromOther_105 : decode cX7_takeFromOther 105 = .ok (.iconst 4, 1) := by decide +kernel
theorem dX7_takeFromOther_106 : decode cX7_takeFromOther 106 = .ok (.invokevirtual 176, 3) := by decide +kernel
theorem dX7_takeFromOther_109 : decode cX7_takeFromOther 109 = .ok (.ireturn, 1) := by decide +kernel
theorem dX7_takeFromOther_110 : decode cX7_takeFromOther 110 = .ok (.aload_n 0, 1) := by decide +kernel
theorem dX7_takeFromOther_111 : decode cX7_takeFromOther 111 = .ok (.getfield 12, 3) := by decide +kernel
theorem dX7_takeFromOther_114 : decode cX7_takeFromOther 114 = .ok (.iload_n 1, 1) := by decide +kernel
theorem dX7_takeFromOther_115 : decode cX7_takeFromOther 115 = .ok (.bipush 6, 2) := by decide +kernel
theorem dX7_takeFromOther_117 : decode cX7_takeFromOther 117 = .ok (.invokevirtual 176, 3) := by decide +kernel
theorem dX7_takeFromOther_120 : decode cX7_takeFromOther 120 = .ok (.ireturn, 1) := by decide +kernel
theorem dX7_takeFromOther_121 : decode cX7_takeFromOther 121 = .ok (.aload_n 0, 1) := by decide +kernel
theorem dX7_takeFromOther_122 : decode cX7_takeFromOther 122 = .ok (.getfield 12, 3) := by decide +kernel
theorem dX7_takeFromOther_125 : decode cX7_takeFromOther 125 = .ok (.iload_n 1, 1) := by decide +kernel
theorem dX7_takeFromOther_126 : decode cX7_takeFromOther 126 = .ok (.bipush 9, 2) := by decide +kernel
theorem dX7_takeFromOther_128 : decode cX7_takeFromOther 128 = .ok (.invokevirtual 176, 3) := by decide +kernel
theorem dX7_takeFromOther_131 : decode cX7_takeFromOther 131 = .ok (.ireturn, 1) := by decide +kernel
theorem dX7_takeFromOther_132 : decode cX7_takeFromOther 132 = .ok (.aload_n 0, 1) := by decide +kernel
theorem dX7_takeFromOther_133 : decode cX7_takeFromOther 133 = .ok (.getfield 12, 3) := by decide +kernel
theorem dX7_takeFromOther_136 : decode cX7_takeFromOther 136 = .ok (.iload_n 1, 1) := by decide +kernel
theorem dX7_takeFromOther_137 : decode cX7_takeFromOther 137 = .ok (.iconst 0, 1) := by decide +kernel
theorem dX7_takeFromOther_138 : decode cX7_takeFromOther 138 = .ok (.invokevirtual 176, 3) := by decide +kernel
theorem dX7_takeFromOther_141 : decode cX7_takeFromOther 141 = .ok (.ireturn, 1) := by decide +kernel
theorem dX7_takeFromOther_142 : decode cX7_takeFromOther 142 = .ok (.aload_n 0, 1) := by decide +kernel
theorem dX7_takeFromOther_143 : decode cX7_takeFromOther 143 = .ok (.getfield 12, 3) := by decide +kernel
theorem dX7_takeFromOther_146 : decode cX7_takeFromOther 146 = .ok (.iload_n 1, 1) := by decide +kernel
theorem dX7_takeFromOther_147 : decode cX7_takeFromOther 147 = .ok (.iconst 5, 1) := by decide +kernel
theorem dX7_takeFromOther_148 : decode cX7_takeFromOther 148 = .ok (.invokevirtual 176, 3) := by decide +kernel
theorem dX7_takeFromOther_151 : decode cX7_takeFromOther 151 = .ok (.ireturn, 1) := by decide +kernel
