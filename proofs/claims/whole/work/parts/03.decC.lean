theorem dX0_init_0 : decode cX0_init 0 = .ok (.aload_n 0, 1) := by decide +kernel
theorem dX0_init_1 : decode cX0_init 1 = .ok (.invokespecial 3, 3) := by decide +kernel
theorem dX0_init_4 : decode cX0_init 4 = .ok (.aload_n 0, 1) := by decide +kernel
theorem dX0_init_5 : decode cX0_init 5 = .ok (.iconst 0, 1) := by decide +kernel
theorem dX0_init_6 : decode cX0_init 6 = .ok (.putfield 9, 3) := by decide +kernel
theorem dX0_init_9 : decode cX0_init 9 = .ok (.aload_n 0, 1) := by decide +kernel
theorem dX0_init_10 : decode cX0_init 10 = .ok (.bipush 6, 2) := by decide +kernel
theorem dX0_init_12 : decode cX0_init 12 = .ok (.newarray .int, 2) := by decide +kernel
theorem dX0_init_14 : decode cX0_init 14 = .ok (.putfield 15, 3) := by decide +kernel
theorem dX0_init_17 : decode cX0_init 17 = .ok (.aload_n 0, 1) := by decide +kernel
theorem dX0_init_18 : decode cX0_init 18 = .ok (.bipush 6, 2) := by decide +kernel
theorem dX0_init_20 : decode cX0_init 20 = .ok (.newarray .int, 2) := by decide +kernel
theorem dX0_init_22 : decode cX0_init 22 = .ok (.putfield 19, 3) := by decide +kernel
theorem dX0_init_25 : decode cX0_init 25 = .ok (.aload_n 0, 1) := by decide +kernel
theorem dX0_init_26 : decode cX0_init 26 = .ok (.bipush 6, 2) := by decide +kernel
theorem dX0_init_28 : decode cX0_init 28 = .ok (.newarray .boolean, 2) := by decide +kernel
theorem dX0_init_30 : decode cX0_init 30 = .ok (.putfield 22, 3) := by decide +kernel
theorem dX0_init_33 : decode cX0_init 33 = .ok (.return_, 1) := by decide +kernel
theorem dX0_add_0 : decode cX0_add 0 = .ok (.aload_n 0, 1) := by decide +kernel
theorem dX0_add_1 : decode cX0_add 1 = .ok (.getfield 9, 3) := by decide +kernel
theorem dX0_add_4 : decode cX0_add 4 = .ok (.bipush 6, 2) := by decide +kernel
theorem dX0_add_6 : decode cX0_add 6 = .ok (.if_icmp .ge 13, 3) := by decide +kernel
theorem dX0_add_9 : decode cX0_add 9 = .ok (.iload_n 1, 1) := by decide +kernel
theorem dX0_add_10 : decode cX0_add 10 = .ok (.ifCond .lt 9, 3) := by decide +kernel
theorem dX0_add_13 : decode cX0_add 13 = .ok (.iload_n 1, 1) := by decide +kernel
theorem dX0_add_14 : decode cX0_add 14 = .ok (.bipush 20, 2) := by decide +kernel
theorem dX0_add_16 : decode cX0_add 16 = .ok (.if_icmp .le 5, 3) := by decide +kernel
theorem dX0_add_19 : decode cX0_add 19 = .ok (.iconst (-1), 1) := by decide +kernel
theorem dX0_add_20 : decode cX0_add 20 = .ok (.ireturn, 1) := by decide +kernel
theorem dX0_add_21 : decode cX0_add 21 = .ok (.aload_n 0, 1) := by decide +kernel
theorem dX0_add_22 : decode cX0_add 22 = .ok (.getfield 15, 3) := by decide +kernel
theorem dX0_add_25 : decode cX0_add 25 = .ok (.aload_n 0, 1) := by decide +kernel
theorem dX0_add_26 : decode cX0_add 26 = .ok (.getfield 9, 3) := by decide +kernel
theorem dX0_add_29 : decode cX0_add 29 = .ok (.iconst 0, 1) := by decide +kernel
theorem dX0_add_30 : decode cX0_add 30 = .ok (.iastore, 1) := by decide +kernel
theorem dX0_add_31 : decode cX0_add 31 = .ok (.aload_n 0, 1) := by decide +kernel
theorem dX0_add_32 : decode cX0_add 32 = .ok (.getfield 19, 3) := by decide +kernel
theorem dX0_add_35 : decode cX0_add 35 = .ok (.aload_n 0, 1) := by decide +kernel
theorem dX0_add_36 : decode cX0_add 36 = .ok (.getfield 9, 3) := by decide +kernel
theorem dX0_add_39 : decode cX0_add 39 = .ok (.iload_n 1, 1) := by decide +kernel
theorem dX0_add_40 : decode cX0_add 40 = .ok (.iastore, 1) := by decide +kernel
theorem dX0_add_41 : decode cX0_add 41 = .ok (.aload_n 0, 1) := by decide +kernel
theorem dX0_add_42 : decode cX0_add 42 = .ok (.getfield 22, 3) := by decide +kernel
theorem dX0_add_45 : decode cX0_add 45 = .ok (.aload_n 0, 1) := by decide +kernel
theorem dX0_add_46 : decode cX0_add 46 = .ok (.getfield 9, 3) := by decide +kernel
theorem dX0_add_49 : decode cX0_add 49 = .ok (.iload_n 2, 1) := by decide +kernel
theorem dX0_add_50 : decode cX0_add 50 = .ok (.bastore, 1) := by decide +kernel
theorem dX0_add_51 : decode cX0_add 51 = .ok (.aload_n 0, 1) := by decide +kernel
theorem dX0_add_52 : decode cX0_add 52 = .ok (.dup, 1) := by decide +kernel
theorem dX0_add_53 : decode cX0_add 53 = .ok (.getfield 9, 3) := by decide +kernel
theorem dX0_add_56 : decode cX0_add 56 = .ok (.iconst 1, 1) := by decide +kernel
theorem dX0_add_57 : decode cX0_add 57 = .ok (.iadd, 1) := by decide +kernel
theorem dX0_add_58 : decode cX0_add 58 = .ok (.putfield 9, 3) := by decide +kernel
theorem dX0_add_61 : decode cX0_add 61 = .ok (.aload_n 0, 1) := by decide +kernel
theorem dX0_add_62 : decode cX0_add 62 = .ok (.getfield 9, 3) := by decide +kernel
theorem dX0_add_65 : decode cX0_add 65 = .ok (.iconst 1, 1) := by decide +kernel
theorem dX0_add_66 : decode cX0_add 66 = .ok (.isub, 1) := by decide +kernel
theorem dX0_add_67 : decode cX0_add 67 = .ok (.ireturn, 1) := by decide +kernel
theorem dX0_has_0 : decode cX0_has 0 = .ok (.iload_n 1, 1) := by decide +kernel
theorem dX0_has_1 : decode cX0_has 1 = .ok (.ifCond .lt 15, 3) := by decide +kernel
theorem dX0_has_4 : decode cX0_has 4 = .ok (.iload_n 1, 1) := by decide +kernel
theorem dX0_has_5 : decode cX0_has 5 = .ok (.aload_n 0, 1) := by decide +kernel
theorem dX0_has_6 : decode cX0_has 6 = .ok (.getfield 9, 3) := by decide +kernel
theorem dX0_has_9 : decode cX0_has 9 = .ok (.if_icmp .ge 7, 3) := by decide +kernel
theorem dX0_has_12 : decode cX0_has 12 = .ok (.iconst 1, 1) := by decide +kernel
theorem dX0_has_13 : decode cX0_has 13 = .ok (.goto 4, 3) := by decide +kernel
theorem dX0_has_16 : decode cX0_has 16 = .ok (.iconst 0, 1) := by decide +kernel
theorem dX0_has_17 : decode cX0_has 17 = .ok (.ireturn, 1) := by decide +kernel
theorem dX0_pour_0 : decode cX0_pour 0 = .ok (.aload_n 0, 1) := by decide +kernel
theorem dX0_pour_1 : decode cX0_pour 1 = .ok (.iload_n 1, 1) := by decide +kernel
theorem dX0_pour_2 : decode cX0_pour 2 = .ok (.invokevirtual 26, 3) := by decide +kernel
theorem dX0_pour_5 : decode cX0_pour 5 = .ok (.ifCond .eq 20, 3) := by decide +kernel
theorem dX0_pour_8 : decode cX0_pour 8 = .ok (.iload_n 2, 1) := by decide +kernel
theorem dX0_pour_9 : decode cX0_pour 9 = .ok (.ifCond .le 16, 3) := by decide +kernel
theorem dX0_pour_12 : decode cX0_pour 12 = .ok (.iload_n 2, 1) := by decide +kernel
theorem dX0_pour_13 : decode cX0_pour 13 = .ok (.ldc 30, 2) := by decide +kernel
theorem dX0_pour_15 : decode cX0_pour 15 = .ok (.aload_n 0, 1) := by decide +kernel
theorem dX0_pour_16 : decode cX0_pour 16 = .ok (.getfield 15, 3) := by decide +kernel
theorem dX0_pour_19 : decode cX0_pour 19 = .ok (.iload_n 1, 1) := by decide +kernel
theorem dX0_pour_20 : decode cX0_pour 20 = .ok (.iaload, 1) := by decide +kernel
theorem dX0_pour_21 : decode cX0_pour 21 = .ok (.isub, 1) := by decide +kernel
theorem dX0_pour_22 : decode cX0_pour 22 = .ok (.if_icmp .le 5, 3) := by decide +kernel
theorem dX0_pour_25 : decode cX0_pour 25 = .ok (.iconst (-1), 1) := by decide +kernel
theorem dX0_pour_26 : decode cX0_pour 26 = .ok (.ireturn, 1) := by decide +kernel
theorem dX0_pour_27 : decode cX0_pour 27 = .ok (.aload_n 0, 1) := by decide +kernel
theorem dX0_pour_28 : decode cX0_pour 28 = .ok (.getfield 15, 3) := by decide +kernel
theorem dX0_pour_31 : decode cX0_pour 31 = .ok (.iload_n 1, 1) := by decide +kernel
theorem dX0_pour_32 : decode cX0_pour 32 = .ok (.dup2, 1) := by decide +kernel
theorem dX0_pour_33 : decode cX0_pour 33 = .ok (.iaload, 1) := by decide +kernel
theorem dX0_pour_34 : decode cX0_pour 34 = .ok (.iload_n 2, 1) := by decide +kernel
theorem dX0_pour_35 : decode cX0_pour 35 = .ok (.iadd, 1) := by decide +kernel
theorem dX0_pour_36 : decode cX0_pour 36 = .ok (.iastore, 1) := by decide +kernel
theorem dX0_pour_37 : decode cX0_pour 37 = .ok (.aload_n 0, 1) := by decide +kernel
theorem dX0_pour_38 : decode cX0_pour 38 = .ok (.getfield 15, 3) := by decide +kernel
theorem dX0_pour_41 : decode cX0_pour 41 = .ok (.iload_n 1, 1) := by decide +kernel
theorem dX0_pour_42 : decode cX0_pour 42 = .ok (.iaload, 1) := by decide +kernel
theorem dX0_pour_43 : decode cX0_pour 43 = .ok (.ireturn, 1) := by decide +kernel
theorem dX0_canGive_0 : decode cX0_canGive 0 = .ok (.iload_n 1, 1) := by decide +kernel
theorem dX0_canGive_1 : decode cX0_canGive 1 = .ok (.iload_n 3, 1) := by decide +kernel
theorem dX0_canGive_2 : decode cX0_canGive 2 = .ok (.if_icmp .ne 21, 3) := by decide +kernel
theorem dX0_canGive_5 : decode cX0_canGive 5 = .ok (.aload_n 0, 1) := by decide +kernel
theorem dX0_canGive_6 : decode cX0_canGive 6 = .ok (.iload_n 1, 1) := by decide +kernel
theorem dX0_canGive_7 : decode cX0_canGive 7 = .ok (.invokevirtual 31, 3) := by decide +kernel
theorem dX0_canGive_10 : decode cX0_canGive 10 = .ok (.iload_n 2, 1) := by decide +kernel
theorem dX0_canGive_11 : decode cX0_canGive 11 = .ok (.iload 4, 2) := by decide +kernel
theorem dX0_canGive_13 : decode cX0_canGive 13 = .ok (.iadd, 1) := by decide +kernel
theorem dX0_canGive_14 : decode cX0_canGive 14 = .ok (.if_icmp .lt 7, 3) := by decide +kernel
theorem dX0_canGive_17 : decode cX0_canGive 17 = .ok (.iconst 1, 1) := by decide +kernel
theorem dX0_canGive_18 : decode cX0_canGive 18 = .ok (.goto 4, 3) := by decide +kernel
theorem dX0_canGive_21 : decode cX0_canGive 21 = .ok (.iconst 0, 1) := by decide +kernel
theorem dX0_canGive_22 : decode cX0_canGive 22 = .ok (.ireturn, 1) := by decide +kernel
theorem dX0_canGive_23 : decode cX0_canGive 23 = .ok (.aload_n 0, 1) := by decide +kernel
theorem dX0_canGive_24 : decode cX0_canGive 24 = .ok (.iload_n 1, 1) := by decide +kernel
theorem dX0_canGive_25 : decode cX0_canGive 25 = .ok (.invokevirtual 31, 3) := by decide +kernel
theorem dX0_canGive_28 : decode cX0_canGive 28 = .ok (.iload_n 2, 1) := by decide +kernel
theorem dX0_canGive_29 : decode cX0_canGive 29 = .ok (.if_icmp .lt 17, 3) := by decide +kernel
theorem dX0_canGive_32 : decode cX0_canGive 32 = .ok (.aload_n 0, 1) := by decide +kernel
theorem dX0_canGive_33 : decode cX0_canGive 33 = .ok (.iload_n 3, 1) := by decide +kernel
theorem dX0_canGive_34 : decode cX0_canGive 34 = .ok (.invokevirtual 31, 3) := by decide +kernel
theorem dX0_canGive_37 : decode cX0_canGive 37 = .ok (.iload 4, 2) := by decide +kernel
theorem dX0_canGive_39 : decode cX0_canGive 39 = .ok (.if_icmp .lt 7, 3) := by decide +kernel
theorem dX0_canGive_42 : decode cX0_canGive 42 = .ok (.iconst 1, 1) := by decide +kernel
theorem dX0_canGive_43 : decode cX0_canGive 43 = .ok (.goto 4, 3) := by decide +kernel
theorem dX0_canGive_46 : decode cX0_canGive 46 = .ok (.iconst 0, 1) := by decide +kernel
theorem dX0_canGive_47 : decode cX0_canGive 47 = .ok (.ireturn, 1) := by decide +kernel
theorem dX0_give_0 : decode cX0_give 0 = .ok (.aload_n 0, 1) := by decide +kernel
theorem dX0_give_1 : decode cX0_give 1 = .ok (.iload_n 1, 1) := by decide +kernel
theorem dX0_give_2 : decode cX0_give 2 = .ok (.invokevirtual 26, 3) := by decide +kernel
theorem dX0_give_5 : decode cX0_give 5 = .ok (.ifCond .eq 13, 3) := by decide +kernel
theorem dX0_give_8 : decode cX0_give 8 = .ok (.aload_n 0, 1) := by decide +kernel
theorem dX0_give_9 : decode cX0_give 9 = .ok (.getfield 15, 3) := by decide +kernel
theorem dX0_give_12 : decode cX0_give 12 = .ok (.iload_n 1, 1) := by decide +kernel
theorem dX0_give_13 : decode cX0_give 13 = .ok (.dup2, 1) := by decide +kernel
theorem dX0_give_14 : decode cX0_give 14 = .ok (.iaload, 1) := by decide +kernel
theorem dX0_give_15 : decode cX0_give 15 = .ok (.iload_n 2, 1) := by decide +kernel
theorem dX0_give_16 : decode cX0_give 16 = .ok (.isub, 1) := by decide +kernel
theorem dX0_give_17 : decode cX0_give 17 = .ok (.iastore, 1) := by decide +kernel
theorem dX0_give_18 : decode cX0_give 18 = .ok (.return_, 1) := by decide +kernel
theorem dX0_gramsOf_0 : decode cX0_gramsOf 0 = .ok (.aload_n 0, 1) := by decide +kernel
theorem dX0_gramsOf_1 : decode cX0_gramsOf 1 = .ok (.iload_n 1, 1) := by decide +kernel
theorem dX0_gramsOf_2 : decode cX0_gramsOf 2 = .ok (.invokevirtual 26, 3) := by decide +kernel
theorem dX0_gramsOf_5 : decode cX0_gramsOf 5 = .ok (.ifCond .eq 12, 3) := by decide +kernel
theorem dX0_gramsOf_8 : decode cX0_gramsOf 8 = .ok (.aload_n 0, 1) := by decide +kernel
theorem dX0_gramsOf_9 : decode cX0_gramsOf 9 = .ok (.getfield 15, 3) := by decide +kernel
theorem dX0_gramsOf_12 : decode cX0_gramsOf 12 = .ok (.iload_n 1, 1) := by decide +kernel
theorem dX0_gramsOf_13 : decode cX0_gramsOf 13 = .ok (.iaload, 1) := by decide +kernel
theorem dX0_gramsOf_14 : decode cX0_gramsOf 14 = .ok (.goto 4, 3) := by decide +kernel
theorem dX0_gramsOf_17 : decode cX0_gramsOf 17 = .ok (.iconst (-1), 1) := by decide +kernel
theorem dX0_gramsOf_18 : decode cX0_gramsOf 18 = .ok (.ireturn, 1) := by decide +kernel
theorem dX0_dampOf_0 : decode cX0_dampOf 0 = .ok (.aload_n 0, 1) := by decide +kernel
theorem dX0_dampOf_1 : decode cX0_dampOf 1 = .ok (.iload_n 1, 1) := by decide +kernel
theorem dX0_dampOf_2 : decode cX0_dampOf 2 = .ok (.invokevirtual 26, 3) := by decide +kernel
theorem dX0_dampOf_5 : decode cX0_dampOf 5 = .ok (.ifCond .eq 12, 3) := by decide +kernel
theorem dX0_dampOf_8 : decode cX0_dampOf 8 = .ok (.aload_n 0, 1) := by decide +kernel
theorem dX0_dampOf_9 : decode cX0_dampOf 9 = .ok (.getfield 19, 3) := by decide +kernel
theorem dX0_dampOf_12 : decode cX0_dampOf 12 = .ok (.iload_n 1, 1) := by decide +kernel
theorem dX0_dampOf_13 : decode cX0_dampOf 13 = .ok (.iaload, 1) := by decide +kernel
theorem dX0_dampOf_14 : decode cX0_dampOf 14 = .ok (.goto 4, 3) := by decide +kernel
theorem dX0_dampOf_17 : decode cX0_dampOf 17 = .ok (.iconst (-1), 1) := by decide +kernel
theorem dX0_dampOf_18 : decode cX0_dampOf 18 = .ok (.ireturn, 1) := by decide +kernel
theorem dX0_usedPart_0 : decode cX0_usedPart 0 = .ok (.aload_n 0, 1) := by decide +kernel
theorem dX0_usedPart_1 : decode cX0_usedPart 1 = .ok (.iload_n 1, 1) := by decide +kernel
theorem dX0_usedPart_2 : decode cX0_usedPart 2 = .ok (.invokevirtual 26, 3) := by decide +kernel
theorem dX0_usedPart_5 : decode cX0_usedPart 5 = .ok (.ifCond .eq 16, 3) := by decide +kernel
theorem dX0_usedPart_8 : decode cX0_usedPart 8 = .ok (.aload_n 0, 1) := by decide +kernel
theorem dX0_usedPart_9 : decode cX0_usedPart 9 = .ok (.getfield 22, 3) := by decide +kernel
theorem dX0_usedPart_12 : decode cX0_usedPart 12 = .ok (.iload_n 1, 1) := by decide +kernel
theorem dX0_usedPart_13 : decode cX0_usedPart 13 = .ok (.baload, 1) := by decide +kernel
theorem dX0_usedPart_14 : decode cX0_usedPart 14 = .ok (.ifCond .eq 7, 3) := by decide +kernel
theorem dX0_usedPart_17 : decode cX0_usedPart 17 = .ok (.iload_n 2, 1) := by decide +kernel
theorem dX0_usedPart_18 : decode cX0_usedPart 18 = .ok (.goto 4, 3) := by decide +kernel
theorem dX0_usedPart_21 : decode cX0_usedPart 21 = .ok (.iconst 0, 1) := by decide +kernel
theorem dX0_usedPart_22 : decode cX0_usedPart 22 = .ok (.ireturn, 1) := by decide +kernel
theorem dX0_total_0 : decode cX0_total 0 = .ok (.iconst 0, 1) := by decide +kernel
theorem dX0_total_1 : decode cX0_total 1 = .ok (.istore_n 1, 1) := by decide +kernel
theorem dX0_total_2 : decode cX0_total 2 = .ok (.iconst 0, 1) := by decide +kernel
theorem dX0_total_3 : decode cX0_total 3 = .ok (.istore_n 2, 1) := by decide +kernel
theorem dX0_total_4 : decode cX0_total 4 = .ok (.iload_n 2, 1) := by decide +kernel
theorem dX0_total_5 : decode cX0_total 5 = .ok (.aload_n 0, 1) := by decide +kernel
theorem dX0_total_6 : decode cX0_total 6 = .ok (.getfield 9, 3) := by decide +kernel
theorem dX0_total_9 : decode cX0_total 9 = .ok (.if_icmp .ge 24, 3) := by decide +kernel
theorem dX0_total_12 : decode cX0_total 12 = .ok (.iload_n 2, 1) := by decide +kernel
theorem dX0_total_13 : decode cX0_total 13 = .ok (.bipush 6, 2) := by decide +kernel
theorem dX0_total_15 : decode cX0_total 15 = .ok (.if_icmp .ge 18, 3) := by decide +kernel
theorem dX0_total_18 : decode cX0_total 18 = .ok (.iload_n 1, 1) := by decide +kernel
theorem dX0_total_19 : decode cX0_total 19 = .ok (.aload_n 0, 1) := by decide +kernel
theorem dX0_total_20 : decode cX0_total 20 = .ok (.getfield 15, 3) := by decide +kernel
theorem dX0_total_23 : decode cX0_total 23 = .ok (.iload_n 2, 1) := by decide +kernel
theorem dX0_total_24 : decode cX0_total 24 = .ok (.iaload, 1) := by decide +kernel
theorem dX0_total_25 : decode cX0_total 25 = .ok (.iadd, 1) := by decide +kernel
theorem dX0_total_26 : decode cX0_total 26 = .ok (.istore_n 1, 1) := by decide +kernel
theorem dX0_total_27 : decode cX0_total 27 = .ok (.iinc 2 1, 3) := by decide +kernel
theorem dX0_total_30 : decode cX0_total 30 = .ok (.goto (-26), 3) := by decide +kernel
theorem dX0_total_33 : decode cX0_total 33 = .ok (.iload_n 1, 1) := by decide +kernel
theorem dX0_total_34 : decode cX0_total 34 = .ok (.ireturn, 1) := by decide +kernel
theorem dX0_copyFrom_0 : decode cX0_copyFrom 0 = .ok (.aload_n 0, 1) := by decide +kernel
theorem dX0_copyFrom_1 : decode cX0_copyFrom 1 = .ok (.aload_n 1, 1) := by decide +kernel
theorem dX0_copyFrom_2 : decode cX0_copyFrom 2 = .ok (.getfield 9, 3) := by decide +kernel
theorem dX0_copyFrom_5 : decode cX0_copyFrom 5 = .ok (.putfield 9, 3) := by decide +kernel
theorem dX0_copyFrom_8 : decode cX0_copyFrom 8 = .ok (.iconst 0, 1) := by decide +kernel
theorem dX0_copyFrom_9 : decode cX0_copyFrom 9 = .ok (.istore_n 2, 1) := by decide +kernel
theorem dX0_copyFrom_10 : decode cX0_copyFrom 10 = .ok (.iload_n 2, 1) := by decide +kernel
theorem dX0_copyFrom_11 : decode cX0_copyFrom 11 = .ok (.bipush 6, 2) := by decide +kernel
theorem dX0_copyFrom_13 : decode cX0_copyFrom 13 = .ok (.if_icmp .ge 45, 3) := by decide +kernel
theorem dX0_copyFrom_16 : decode cX0_copyFrom 16 = .ok (.aload_n 0, 1) := by decide +kernel
theorem dX0_copyFrom_17 : decode cX0_copyFrom 17 = .ok (.getfield 15, 3) := by decide +kernel
theorem dX0_copyFrom_20 : decode cX0_copyFrom 20 = .ok (.iload_n 2, 1) := by decide +kernel
theorem dX0_copyFrom_21 : decode cX0_copyFrom 21 = .ok (.aload_n 1, 1) := by decide +kernel
theorem dX0_copyFrom_22 : decode cX0_copyFrom 22 = .ok (.getfield 15, 3) := by decide +kernel
theorem dX0_copyFrom_25 : decode cX0_copyFrom 25 = .ok (.iload_n 2, 1) := by decide +kernel
theorem dX0_copyFrom_26 : decode cX0_copyFrom 26 = .ok (.iaload, 1) := by decide +kernel
theorem dX0_copyFrom_27 : decode cX0_copyFrom 27 = .ok (.iastore, 1) := by decide +kernel
theorem dX0_copyFrom_28 : decode cX0_copyFrom 28 = .ok (.aload_n 0, 1) := by decide +kernel
theorem dX0_copyFrom_29 : decode cX0_copyFrom 29 = .ok (.getfield 19, 3) := by decide +kernel
theorem dX0_copyFrom_32 : decode cX0_copyFrom 32 = .ok (.iload_n 2, 1) := by decide +kernel
theorem dX0_copyFrom_33 : decode cX0_copyFrom 33 = .ok (.aload_n 1, 1) := by decide +kernel
theorem dX0_copyFrom_34 : decode cX0_copyFrom 34 = .ok (.getfield 19, 3) := by decide +kernel
theorem dX0_copyFrom_37 : decode cX0_copyFrom 37 = .ok (.iload_n 2, 1) := by decide +kernel
theorem dX0_copyFrom_38 : decode cX0_copyFrom 38 = .ok (.iaload, 1) := by decide +kernel
theorem dX0_copyFrom_39 : decode cX0_copyFrom 39 = .ok (.iastore, 1) := by decide +kernel
theorem dX0_copyFrom_40 : decode cX0_copyFrom 40 = .ok (.aload_n 0, 1) := by decide +kernel
theorem dX0_copyFrom_41 : decode cX0_copyFrom 41 = .ok (.getfield 22, 3) := by decide +kernel
theorem dX0_copyFrom_44 : decode cX0_copyFrom 44 = .ok (.iload_n 2, 1) := by decide +kernel
theorem dX0_copyFrom_45 : decode cX0_copyFrom 45 = .ok (.aload_n 1, 1) := by decide +kernel
theorem dX0_copyFrom_46 : decode cX0_copyFrom 46 = .ok (.getfield 22, 3) := by decide +kernel
theorem dX0_copyFrom_49 : decode cX0_copyFrom 49 = .ok (.iload_n 2, 1) := by decide +kernel
theorem dX0_copyFrom_50 : decode cX0_copyFrom 50 = .ok (.baload, 1) := by decide +kernel
theorem dX0_copyFrom_51 : decode cX0_copyFrom 51 = .ok (.bastore, 1) := by decide +kernel
theorem dX0_copyFrom_52 : decode cX0_copyFrom 52 = .ok (.iinc 2 1, 3) := by decide +kernel
theorem dX0_copyFrom_55 : decode cX0_copyFrom 55 = .ok (.goto (-45), 3) := by decide +kernel
theorem dX0_copyFrom_58 : decode cX0_copyFrom 58 = .ok (.return_, 1) := by decide +kernel
theorem dX1_init_0 : decode cX1_init 0 = .ok (.aload_n 0, 1) := by decide +kernel
theorem dX1_init_1 : decode cX1_init 1 = .ok (.invokespecial 7, 3) := by decide +kernel
theorem dX1_init_4 : decode cX1_init 4 = .ok (.aload_n 0, 1) := by decide +kernel
theorem dX1_init_5 : decode cX1_init 5 = .ok (.sipush 625, 3) := by decide +kernel
theorem dX1_init_8 : decode cX1_init 8 = .ok (.newarray .int, 2) := by decide +kernel
theorem dX1_init_10 : decode cX1_init 10 = .ok (.putfield 13, 3) := by decide +kernel
theorem dX1_init_13 : decode cX1_init 13 = .ok (.aload_n 0, 1) := by decide +kernel
theorem dX1_init_14 : decode cX1_init 14 = .ok (.bipush 7, 2) := by decide +kernel
theorem dX1_init_16 : decode cX1_init 16 = .ok (.sipush 625, 3) := by decide +kernel
theorem dX1_init_19 : decode cX1_init 19 = .ok (.multianewarray 17 2, 4) := by decide +kernel
theorem dX1_init_23 : decode cX1_init 23 = .ok (.putfield 19, 3) := by decide +kernel
theorem dX1_init_26 : decode cX1_init 26 = .ok (.aload_n 0, 1) := by decide +kernel
theorem dX1_init_27 : decode cX1_init 27 = .ok (.iconst 0, 1) := by decide +kernel
theorem dX1_init_28 : decode cX1_init 28 = .ok (.putfield 22, 3) := by decide +kernel
theorem dX1_init_31 : decode cX1_init 31 = .ok (.aload_n 0, 1) := by decide +kernel
theorem dX1_init_32 : decode cX1_init 32 = .ok (.iconst 0, 1) := by decide +kernel
theorem dX1_init_33 : decode cX1_init 33 = .ok (.putfield 26, 3) := by decide +kernel
theorem dX1_init_36 : decode cX1_init 36 = .ok (.aload_n 0, 1) := by decide +kernel
theorem dX1_init_37 : decode cX1_init 37 = .ok (.iconst (-1), 1) := by decide +kernel
theorem dX1_init_38 : decode cX1_init 38 = .ok (.putfield 30, 3) := by decide +kernel
theorem dX1_init_41 : decode cX1_init 41 = .ok (.aload_n 0, 1) := by decide +kernel
theorem dX1_init_42 : decode cX1_init 42 = .ok (.iconst (-1), 1) := by decide +kernel
theorem dX1_init_43 : decode cX1_init 43 = .ok (.putfield 33, 3) := by decide +kernel
theorem dX1_init_46 : decode cX1_init 46 = .ok (.return_, 1) := by decide +kernel
theorem dX1_forget_0 : decode cX1_forget 0 = .ok (.aload_n 0, 1) := by decide +kernel
theorem dX1_forget_1 : decode cX1_forget 1 = .ok (.iconst 0, 1) := by decide +kernel
theorem dX1_forget_2 : decode cX1_forget 2 = .ok (.putfield 22, 3) := by decide +kernel
theorem dX1_forget_5 : decode cX1_forget 5 = .ok (.return_, 1) := by decide +kernel
theorem dX1_prepare_0 : decode cX1_prepare 0 = .ok (.aload_n 0, 1) := by decide +kernel
theorem dX1_prepare_1 : decode cX1_prepare 1 = .ok (.getfield 22, 3) := by decide +kernel
theorem dX1_prepare_4 : decode cX1_prepare 4 = .ok (.ifCond .eq 4, 3) := by decide +kernel
theorem dX1_prepare_7 : decode cX1_prepare 7 = .ok (.return_, 1) := by decide +kernel
theorem dX1_prepare_8 : decode cX1_prepare 8 = .ok (.iconst 1, 1) := by decide +kernel
theorem dX1_prepare_9 : decode cX1_prepare 9 = .ok (.istore_n 3, 1) := by decide +kernel
theorem dX1_prepare_10 : decode cX1_prepare 10 = .ok (.iload_n 3, 1) := by decide +kernel
theorem dX1_prepare_11 : decode cX1_prepare 11 = .ok (.bipush 25, 2) := by decide +kernel
theorem dX1_prepare_13 : decode cX1_prepare 13 = .ok (.if_icmp .ge 34, 3) := by decide +kernel
theorem dX1_prepare_16 : decode cX1_prepare 16 = .ok (.iconst 1, 1) := by decide +kernel
theorem dX1_prepare_17 : decode cX1_prepare 17 = .ok (.istore 4, 2) := by decide +kernel
theorem dX1_prepare_19 : decode cX1_prepare 19 = .ok (.iload 4, 2) := by decide +kernel
theorem dX1_prepare_21 : decode cX1_prepare 21 = .ok (.bipush 25, 2) := by decide +kernel
theorem dX1_prepare_23 : decode cX1_prepare 23 = .ok (.if_icmp .ge 18, 3) := by decide +kernel
theorem dX1_prepare_26 : decode cX1_prepare 26 = .ok (.aload_n 0, 1) := by decide +kernel
theorem dX1_prepare_27 : decode cX1_prepare 27 = .ok (.iload_n 3, 1) := by decide +kernel
theorem dX1_prepare_28 : decode cX1_prepare 28 = .ok (.iload 4, 2) := by decide +kernel
theorem dX1_prepare_30 : decode cX1_prepare 30 = .ok (.aload_n 1, 1) := by decide +kernel
theorem dX1_prepare_31 : decode cX1_prepare 31 = .ok (.iload_n 2, 1) := by decide +kernel
theorem dX1_prepare_32 : decode cX1_prepare 32 = .ok (.invokevirtual 36, 3) := by decide +kernel
theorem dX1_prepare_35 : decode cX1_prepare 35 = .ok (.iinc 4 1, 3) := by decide +kernel
theorem dX1_prepare_38 : decode cX1_prepare 38 = .ok (.goto (-19), 3) := by decide +kernel
theorem dX1_prepare_41 : decode cX1_prepare 41 = .ok (.iinc 3 1, 3) := by decide +kernel
theorem dX1_prepare_44 : decode cX1_prepare 44 = .ok (.goto (-34), 3) := by decide +kernel
theorem dX1_prepare_47 : decode cX1_prepare 47 = .ok (.aload_n 0, 1) := by decide +kernel
theorem dX1_prepare_48 : decode cX1_prepare 48 = .ok (.iconst 1, 1) := by decide +kernel
theorem dX1_prepare_49 : decode cX1_prepare 49 = .ok (.putfield 22, 3) := by decide +kernel
theorem dX1_prepare_52 : decode cX1_prepare 52 = .ok (.return_, 1) := by decide +kernel
theorem dX1_worthOf_0 : decode cX1_worthOf 0 = .ok (.iload_n 1, 1) := by decide +kernel
theorem dX1_worthOf_1 : decode cX1_worthOf 1 = .ok (.iload_n 2, 1) := by decide +kernel
theorem dX1_worthOf_2 : decode cX1_worthOf 2 = .ok (.invokestatic 40, 3) := by decide +kernel
theorem dX1_worthOf_5 : decode cX1_worthOf 5 = .ok (.ifCond .eq 16, 3) := by decide +kernel
theorem dX1_worthOf_8 : decode cX1_worthOf 8 = .ok (.aload_n 0, 1) := by decide +kernel
theorem dX1_worthOf_9 : decode cX1_worthOf 9 = .ok (.getfield 13, 3) := by decide +kernel
theorem dX1_worthOf_12 : decode cX1_worthOf 12 = .ok (.iload_n 1, 1) := by decide +kernel
theorem dX1_worthOf_13 : decode cX1_worthOf 13 = .ok (.iload_n 2, 1) := by decide +kernel
theorem dX1_worthOf_14 : decode cX1_worthOf 14 = .ok (.invokestatic 44, 3) := by decide +kernel
theorem dX1_worthOf_17 : decode cX1_worthOf 17 = .ok (.iaload, 1) := by decide +kernel
theorem dX1_worthOf_18 : decode cX1_worthOf 18 = .ok (.goto 4, 3) := by decide +kernel
theorem dX1_worthOf_21 : decode cX1_worthOf 21 = .ok (.iconst (-1), 1) := by decide +kernel
theorem dX1_worthOf_22 : decode cX1_worthOf 22 = .ok (.ireturn, 1) := by decide +kernel
theorem dX1_cutsOf_0 : decode cX1_cutsOf 0 = .ok (.iload_n 1, 1) := by decide +kernel
theorem dX1_cutsOf_1 : decode cX1_cutsOf 1 = .ok (.iload_n 2, 1) := by decide +kernel
theorem dX1_cutsOf_2 : decode cX1_cutsOf 2 = .ok (.invokestatic 40, 3) := by decide +kernel
theorem dX1_cutsOf_5 : decode cX1_cutsOf 5 = .ok (.ifCond .eq 19, 3) := by decide +kernel
theorem dX1_cutsOf_8 : decode cX1_cutsOf 8 = .ok (.aload_n 0, 1) := by decide +kernel
theorem dX1_cutsOf_9 : decode cX1_cutsOf 9 = .ok (.getfield 19, 3) := by decide +kernel
theorem dX1_cutsOf_12 : decode cX1_cutsOf 12 = .ok (.bipush 6, 2) := by decide +kernel
theorem dX1_cutsOf_14 : decode cX1_cutsOf 14 = .ok (.aaload, 1) := by decide +kernel
theorem dX1_cutsOf_15 : decode cX1_cutsOf 15 = .ok (.iload_n 1, 1) := by decide +kernel
theorem dX1_cutsOf_16 : decode cX1_cutsOf 16 = .ok (.iload_n 2, 1) := by decide +kernel
theorem dX1_cutsOf_17 : decode cX1_cutsOf 17 = .ok (.invokestatic 44, 3) := by decide +kernel
theorem dX1_cutsOf_20 : decode cX1_cutsOf 20 = .ok (.iaload, 1) := by decide +kernel
theorem dX1_cutsOf_21 : decode cX1_cutsOf 21 = .ok (.goto 4, 3) := by decide +kernel
theorem dX1_cutsOf_24 : decode cX1_cutsOf 24 = .ok (.iconst (-1), 1) := by decide +kernel
theorem dX1_cutsOf_25 : decode cX1_cutsOf 25 = .ok (.ireturn, 1) := by decide +kernel
theorem dX1_sheetsOf_0 : decode cX1_sheetsOf 0 = .ok (.iload_n 3, 1) := by decide +kernel
theorem dX1_sheetsOf_1 : decode cX1_sheetsOf 1 = .ok (.ifCond .lt 13, 3) := by decide +kernel
theorem dX1_sheetsOf_4 : decode cX1_sheetsOf 4 = .ok (.iload_n 3, 1) := by decide +kernel
theorem dX1_sheetsOf_5 : decode cX1_sheetsOf 5 = .ok (.bipush 6, 2) := by decide +kernel
theorem dX1_sheetsOf_7 : decode cX1_sheetsOf 7 = .ok (.if_icmp .ge 7, 3) := by decide +kernel
theorem dX1_sheetsOf_10 : decode cX1_sheetsOf 10 = .ok (.iconst 1, 1) := by decide +kernel
theorem dX1_sheetsOf_11 : decode cX1_sheetsOf 11 = .ok (.goto 4, 3) := by decide +kernel
theorem dX1_sheetsOf_14 : decode cX1_sheetsOf 14 = .ok (.iconst 0, 1) := by decide +kernel
theorem dX1_sheetsOf_15 : decode cX1_sheetsOf 15 = .ok (.istore 4, 2) := by decide +kernel
theorem dX1_sheetsOf_17 : decode cX1_sheetsOf 17 = .ok (.iload 4, 2) := by decide +kernel
theorem dX1_sheetsOf_19 : decode cX1_sheetsOf 19 = .ok (.ifCond .eq 26, 3) := by decide +kernel
theorem dX1_sheetsOf_22 : decode cX1_sheetsOf 22 = .ok (.iload_n 1, 1) := by decide +kernel
theorem dX1_sheetsOf_23 : decode cX1_sheetsOf 23 = .ok (.iload_n 2, 1) := by decide +kernel
theorem dX1_sheetsOf_24 : decode cX1_sheetsOf 24 = .ok (.invokestatic 40, 3) := by decide +kernel
theorem dX1_sheetsOf_27 : decode cX1_sheetsOf 27 = .ok (.ifCond .eq 18, 3) := by decide +kernel
theorem dX1_sheetsOf_30 : decode cX1_sheetsOf 30 = .ok (.aload_n 0, 1) := by decide +kernel
theorem dX1_sheetsOf_31 : decode cX1_sheetsOf 31 = .ok (.getfield 19, 3) := by decide +kernel
theorem dX1_sheetsOf_34 : decode cX1_sheetsOf 34 = .ok (.iload_n 3, 1) := by decide +kernel
theorem dX1_sheetsOf_35 : decode cX1_sheetsOf 35 = .ok (.aaload, 1) := by decide +kernel
theorem dX1_sheetsOf_36 : decode cX1_sheetsOf 36 = .ok (.iload_n 1, 1) := by decide +kernel
theorem dX1_sheetsOf_37 : decode cX1_sheetsOf 37 = .ok (.iload_n 2, 1) := by decide +kernel
theorem dX1_sheetsOf_38 : decode cX1_sheetsOf 38 = .ok (.invokestatic 44, 3) := by decide +kernel
theorem dX1_sheetsOf_41 : decode cX1_sheetsOf 41 = .ok (.iaload, 1) := by decide +kernel
theorem dX1_sheetsOf_42 : decode cX1_sheetsOf 42 = .ok (.goto 4, 3) := by decide +kernel
theorem dX1_sheetsOf_45 : decode cX1_sheetsOf 45 = .ok (.iconst (-1), 1) := by decide +kernel
theorem dX1_sheetsOf_46 : decode cX1_sheetsOf 46 = .ok (.ireturn, 1) := by decide +kernel
theorem dX1_place_0 : decode cX1_place 0 = .ok (.iload_n 0, 1) := by decide +kernel
theorem dX1_place_1 : decode cX1_place 1 = .ok (.bipush 25, 2) := by decide +kernel
theorem dX1_place_3 : decode cX1_place 3 = .ok (.imul, 1) := by decide +kernel
theorem dX1_place_4 : decode cX1_place 4 = .ok (.iload_n 1, 1) := by decide +kernel
theorem dX1_place_5 : decode cX1_place 5 = .ok (.iadd, 1) := by decide +kernel
theorem dX1_place_6 : decode cX1_place 6 = .ok (.ireturn, 1) := by decide +kernel
theorem dX1_choose_0 : decode cX1_choose 0 = .ok (.aload_n 3, 1) := by decide +kernel
theorem dX1_choose_1 : decode cX1_choose 1 = .ok (.iload_n 1, 1) := by decide +kernel
theorem dX1_choose_2 : decode cX1_choose 2 = .ok (.iload_n 2, 1) := by decide +kernel
theorem dX1_choose_3 : decode cX1_choose 3 = .ok (.invokevirtual 48, 3) := by decide +kernel
theorem dX1_choose_6 : decode cX1_choose 6 = .ok (.istore 5, 2) := by decide +kernel
theorem dX1_choose_8 : decode cX1_choose 8 = .ok (.aload_n 0, 1) := by decide +kernel
theorem dX1_choose_9 : decode cX1_choose 9 = .ok (.aload_n 3, 1) := by decide +kernel
theorem dX1_choose_10 : decode cX1_choose 10 = .ok (.iload 5, 2) := by decide +kernel
theorem dX1_choose_12 : decode cX1_choose 12 = .ok (.invokevirtual 51, 3) := by decide +kernel
theorem dX1_choose_15 : decode cX1_choose 15 = .ok (.putfield 26, 3) := by decide +kernel
theorem dX1_choose_18 : decode cX1_choose 18 = .ok (.aload_n 0, 1) := by decide +kernel
theorem dX1_choose_19 : decode cX1_choose 19 = .ok (.iconst (-1), 1) := by decide +kernel
theorem dX1_choose_20 : decode cX1_choose 20 = .ok (.putfield 30, 3) := by decide +kernel
theorem dX1_choose_23 : decode cX1_choose 23 = .ok (.aload_n 0, 1) := by decide +kernel
theorem dX1_choose_24 : decode cX1_choose 24 = .ok (.iconst (-1), 1) := by decide +kernel
theorem dX1_choose_25 : decode cX1_choose 25 = .ok (.putfield 33, 3) := by decide +kernel
theorem dX1_choose_28 : decode cX1_choose 28 = .ok (.iconst 1, 1) := by decide +kernel
theorem dX1_choose_29 : decode cX1_choose 29 = .ok (.istore 6, 2) := by decide +kernel
theorem dX1_choose_31 : decode cX1_choose 31 = .ok (.iload 6, 2) := by decide +kernel
theorem dX1_choose_33 : decode cX1_choose 33 = .ok (.iload 4, 2) := by decide +kernel
theorem dX1_choose_35 : decode cX1_choose 35 = .ok (.iadd, 1) := by decide +kernel
theorem dX1_choose_36 : decode cX1_choose 36 = .ok (.iload_n 1, 1) := by decide +kernel
theorem dX1_choose_37 : decode cX1_choose 37 = .ok (.if_icmp .ge 30, 3) := by decide +kernel
theorem dX1_choose_40 : decode cX1_choose 40 = .ok (.aload_n 0, 1) := by decide +kernel
theorem dX1_choose_41 : decode cX1_choose 41 = .ok (.iload 6, 2) := by decide +kernel
theorem dX1_choose_43 : decode cX1_choose 43 = .ok (.iload_n 2, 1) := by decide +kernel
theorem dX1_choose_44 : decode cX1_choose 44 = .ok (.invokestatic 44, 3) := by decide +kernel
theorem dX1_choose_47 : decode cX1_choose 47 = .ok (.iload_n 1, 1) := by decide +kernel
theorem dX1_choose_48 : decode cX1_choose 48 = .ok (.iload 4, 2) := by decide +kernel
theorem dX1_choose_50 : decode cX1_choose 50 = .ok (.isub, 1) := by decide +kernel
theorem dX1_choose_51 : decode cX1_choose 51 = .ok (.iload 6, 2) := by decide +kernel
theorem dX1_choose_53 : decode cX1_choose 53 = .ok (.isub, 1) := by decide +kernel
theorem dX1_choose_54 : decode cX1_choose 54 = .ok (.iload_n 2, 1) := by decide +kernel
theorem dX1_choose_55 : decode cX1_choose 55 = .ok (.invokestatic 44, 3) := by decide +kernel
theorem dX1_choose_58 : decode cX1_choose 58 = .ok (.invokevirtual 55, 3) := by decide +kernel
theorem dX1_choose_61 : decode cX1_choose 61 = .ok (.iinc 6 1, 3) := by decide +kernel
theorem dX1_choose_64 : decode cX1_choose 64 = .ok (.goto (-33), 3) := by decide +kernel
theorem dX1_choose_67 : decode cX1_choose 67 = .ok (.iconst 1, 1) := by decide +kernel
theorem dX1_choose_68 : decode cX1_choose 68 = .ok (.istore 6, 2) := by decide +kernel
theorem dX1_choose_70 : decode cX1_choose 70 = .ok (.iload 6, 2) := by decide +kernel
theorem dX1_choose_72 : decode cX1_choose 72 = .ok (.iload 4, 2) := by decide +kernel
theorem dX1_choose_74 : decode cX1_choose 74 = .ok (.iadd, 1) := by decide +kernel
theorem dX1_choose_75 : decode cX1_choose 75 = .ok (.iload_n 2, 1) := by decide +kernel
theorem dX1_choose_76 : decode cX1_choose 76 = .ok (.if_icmp .ge 30, 3) := by decide +kernel
theorem dX1_choose_79 : decode cX1_choose 79 = .ok (.aload_n 0, 1) := by decide +kernel
theorem dX1_choose_80 : decode cX1_choose 80 = .ok (.iload_n 1, 1) := by decide +kernel
theorem dX1_choose_81 : decode cX1_choose 81 = .ok (.iload 6, 2) := by decide +kernel
theorem dX1_choose_83 : decode cX1_choose 83 = .ok (.invokestatic 44, 3) := by decide +kernel
theorem dX1_choose_86 : decode cX1_choose 86 = .ok (.iload_n 1, 1) := by decide +kernel
theorem dX1_choose_87 : decode cX1_choose 87 = .ok (.iload_n 2, 1) := by decide +kernel
theorem dX1_choose_88 : decode cX1_choose 88 = .ok (.iload 4, 2) := by decide +kernel
theorem dX1_choose_90 : decode cX1_choose 90 = .ok (.isub, 1) := by decide +kernel
theorem dX1_choose_91 : decode cX1_choose 91 = .ok (.iload 6, 2) := by decide +kernel
theorem dX1_choose_93 : decode cX1_choose 93 = .ok (.isub, 1) := by decide +kernel
theorem dX1_choose_94 : decode cX1_choose 94 = .ok (.invokestatic 44, 3) := by decide +kernel
theorem dX1_choose_97 : decode cX1_choose 97 = .ok (.invokevirtual 55, 3) := by decide +kernel
theorem dX1_choose_100 : decode cX1_choose 100 = .ok (.iinc 6 1, 3) := by decide +kernel
theorem dX1_choose_103 : decode cX1_choose 103 = .ok (.goto (-33), 3) := by decide +kernel
theorem dX1_choose_106 : decode cX1_choose 106 = .ok (.aload_n 0, 1) := by decide +kernel
theorem dX1_choose_107 : decode cX1_choose 107 = .ok (.getfield 30, 3) := by decide +kernel
theorem dX1_choose_110 : decode cX1_choose 110 = .ok (.invokestatic 59, 3) := by decide +kernel
theorem dX1_choose_113 : decode cX1_choose 113 = .ok (.ifCond .eq 25, 3) := by decide +kernel
theorem dX1_choose_116 : decode cX1_choose 116 = .ok (.aload_n 0, 1) := by decide +kernel
theorem dX1_choose_117 : decode cX1_choose 117 = .ok (.getfield 33, 3) := by decide +kernel
theorem dX1_choose_120 : decode cX1_choose 120 = .ok (.invokestatic 59, 3) := by decide +kernel
theorem dX1_choose_123 : decode cX1_choose 123 = .ok (.ifCond .eq 15, 3) := by decide +kernel
theorem dX1_choose_126 : decode cX1_choose 126 = .ok (.aload_n 0, 1) := by decide +kernel
theorem dX1_choose_127 : decode cX1_choose 127 = .ok (.iload_n 1, 1) := by decide +kernel
theorem dX1_choose_128 : decode cX1_choose 128 = .ok (.iload_n 2, 1) := by decide +kernel
theorem dX1_choose_129 : decode cX1_choose 129 = .ok (.invokestatic 44, 3) := by decide +kernel
theorem dX1_choose_132 : decode cX1_choose 132 = .ok (.invokevirtual 63, 3) := by decide +kernel
theorem dX1_choose_135 : decode cX1_choose 135 = .ok (.goto 14, 3) := by decide +kernel
theorem dX1_choose_138 : decode cX1_choose 138 = .ok (.aload_n 0, 1) := by decide +kernel
theorem dX1_choose_139 : decode cX1_choose 139 = .ok (.iload_n 1, 1) := by decide +kernel
theorem dX1_choose_140 : decode cX1_choose 140 = .ok (.iload_n 2, 1) := by decide +kernel
theorem dX1_choose_141 : decode cX1_choose 141 = .ok (.invokestatic 44, 3) := by decide +kernel
theorem dX1_choose_144 : decode cX1_choose 144 = .ok (.iload 5, 2) := by decide +kernel
theorem dX1_choose_146 : decode cX1_choose 146 = .ok (.invokevirtual 67, 3) := by decide +kernel
theorem dX1_choose_149 : decode cX1_choose 149 = .ok (.return_, 1) := by decide +kernel
theorem dX1_isPlace_0 : decode cX1_isPlace 0 = .ok (.iload_n 0, 1) := by decide +kernel
theorem dX1_isPlace_1 : decode cX1_isPlace 1 = .ok (.ifCond .lt 14, 3) := by decide +kernel
theorem dX1_isPlace_4 : decode cX1_isPlace 4 = .ok (.iload_n 0, 1) := by decide +kernel
theorem dX1_isPlace_5 : decode cX1_isPlace 5 = .ok (.sipush 625, 3) := by decide +kernel
theorem dX1_isPlace_8 : decode cX1_isPlace 8 = .ok (.if_icmp .ge 7, 3) := by decide +kernel
theorem dX1_isPlace_11 : decode cX1_isPlace 11 = .ok (.iconst 1, 1) := by decide +kernel
theorem dX1_isPlace_12 : decode cX1_isPlace 12 = .ok (.goto 4, 3) := by decide +kernel
theorem dX1_isPlace_15 : decode cX1_isPlace 15 = .ok (.iconst 0, 1) := by decide +kernel
theorem dX1_isPlace_16 : decode cX1_isPlace 16 = .ok (.ireturn, 1) := by decide +kernel
theorem dX1_tryCut_0 : decode cX1_tryCut 0 = .ok (.iload_n 1, 1) := by decide +kernel
theorem dX1_tryCut_1 : decode cX1_tryCut 1 = .ok (.invokestatic 59, 3) := by decide +kernel
theorem dX1_tryCut_4 : decode cX1_tryCut 4 = .ok (.ifCond .eq 10, 3) := by decide +kernel
theorem dX1_tryCut_7 : decode cX1_tryCut 7 = .ok (.iload_n 2, 1) := by decide +kernel
theorem dX1_tryCut_8 : decode cX1_tryCut 8 = .ok (.invokestatic 59, 3) := by decide +kernel
theorem dX1_tryCut_11 : decode cX1_tryCut 11 = .ok (.ifCond .ne 4, 3) := by decide +kernel
theorem dX1_tryCut_14 : decode cX1_tryCut 14 = .ok (.return_, 1) := by decide +kernel
theorem dX1_tryCut_15 : decode cX1_tryCut 15 = .ok (.aload_n 0, 1) := by decide +kernel
theorem dX1_tryCut_16 : decode cX1_tryCut 16 = .ok (.getfield 13, 3) := by decide +kernel
theorem dX1_tryCut_19 : decode cX1_tryCut 19 = .ok (.iload_n 1, 1) := by decide +kernel
theorem dX1_tryCut_20 : decode cX1_tryCut 20 = .ok (.iaload, 1) := by decide +kernel
theorem dX1_tryCut_21 : decode cX1_tryCut 21 = .ok (.aload_n 0, 1) := by decide +kernel
theorem dX1_tryCut_22 : decode cX1_tryCut 22 = .ok (.getfield 13, 3) := by decide +kernel
theorem dX1_tryCut_25 : decode cX1_tryCut 25 = .ok (.iload_n 2, 1) := by decide +kernel
theorem dX1_tryCut_26 : decode cX1_tryCut 26 = .ok (.iaload, 1) := by decide +kernel
theorem dX1_tryCut_27 : decode cX1_tryCut 27 = .ok (.iadd, 1) := by decide +kernel
theorem dX1_tryCut_28 : decode cX1_tryCut 28 = .ok (.istore_n 3, 1) := by decide +kernel
theorem dX1_tryCut_29 : decode cX1_tryCut 29 = .ok (.iload_n 3, 1) := by decide +kernel
theorem dX1_tryCut_30 : decode cX1_tryCut 30 = .ok (.aload_n 0, 1) := by decide +kernel
theorem dX1_tryCut_31 : decode cX1_tryCut 31 = .ok (.getfield 26, 3) := by decide +kernel
theorem dX1_tryCut_34 : decode cX1_tryCut 34 = .ok (.if_icmp .le 18, 3) := by decide +kernel
theorem dX1_tryCut_37 : decode cX1_tryCut 37 = .ok (.aload_n 0, 1) := by decide +kernel
theorem dX1_tryCut_38 : decode cX1_tryCut 38 = .ok (.iload_n 3, 1) := by decide +kernel
theorem dX1_tryCut_39 : decode cX1_tryCut 39 = .ok (.putfield 26, 3) := by decide +kernel
theorem dX1_tryCut_42 : decode cX1_tryCut 42 = .ok (.aload_n 0, 1) := by decide +kernel
theorem dX1_tryCut_43 : decode cX1_tryCut 43 = .ok (.iload_n 1, 1) := by decide +kernel
theorem dX1_tryCut_44 : decode cX1_tryCut 44 = .ok (.putfield 30, 3) := by decide +kernel
theorem dX1_tryCut_47 : decode cX1_tryCut 47 = .ok (.aload_n 0, 1) := by decide +kernel
theorem dX1_tryCut_48 : decode cX1_tryCut 48 = .ok (.iload_n 2, 1) := by decide +kernel
theorem dX1_tryCut_49 : decode cX1_tryCut 49 = .ok (.putfield 33, 3) := by decide +kernel
theorem dX1_tryCut_52 : decode cX1_tryCut 52 = .ok (.return_, 1) := by decide +kernel
theorem dX1_writeWhole_0 : decode cX1_writeWhole 0 = .ok (.aload_n 0, 1) := by decide +kernel
theorem dX1_writeWhole_1 : decode cX1_writeWhole 1 = .ok (.getfield 13, 3) := by decide +kernel
theorem dX1_writeWhole_4 : decode cX1_writeWhole 4 = .ok (.iload_n 1, 1) := by decide +kernel
theorem dX1_writeWhole_5 : decode cX1_writeWhole 5 = .ok (.aload_n 0, 1) := by decide +kernel
theorem dX1_writeWhole_6 : decode cX1_writeWhole 6 = .ok (.getfield 26, 3) := by decide +kernel
theorem dX1_writeWhole_9 : decode cX1_writeWhole 9 = .ok (.iastore, 1) := by decide +kernel
theorem dX1_writeWhole_10 : decode cX1_writeWhole 10 = .ok (.iconst 0, 1) := by decide +kernel
theorem dX1_writeWhole_11 : decode cX1_writeWhole 11 = .ok (.istore_n 3, 1) := by decide +kernel
theorem dX1_writeWhole_12 : decode cX1_writeWhole 12 = .ok (.iload_n 3, 1) := by decide +kernel
theorem dX1_writeWhole_13 : decode cX1_writeWhole 13 = .ok (.bipush 6, 2) := by decide +kernel
theorem dX1_writeWhole_15 : decode cX1_writeWhole 15 = .ok (.if_icmp .gt 27, 3) := by decide +kernel
theorem dX1_writeWhole_18 : decode cX1_writeWhole 18 = .ok (.aload_n 0, 1) := by decide +kernel
theorem dX1_writeWhole_19 : decode cX1_writeWhole 19 = .ok (.getfield 19, 3) := by decide +kernel
theorem dX1_writeWhole_22 : decode cX1_writeWhole 22 = .ok (.iload_n 3, 1) := by decide +kernel
theorem dX1_writeWhole_23 : decode cX1_writeWhole 23 = .ok (.aaload, 1) := by decide +kernel
theorem dX1_writeWhole_24 : decode cX1_writeWhole 24 = .ok (.iload_n 1, 1) := by decide +kernel
theorem dX1_writeWhole_25 : decode cX1_writeWhole 25 = .ok (.iload_n 3, 1) := by decide +kernel
theorem dX1_writeWhole_26 : decode cX1_writeWhole 26 = .ok (.iload_n 2, 1) := by decide +kernel
theorem dX1_writeWhole_27 : decode cX1_writeWhole 27 = .ok (.if_icmp .ne 7, 3) := by decide +kernel
theorem dX1_writeWhole_30 : decode cX1_writeWhole 30 = .ok (.iconst 1, 1) := by decide +kernel
theorem dX1_writeWhole_31 : decode cX1_writeWhole 31 = .ok (.goto 4, 3) := by decide +kernel
theorem dX1_writeWhole_34 : decode cX1_writeWhole 34 = .ok (.iconst 0, 1) := by decide +kernel
theorem dX1_writeWhole_35 : decode cX1_writeWhole 35 = .ok (.iastore, 1) := by decide +kernel
theorem dX1_writeWhole_36 : decode cX1_writeWhole 36 = .ok (.iinc 3 1, 3) := by decide +kernel
theorem dX1_writeWhole_39 : decode cX1_writeWhole 39 = .ok (.goto (-27), 3) := by decide +kernel
theorem dX1_writeWhole_42 : decode cX1_writeWhole 42 = .ok (.return_, 1) := by decide +kernel
theorem dX1_writeCut_0 : decode cX1_writeCut 0 = .ok (.aload_n 0, 1) := by decide +kernel
theorem dX1_writeCut_1 : decode cX1_writeCut 1 = .ok (.getfield 13, 3) := by decide +kernel
theorem dX1_writeCut_4 : decode cX1_writeCut 4 = .ok (.iload_n 1, 1) := by decide +kernel
theorem dX1_writeCut_5 : decode cX1_writeCut 5 = .ok (.aload_n 0, 1) := by decide +kernel
theorem dX1_writeCut_6 : decode cX1_writeCut 6 = .ok (.getfield 26, 3) := by decide +kernel
theorem dX1_writeCut_9 : decode cX1_writeCut 9 = .ok (.iastore, 1) := by decide +kernel
theorem dX1_writeCut_10 : decode cX1_writeCut 10 = .ok (.iconst 0, 1) := by decide +kernel
theorem dX1_writeCut_11 : decode cX1_writeCut 11 = .ok (.istore_n 2, 1) := by decide +kernel
theorem dX1_writeCut_12 : decode cX1_writeCut 12 = .ok (.iload_n 2, 1) := by decide +kernel
theorem dX1_writeCut_13 : decode cX1_writeCut 13 = .ok (.bipush 6, 2) := by decide +kernel
theorem dX1_writeCut_15 : decode cX1_writeCut 15 = .ok (.if_icmp .gt 40, 3) := by decide +kernel
theorem dX1_writeCut_18 : decode cX1_writeCut 18 = .ok (.aload_n 0, 1) := by decide +kernel
theorem dX1_writeCut_19 : decode cX1_writeCut 19 = .ok (.getfield 19, 3) := by decide +kernel
theorem dX1_writeCut_22 : decode cX1_writeCut 22 = .ok (.iload_n 2, 1) := by decide +kernel
theorem dX1_writeCut_23 : decode cX1_writeCut 23 = .ok (.aaload, 1) := by decide +kernel
theorem dX1_writeCut_24 : decode cX1_writeCut 24 = .ok (.iload_n 1, 1) := by decide +kernel
theorem dX1_writeCut_25 : decode cX1_writeCut 25 = .ok (.aload_n 0, 1) := by decide +kernel
theorem dX1_writeCut_26 : decode cX1_writeCut 26 = .ok (.getfield 19, 3) := by decide +kernel
theorem dX1_writeCut_29 : decode cX1_writeCut 29 = .ok (.iload_n 2, 1) := by decide +kernel
theorem dX1_writeCut_30 : decode cX1_writeCut 30 = .ok (.aaload, 1) := by decide +kernel
theorem dX1_writeCut_31 : decode cX1_writeCut 31 = .ok (.aload_n 0, 1) := by decide +kernel
theorem dX1_writeCut_32 : decode cX1_writeCut 32 = .ok (.getfield 30, 3) := by decide +kernel
theorem dX1_writeCut_35 : decode cX1_writeCut 35 = .ok (.iaload, 1) := by decide +kernel
theorem dX1_writeCut_36 : decode cX1_writeCut 36 = .ok (.aload_n 0, 1) := by decide +kernel
theorem dX1_writeCut_37 : decode cX1_writeCut 37 = .ok (.getfield 19, 3) := by decide +kernel
theorem dX1_writeCut_40 : decode cX1_writeCut 40 = .ok (.iload_n 2, 1) := by decide +kernel
theorem dX1_writeCut_41 : decode cX1_writeCut 41 = .ok (.aaload, 1) := by decide +kernel
theorem dX1_writeCut_42 : decode cX1_writeCut 42 = .ok (.aload_n 0, 1) := by decide +kernel
theorem dX1_writeCut_43 : decode cX1_writeCut 43 = .ok (.getfield 33, 3) := by decide +kernel
theorem dX1_writeCut_46 : decode cX1_writeCut 46 = .ok (.iaload, 1) := by decide +kernel
theorem dX1_writeCut_47 : decode cX1_writeCut 47 = .ok (.iadd, 1) := by decide +kernel
theorem dX1_writeCut_48 : decode cX1_writeCut 48 = .ok (.iastore, 1) := by decide +kernel
theorem dX1_writeCut_49 : decode cX1_writeCut 49 = .ok (.iinc 2 1, 3) := by decide +kernel
theorem dX1_writeCut_52 : decode cX1_writeCut 52 = .ok (.goto (-40), 3) := by decide +kernel
theorem dX1_writeCut_55 : decode cX1_writeCut 55 = .ok (.aload_n 0, 1) := by decide +kernel
theorem dX1_writeCut_56 : decode cX1_writeCut 56 = .ok (.getfield 19, 3) := by decide +kernel
theorem dX1_writeCut_59 : decode cX1_writeCut 59 = .ok (.bipush 6, 2) := by decide +kernel
theorem dX1_writeCut_61 : decode cX1_writeCut 61 = .ok (.aaload, 1) := by decide +kernel
theorem dX1_writeCut_62 : decode cX1_writeCut 62 = .ok (.iload_n 1, 1) := by decide +kernel
theorem dX1_writeCut_63 : decode cX1_writeCut 63 = .ok (.dup2, 1) := by decide +kernel
theorem dX1_writeCut_64 : decode cX1_writeCut 64 = .ok (.iaload, 1) := by decide +kernel
theorem dX1_writeCut_65 : decode cX1_writeCut 65 = .ok (.iconst 1, 1) := by decide +kernel
theorem dX1_writeCut_66 : decode cX1_writeCut 66 = .ok (.iadd, 1) := by decide +kernel
theorem dX1_writeCut_67 : decode cX1_writeCut 67 = .ok (.iastore, 1) := by decide +kernel
theorem dX1_writeCut_68 : decode cX1_writeCut 68 = .ok (.return_, 1) := by decide +kernel
theorem dX2_init_0 : decode cX2_init 0 = .ok (.aload_n 0, 1) := by decide +kernel
theorem dX2_init_1 : decode cX2_init 1 = .ok (.invokespecial 3, 3) := by decide +kernel
theorem dX2_init_4 : decode cX2_init 4 = .ok (.aload_n 0, 1) := by decide +kernel
theorem dX2_init_5 : decode cX2_init 5 = .ok (.bipush 32, 2) := by decide +kernel
theorem dX2_init_7 : decode cX2_init 7 = .ok (.newarray .int, 2) := by decide +kernel
theorem dX2_init_9 : decode cX2_init 9 = .ok (.putfield 11, 3) := by decide +kernel
theorem dX2_init_12 : decode cX2_init 12 = .ok (.aload_n 0, 1) := by decide +kernel
theorem dX2_init_13 : decode cX2_init 13 = .ok (.bipush 8, 2) := by decide +kernel
theorem dX2_init_15 : decode cX2_init 15 = .ok (.newarray .boolean, 2) := by decide +kernel
theorem dX2_init_17 : decode cX2_init 17 = .ok (.putfield 15, 3) := by decide +kernel
theorem dX2_init_20 : decode cX2_init 20 = .ok (.aload_n 0, 1) := by decide +kernel
theorem dX2_init_21 : decode cX2_init 21 = .ok (.bipush 8, 2) := by decide +kernel
theorem dX2_init_23 : decode cX2_init 23 = .ok (.newarray .boolean, 2) := by decide +kernel
theorem dX2_init_25 : decode cX2_init 25 = .ok (.putfield 19, 3) := by decide +kernel
theorem dX2_init_28 : decode cX2_init 28 = .ok (.iconst 0, 1) := by decide +kernel
theorem dX2_init_29 : decode cX2_init 29 = .ok (.istore_n 1, 1) := by decide +kernel
theorem dX2_init_30 : decode cX2_init 30 = .ok (.iload_n 1, 1) := by decide +kernel
theorem dX2_init_31 : decode cX2_init 31 = .ok (.bipush 32, 2) := by decide +kernel
theorem dX2_init_33 : decode cX2_init 33 = .ok (.if_icmp .ge 18, 3) := by decide +kernel
theorem dX2_init_36 : decode cX2_init 36 = .ok (.aload_n 0, 1) := by decide +kernel
theorem dX2_init_37 : decode cX2_init 37 = .ok (.getfield 11, 3) := by decide +kernel
theorem dX2_init_40 : decode cX2_init 40 = .ok (.iload_n 1, 1) := by decide +kernel
theorem dX2_init_41 : decode cX2_init 41 = .ok (.iload_n 1, 1) := by decide +kernel
theorem dX2_init_42 : decode cX2_init 42 = .ok (.iconst 4, 1) := by decide +kernel
theorem dX2_init_43 : decode cX2_init 43 = .ok (.idiv, 1) := by decide +kernel
theorem dX2_init_44 : decode cX2_init 44 = .ok (.iastore, 1) := by decide +kernel
theorem dX2_init_45 : decode cX2_init 45 = .ok (.iinc 1 1, 3) := by decide +kernel
theorem dX2_init_48 : decode cX2_init 48 = .ok (.goto (-18), 3) := by decide +kernel
theorem dX2_init_51 : decode cX2_init 51 = .ok (.return_, 1) := by decide +kernel
theorem dX2_isState_0 : decode cX2_isState 0 = .ok (.iload_n 0, 1) := by decide +kernel
theorem dX2_isState_1 : decode cX2_isState 1 = .ok (.ifCond .lt 13, 3) := by decide +kernel
theorem dX2_isState_4 : decode cX2_isState 4 = .ok (.iload_n 0, 1) := by decide +kernel
theorem dX2_isState_5 : decode cX2_isState 5 = .ok (.bipush 8, 2) := by decide +kernel
theorem dX2_isState_7 : decode cX2_isState 7 = .ok (.if_icmp .ge 7, 3) := by decide +kernel
theorem dX2_isState_10 : decode cX2_isState 10 = .ok (.iconst 1, 1) := by decide +kernel
theorem dX2_isState_11 : decode cX2_isState 11 = .ok (.goto 4, 3) := by decide +kernel
theorem dX2_isState_14 : decode cX2_isState 14 = .ok (.iconst 0, 1) := by decide +kernel
theorem dX2_isState_15 : decode cX2_isState 15 = .ok (.ireturn, 1) := by decide +kernel
theorem dX2_isEvent_0 : decode cX2_isEvent 0 = .ok (.iload_n 0, 1) := by decide +kernel
theorem dX2_isEvent_1 : decode cX2_isEvent 1 = .ok (.ifCond .lt 12, 3) := by decide +kernel
theorem dX2_isEvent_4 : decode cX2_isEvent 4 = .ok (.iload_n 0, 1) := by decide +kernel
theorem dX2_isEvent_5 : decode cX2_isEvent 5 = .ok (.iconst 4, 1) := by decide +kernel
theorem dX2_isEvent_6 : decode cX2_isEvent 6 = .ok (.if_icmp .ge 7, 3) := by decide +kernel
theorem dX2_isEvent_9 : decode cX2_isEvent 9 = .ok (.iconst 1, 1) := by decide +kernel
theorem dX2_isEvent_10 : decode cX2_isEvent 10 = .ok (.goto 4, 3) := by decide +kernel
theorem dX2_isEvent_13 : decode cX2_isEvent 13 = .ok (.iconst 0, 1) := by decide +kernel
theorem dX2_isEvent_14 : decode cX2_isEvent 14 = .ok (.ireturn, 1) := by decide +kernel
theorem dX2_lead_0 : decode cX2_lead 0 = .ok (.iload_n 1, 1) := by decide +kernel
theorem dX2_lead_1 : decode cX2_lead 1 = .ok (.invokestatic 22, 3) := by decide +kernel
theorem dX2_lead_4 : decode cX2_lead 4 = .ok (.ifCond .eq 17, 3) := by decide +kernel
theorem dX2_lead_7 : decode cX2_lead 7 = .ok (.iload_n 2, 1) := by decide +kernel
theorem dX2_lead_8 : decode cX2_lead 8 = .ok (.invokestatic 26, 3) := by decide +kernel
theorem dX2_lead_11 : decode cX2_lead 11 = .ok (.ifCond .eq 10, 3) := by decide +kernel
theorem dX2_lead_14 : decode cX2_lead 14 = .ok (.iload_n 3, 1) := by decide +kernel
theorem dX2_lead_15 : decode cX2_lead 15 = .ok (.invokestatic 22, 3) := by decide +kernel
theorem dX2_lead_18 : decode cX2_lead 18 = .ok (.ifCond .ne 5, 3) := by decide +kernel
theorem dX2_lead_21 : decode cX2_lead 21 = .ok (.iconst 0, 1) := by decide +kernel
theorem dX2_lead_22 : decode cX2_lead 22 = .ok (.ireturn, 1) := by decide +kernel
theorem dX2_lead_23 : decode cX2_lead 23 = .ok (.aload_n 0, 1) := by decide +kernel
theorem dX2_lead_24 : decode cX2_lead 24 = .ok (.getfield 11, 3) := by decide +kernel
theorem dX2_lead_27 : decode cX2_lead 27 = .ok (.iload_n 1, 1) := by decide +kernel
theorem dX2_lead_28 : decode cX2_lead 28 = .ok (.iconst 4, 1) := by decide +kernel
theorem dX2_lead_29 : decode cX2_lead 29 = .ok (.imul, 1) := by decide +kernel
theorem dX2_lead_30 : decode cX2_lead 30 = .ok (.iload_n 2, 1) := by decide +kernel
theorem dX2_lead_31 : decode cX2_lead 31 = .ok (.iadd, 1) := by decide +kernel
theorem dX2_lead_32 : decode cX2_lead 32 = .ok (.iload_n 3, 1) := by decide +kernel
theorem dX2_lead_33 : decode cX2_lead 33 = .ok (.iastore, 1) := by decide +kernel
theorem dX2_lead_34 : decode cX2_lead 34 = .ok (.iconst 1, 1) := by decide +kernel
theorem dX2_lead_35 : decode cX2_lead 35 = .ok (.ireturn, 1) := by decide +kernel
theorem dX2_equip_0 : decode cX2_equip 0 = .ok (.iload_n 1, 1) := by decide +kernel
theorem dX2_equip_1 : decode cX2_equip 1 = .ok (.invokestatic 22, 3) := by decide +kernel
theorem dX2_equip_4 : decode cX2_equip 4 = .ok (.ifCond .ne 5, 3) := by decide +kernel
theorem dX2_equip_7 : decode cX2_equip 7 = .ok (.iconst 0, 1) := by decide +kernel
theorem dX2_equip_8 : decode cX2_equip 8 = .ok (.ireturn, 1) := by decide +kernel
theorem dX2_equip_9 : decode cX2_equip 9 = .ok (.aload_n 0, 1) := by decide +kernel
theorem dX2_equip_10 : decode cX2_equip 10 = .ok (.getfield 15, 3) := by decide +kernel
theorem dX2_equip_13 : decode cX2_equip 13 = .ok (.iload_n 1, 1) := by decide +kernel
theorem dX2_equip_14 : decode cX2_equip 14 = .ok (.iload_n 2, 1) := by decide +kernel
theorem dX2_equip_15 : decode cX2_equip 15 = .ok (.bastore, 1) := by decide +kernel
theorem dX2_equip_16 : decode cX2_equip 16 = .ok (.aload_n 0, 1) := by decide +kernel
theorem dX2_equip_17 : decode cX2_equip 17 = .ok (.getfield 19, 3) := by decide +kernel
theorem dX2_equip_20 : decode cX2_equip 20 = .ok (.iload_n 1, 1) := by decide +kernel
theorem dX2_equip_21 : decode cX2_equip 21 = .ok (.iload_n 3, 1) := by decide +kernel
theorem dX2_equip_22 : decode cX2_equip 22 = .ok (.bastore, 1) := by decide +kernel
theorem dX2_equip_23 : decode cX2_equip 23 = .ok (.iconst 1, 1) := by decide +kernel
theorem dX2_equip_24 : decode cX2_equip 24 = .ok (.ireturn, 1) := by decide +kernel
theorem dX2_after_0 : decode cX2_after 0 = .ok (.iload_n 1, 1) := by decide +kernel
theorem dX2_after_1 : decode cX2_after 1 = .ok (.invokestatic 22, 3) := by decide +kernel
theorem dX2_after_4 : decode cX2_after 4 = .ok (.ifCond .eq 23, 3) := by decide +kernel
theorem dX2_after_7 : decode cX2_after 7 = .ok (.iload_n 2, 1) := by decide +kernel
theorem dX2_after_8 : decode cX2_after 8 = .ok (.invokestatic 26, 3) := by decide +kernel
theorem dX2_after_11 : decode cX2_after 11 = .ok (.ifCond .eq 16, 3) := by decide +kernel
theorem dX2_after_14 : decode cX2_after 14 = .ok (.aload_n 0, 1) := by decide +kernel
theorem dX2_after_15 : decode cX2_after 15 = .ok (.getfield 11, 3) := by decide +kernel
theorem dX2_after_18 : decode cX2_after 18 = .ok (.iload_n 1, 1) := by decide +kernel
theorem dX2_after_19 : decode cX2_after 19 = .ok (.iconst 4, 1) := by decide +kernel
theorem dX2_after_20 : decode cX2_after 20 = .ok (.imul, 1) := by decide +kernel
theorem dX2_after_21 : decode cX2_after 21 = .ok (.iload_n 2, 1) := by decide +kernel
theorem dX2_after_22 : decode cX2_after 22 = .ok (.iadd, 1) := by decide +kernel
theorem dX2_after_23 : decode cX2_after 23 = .ok (.iaload, 1) := by decide +kernel
theorem dX2_after_24 : decode cX2_after 24 = .ok (.goto 4, 3) := by decide +kernel
theorem dX2_after_27 : decode cX2_after 27 = .ok (.iconst (-1), 1) := by decide +kernel
theorem dX2_after_28 : decode cX2_after 28 = .ok (.ireturn, 1) := by decide +kernel
theorem dX2_feeds_0 : decode cX2_feeds 0 = .ok (.iload_n 1, 1) := by decide +kernel
theorem dX2_feeds_1 : decode cX2_feeds 1 = .ok (.invokestatic 22, 3) := by decide +kernel
theorem dX2_feeds_4 : decode cX2_feeds 4 = .ok (.ifCond .eq 16, 3) := by decide +kernel
theorem dX2_feeds_7 : decode cX2_feeds 7 = .ok (.aload_n 0, 1) := by decide +kernel
theorem dX2_feeds_8 : decode cX2_feeds 8 = .ok (.getfield 15, 3) := by decide +kernel
theorem dX2_feeds_11 : decode cX2_feeds 11 = .ok (.iload_n 1, 1) := by decide +kernel
theorem dX2_feeds_12 : decode cX2_feeds 12 = .ok (.baload, 1) := by decide +kernel
theorem dX2_feeds_13 : decode cX2_feeds 13 = .ok (.ifCond .eq 7, 3) := by decide +kernel
theorem dX2_feeds_16 : decode cX2_feeds 16 = .ok (.iconst 1, 1) := by decide +kernel
theorem dX2_feeds_17 : decode cX2_feeds 17 = .ok (.goto 4, 3) := by decide +kernel
theorem dX2_feeds_20 : decode cX2_feeds 20 = .ok (.iconst 0, 1) := by decide +kernel
theorem dX2_feeds_21 : decode cX2_feeds 21 = .ok (.ireturn, 1) := by decide +kernel
theorem dX2_waters_0 : decode cX2_waters 0 = .ok (.iload_n 1, 1) := by decide +kernel
theorem dX2_waters_1 : decode cX2_waters 1 = .ok (.invokestatic 22, 3) := by decide +kernel
theorem dX2_waters_4 : decode cX2_waters 4 = .ok (.ifCond .eq 16, 3) := by decide +kernel
theorem dX2_waters_7 : decode cX2_waters 7 = .ok (.aload_n 0, 1) := by decide +kernel
theorem dX2_waters_8 : decode cX2_waters 8 = .ok (.getfield 19, 3) := by decide +kernel
theorem dX2_waters_11 : decode cX2_waters 11 = .ok (.iload_n 1, 1) := by decide +kernel
theorem dX2_waters_12 : decode cX2_waters 12 = .ok (.baload, 1) := by decide +kernel
theorem dX2_waters_13 : decode cX2_waters 13 = .ok (.ifCond .eq 7, 3) := by decide +kernel
theorem dX2_waters_16 : decode cX2_waters 16 = .ok (.iconst 1, 1) := by decide +kernel
theorem dX2_waters_17 : decode cX2_waters 17 = .ok (.goto 4, 3) := by decide +kernel
theorem dX2_waters_20 : decode cX2_waters 20 = .ok (.iconst 0, 1) := by decide +kernel
theorem dX2_waters_21 : decode cX2_waters 21 = .ok (.ireturn, 1) := by decide +kernel
theorem dX2_copyFrom_0 : decode cX2_copyFrom 0 = .ok (.aload_n 1, 1) := by decide +kernel
theorem dX2_copyFrom_1 : decode cX2_copyFrom 1 = .ok (.getfield 11, 3) := by decide +kernel
theorem dX2_copyFrom_4 : decode cX2_copyFrom 4 = .ok (.iconst 0, 1) := by decide +kernel
theorem dX2_copyFrom_5 : decode cX2_copyFrom 5 = .ok (.aload_n 0, 1) := by decide +kernel
theorem dX2_copyFrom_6 : decode cX2_copyFrom 6 = .ok (.getfield 11, 3) := by decide +kernel
theorem dX2_copyFrom_9 : decode cX2_copyFrom 9 = .ok (.iconst 0, 1) := by decide +kernel
theorem dX2_copyFrom_10 : decode cX2_copyFrom 10 = .ok (.bipush 32, 2) := by decide +kernel
theorem dX2_copyFrom_12 : decode cX2_copyFrom 12 = .ok (.invokestatic 29, 3) := by decide +kernel
theorem dX2_copyFrom_15 : decode cX2_copyFrom 15 = .ok (.iconst 0, 1) := by decide +kernel
theorem dX2_copyFrom_16 : decode cX2_copyFrom 16 = .ok (.istore_n 2, 1) := by decide +kernel
theorem dX2_copyFrom_17 : decode cX2_copyFrom 17 = .ok (.iload_n 2, 1) := by decide +kernel
theorem dX2_copyFrom_18 : decode cX2_copyFrom 18 = .ok (.bipush 8, 2) := by decide +kernel
theorem dX2_copyFrom_20 : decode cX2_copyFrom 20 = .ok (.if_icmp .ge 33, 3) := by decide +kernel
theorem dX2_copyFrom_23 : decode cX2_copyFrom 23 = .ok (.aload_n 0, 1) := by decide +kernel
theorem dX2_copyFrom_24 : decode cX2_copyFrom 24 = .ok (.getfield 15, 3) := by decide +kernel
theorem dX2_copyFrom_27 : decode cX2_copyFrom 27 = .ok (.iload_n 2, 1) := by decide +kernel
theorem dX2_copyFrom_28 : decode cX2_copyFrom 28 = .ok (.aload_n 1, 1) := by decide +kernel
theorem dX2_copyFrom_29 : decode cX2_copyFrom 29 = .ok (.getfield 15, 3) := by decide +kernel
theorem dX2_copyFrom_32 : decode cX2_copyFrom 32 = .ok (.iload_n 2, 1) := by decide +kernel
theorem dX2_copyFrom_33 : decode cX2_copyFrom 33 = .ok (.baload, 1) := by decide +kernel
theorem dX2_copyFrom_34 : decode cX2_copyFrom 34 = .ok (.bastore, 1) := by decide +kernel
theorem dX2_copyFrom_35 : decode cX2_copyFrom 35 = .ok (.aload_n 0, 1) := by decide +kernel
theorem dX2_copyFrom_36 : decode cX2_copyFrom 36 = .ok (.getfield 19, 3) := by decide +kernel
theorem dX2_copyFrom_39 : decode cX2_copyFrom 39 = .ok (.iload_n 2, 1) := by decide +kernel
theorem dX2_copyFrom_40 : decode cX2_copyFrom 40 = .ok (.aload_n 1, 1) := by decide +kernel
theorem dX2_copyFrom_41 : decode cX2_copyFrom 41 = .ok (.getfield 19, 3) := by decide +kernel
theorem dX2_copyFrom_44 : decode cX2_copyFrom 44 = .ok (.iload_n 2, 1) := by decide +kernel
theorem dX2_copyFrom_45 : decode cX2_copyFrom 45 = .ok (.baload, 1) := by decide +kernel
theorem dX2_copyFrom_46 : decode cX2_copyFrom 46 = .ok (.bastore, 1) := by decide +kernel
theorem dX2_copyFrom_47 : decode cX2_copyFrom 47 = .ok (.iinc 2 1, 3) := by decide +kernel
theorem dX2_copyFrom_50 : decode cX2_copyFrom 50 = .ok (.goto (-33), 3) := by decide +kernel
theorem dX2_copyFrom_53 : decode cX2_copyFrom 53 = .ok (.return_, 1) := by decide +kernel
theorem dX3_init_0 : decode cX3_init 0 = .ok (.aload_n 0, 1) := by decide +kernel
theorem dX3_init_1 : decode cX3_init 1 = .ok (.invokespecial 3, 3) := by decide +kernel
theorem dX3_init_4 : decode cX3_init 4 = .ok (.aload_n 0, 1) := by decide +kernel
theorem dX3_init_5 : decode cX3_init 5 = .ok (.bipush 11, 2) := by decide +kernel
theorem dX3_init_7 : decode cX3_init 7 = .ok (.newarray .int, 2) := by decide +kernel
theorem dX3_init_9 : decode cX3_init 9 = .ok (.putfield 11, 3) := by decide +kernel
theorem dX3_init_12 : decode cX3_init 12 = .ok (.aload_n 0, 1) := by decide +kernel
theorem dX3_init_13 : decode cX3_init 13 = .ok (.bipush 11, 2) := by decide +kernel
theorem dX3_init_15 : decode cX3_init 15 = .ok (.newarray .int, 2) := by decide +kernel
theorem dX3_init_17 : decode cX3_init 17 = .ok (.putfield 15, 3) := by decide +kernel
theorem dX3_init_20 : decode cX3_init 20 = .ok (.aload_n 0, 1) := by decide +kernel
theorem dX3_init_21 : decode cX3_init 21 = .ok (.bipush 9, 2) := by decide +kernel
theorem dX3_init_23 : decode cX3_init 23 = .ok (.newarray .int, 2) := by decide +kernel
theorem dX3_init_25 : decode cX3_init 25 = .ok (.putfield 18, 3) := by decide +kernel
theorem dX3_init_28 : decode cX3_init 28 = .ok (.return_, 1) := by decide +kernel
theorem dX3_begin_0 : decode cX3_begin 0 = .ok (.aload_n 0, 1) := by decide +kernel
theorem dX3_begin_1 : decode cX3_begin 1 = .ok (.getfield 11, 3) := by decide +kernel
theorem dX3_begin_4 : decode cX3_begin 4 = .ok (.iconst 0, 1) := by decide +kernel
theorem dX3_begin_5 : decode cX3_begin 5 = .ok (.bipush 100, 2) := by decide +kernel
theorem dX3_begin_7 : decode cX3_begin 7 = .ok (.iload_n 1, 1) := by decide +kernel
theorem dX3_begin_8 : decode cX3_begin 8 = .ok (.imul, 1) := by decide +kernel
theorem dX3_begin_9 : decode cX3_begin 9 = .ok (.iastore, 1) := by decide +kernel
theorem dX3_begin_10 : decode cX3_begin 10 = .ok (.aload_n 0, 1) := by decide +kernel
theorem dX3_begin_11 : decode cX3_begin 11 = .ok (.getfield 11, 3) := by decide +kernel
theorem dX3_begin_14 : decode cX3_begin 14 = .ok (.bipush 10, 2) := by decide +kernel
theorem dX3_begin_16 : decode cX3_begin 16 = .ok (.bipush 100, 2) := by decide +kernel
theorem dX3_begin_18 : decode cX3_begin 18 = .ok (.iload_n 1, 1) := by decide +kernel
theorem dX3_begin_19 : decode cX3_begin 19 = .ok (.imul, 1) := by decide +kernel
theorem dX3_begin_20 : decode cX3_begin 20 = .ok (.iastore, 1) := by decide +kernel
theorem dX3_begin_21 : decode cX3_begin 21 = .ok (.iconst 0, 1) := by decide +kernel
theorem dX3_begin_22 : decode cX3_begin 22 = .ok (.istore_n 2, 1) := by decide +kernel
theorem dX3_begin_23 : decode cX3_begin 23 = .ok (.iload_n 2, 1) := by decide +kernel
theorem dX3_begin_24 : decode cX3_begin 24 = .ok (.bipush 9, 2) := by decide +kernel
theorem dX3_begin_26 : decode cX3_begin 26 = .ok (.if_icmp .ge 27, 3) := by decide +kernel
theorem dX3_begin_29 : decode cX3_begin 29 = .ok (.aload_n 0, 1) := by decide +kernel
theorem dX3_begin_30 : decode cX3_begin 30 = .ok (.getfield 11, 3) := by decide +kernel
theorem dX3_begin_33 : decode cX3_begin 33 = .ok (.iload_n 2, 1) := by decide +kernel
theorem dX3_begin_34 : decode cX3_begin 34 = .ok (.iconst 1, 1) := by decide +kernel
theorem dX3_begin_35 : decode cX3_begin 35 = .ok (.iadd, 1) := by decide +kernel
theorem dX3_begin_36 : decode cX3_begin 36 = .ok (.sipush 2000, 3) := by decide +kernel
theorem dX3_begin_39 : decode cX3_begin 39 = .ok (.iastore, 1) := by decide +kernel
theorem dX3_begin_40 : decode cX3_begin 40 = .ok (.aload_n 0, 1) := by decide +kernel
theorem dX3_begin_41 : decode cX3_begin 41 = .ok (.getfield 18, 3) := by decide +kernel
theorem dX3_begin_44 : decode cX3_begin 44 = .ok (.iload_n 2, 1) := by decide +kernel
theorem dX3_begin_45 : decode cX3_begin 45 = .ok (.iconst 0, 1) := by decide +kernel
theorem dX3_begin_46 : decode cX3_begin 46 = .ok (.iastore, 1) := by decide +kernel
theorem dX3_begin_47 : decode cX3_begin 47 = .ok (.iinc 2 1, 3) := by decide +kernel
theorem dX3_begin_50 : decode cX3_begin 50 = .ok (.goto (-27), 3) := by decide +kernel
theorem dX3_begin_53 : decode cX3_begin 53 = .ok (.return_, 1) := by decide +kernel
theorem dX3_tick_0 : decode cX3_tick 0 = .ok (.aload_n 0, 1) := by decide +kernel
theorem dX3_tick_1 : decode cX3_tick 1 = .ok (.getfield 11, 3) := by decide +kernel
theorem dX3_tick_4 : decode cX3_tick 4 = .ok (.iconst 0, 1) := by decide +kernel
theorem dX3_tick_5 : decode cX3_tick 5 = .ok (.aload_n 0, 1) := by decide +kernel
theorem dX3_tick_6 : decode cX3_tick 6 = .ok (.getfield 15, 3) := by decide +kernel
theorem dX3_tick_9 : decode cX3_tick 9 = .ok (.iconst 0, 1) := by decide +kernel
theorem dX3_tick_10 : decode cX3_tick 10 = .ok (.bipush 11, 2) := by decide +kernel
theorem dX3_tick_12 : decode cX3_tick 12 = .ok (.invokestatic 21, 3) := by decide +kernel
theorem dX3_tick_15 : decode cX3_tick 15 = .ok (.iconst 0, 1) := by decide +kernel
theorem dX3_tick_16 : decode cX3_tick 16 = .ok (.istore_n 1, 1) := by decide +kernel
theorem dX3_tick_17 : decode cX3_tick 17 = .ok (.iload_n 1, 1) := by decide +kernel
theorem dX3_tick_18 : decode cX3_tick 18 = .ok (.bipush 9, 2) := by decide +kernel
theorem dX3_tick_20 : decode cX3_tick 20 = .ok (.if_icmp .ge 76, 3) := by decide +kernel
theorem dX3_tick_23 : decode cX3_tick 23 = .ok (.aload_n 0, 1) := by decide +kernel
theorem dX3_tick_24 : decode cX3_tick 24 = .ok (.getfield 15, 3) := by decide +kernel
theorem dX3_tick_27 : decode cX3_tick 27 = .ok (.iload_n 1, 1) := by decide +kernel
theorem dX3_tick_28 : decode cX3_tick 28 = .ok (.iconst 1, 1) := by decide +kernel
theorem dX3_tick_29 : decode cX3_tick 29 = .ok (.iadd, 1) := by decide +kernel
theorem dX3_tick_30 : decode cX3_tick 30 = .ok (.iaload, 1) := by decide +kernel
theorem dX3_tick_31 : decode cX3_tick 31 = .ok (.istore_n 2, 1) := by decide +kernel
theorem dX3_tick_32 : decode cX3_tick 32 = .ok (.iload_n 2, 1) := by decide +kernel
theorem dX3_tick_33 : decode cX3_tick 33 = .ok (.aload_n 0, 1) := by decide +kernel
theorem dX3_tick_34 : decode cX3_tick 34 = .ok (.getfield 15, 3) := by decide +kernel
theorem dX3_tick_37 : decode cX3_tick 37 = .ok (.iload_n 1, 1) := by decide +kernel
theorem dX3_tick_38 : decode cX3_tick 38 = .ok (.iaload, 1) := by decide +kernel
theorem dX3_tick_39 : decode cX3_tick 39 = .ok (.aload_n 0, 1) := by decide +kernel
theorem dX3_tick_40 : decode cX3_tick 40 = .ok (.getfield 15, 3) := by decide +kernel
theorem dX3_tick_43 : decode cX3_tick 43 = .ok (.iload_n 1, 1) := by decide +kernel
theorem dX3_tick_44 : decode cX3_tick 44 = .ok (.iconst 2, 1) := by decide +kernel
theorem dX3_tick_45 : decode cX3_tick 45 = .ok (.iadd, 1) := by decide +kernel
theorem dX3_tick_46 : decode cX3_tick 46 = .ok (.iaload, 1) := by decide +kernel
theorem dX3_tick_47 : decode cX3_tick 47 = .ok (.iadd, 1) := by decide +kernel
theorem dX3_tick_48 : decode cX3_tick 48 = .ok (.iconst 2, 1) := by decide +kernel
theorem dX3_tick_49 : decode cX3_tick 49 = .ok (.iload_n 2, 1) := by decide +kernel
theorem dX3_tick_50 : decode cX3_tick 50 = .ok (.imul, 1) := by decide +kernel
theorem dX3_tick_51 : decode cX3_tick 51 = .ok (.isub, 1) := by decide +kernel
theorem dX3_tick_52 : decode cX3_tick 52 = .ok (.bipush 8, 2) := by decide +kernel
theorem dX3_tick_54 : decode cX3_tick 54 = .ok (.idiv, 1) := by decide +kernel
theorem dX3_tick_55 : decode cX3_tick 55 = .ok (.iadd, 1) := by decide +kernel
theorem dX3_tick_56 : decode cX3_tick 56 = .ok (.istore_n 3, 1) := by decide +kernel
theorem dX3_tick_57 : decode cX3_tick 57 = .ok (.aload_n 0, 1) := by decide +kernel
theorem dX3_tick_58 : decode cX3_tick 58 = .ok (.getfield 11, 3) := by decide +kernel
theorem dX3_tick_61 : decode cX3_tick 61 = .ok (.iload_n 1, 1) := by decide +kernel
theorem dX3_tick_62 : decode cX3_tick 62 = .ok (.iconst 1, 1) := by decide +kernel
theorem dX3_tick_63 : decode cX3_tick 63 = .ok (.iadd, 1) := by decide +kernel
theorem dX3_tick_64 : decode cX3_tick 64 = .ok (.iload_n 3, 1) := by decide +kernel
theorem dX3_tick_65 : decode cX3_tick 65 = .ok (.iastore, 1) := by decide +kernel
theorem dX3_tick_66 : decode cX3_tick 66 = .ok (.iload_n 3, 1) := by decide +kernel
theorem dX3_tick_67 : decode cX3_tick 67 = .ok (.sipush 8000, 3) := by decide +kernel
theorem dX3_tick_70 : decode cX3_tick 70 = .ok (.if_icmp .le 20, 3) := by decide +kernel
theorem dX3_tick_73 : decode cX3_tick 73 = .ok (.aload_n 0, 1) := by decide +kernel
theorem dX3_tick_74 : decode cX3_tick 74 = .ok (.getfield 18, 3) := by decide +kernel
theorem dX3_tick_77 : decode cX3_tick 77 = .ok (.iload_n 1, 1) := by decide +kernel
theorem dX3_tick_78 : decode cX3_tick 78 = .ok (.dup2, 1) := by decide +kernel
theorem dX3_tick_79 : decode cX3_tick 79 = .ok (.iaload, 1) := by decide +kernel
theorem dX3_tick_80 : decode cX3_tick 80 = .ok (.iload_n 3, 1) := by decide +kernel
theorem dX3_tick_81 : decode cX3_tick 81 = .ok (.sipush 8000, 3) := by decide +kernel
theorem dX3_tick_84 : decode cX3_tick 84 = .ok (.isub, 1) := by decide +kernel
theorem dX3_tick_85 : decode cX3_tick 85 = .ok (.bipush 100, 2) := by decide +kernel
theorem dX3_tick_87 : decode cX3_tick 87 = .ok (.idiv, 1) := by decide +kernel
theorem dX3_tick_88 : decode cX3_tick 88 = .ok (.iadd, 1) := by decide +kernel
theorem dX3_tick_89 : decode cX3_tick 89 = .ok (.iastore, 1) := by decide +kernel
theorem dX3_tick_90 : decode cX3_tick 90 = .ok (.iinc 1 1, 3) := by decide +kernel
theorem dX3_tick_93 : decode cX3_tick 93 = .ok (.goto (-76), 3) := by decide +kernel
theorem dX3_tick_96 : decode cX3_tick 96 = .ok (.return_, 1) := by decide +kernel
theorem dX3_mayOpen_0 : decode cX3_mayOpen 0 = .ok (.iconst 0, 1) := by decide +kernel
theorem dX3_mayOpen_1 : decode cX3_mayOpen 1 = .ok (.istore_n 3, 1) := by decide +kernel
theorem dX3_mayOpen_2 : decode cX3_mayOpen 2 = .ok (.iload_n 3, 1) := by decide +kernel
theorem dX3_mayOpen_3 : decode cX3_mayOpen 3 = .ok (.bipush 9, 2) := by decide +kernel
theorem dX3_mayOpen_5 : decode cX3_mayOpen 5 = .ok (.if_icmp .ge 36, 3) := by decide +kernel
theorem dX3_mayOpen_8 : decode cX3_mayOpen 8 = .ok (.aload_n 0, 1) := by decide +kernel
theorem dX3_mayOpen_9 : decode cX3_mayOpen 9 = .ok (.getfield 18, 3) := by decide +kernel
theorem dX3_mayOpen_12 : decode cX3_mayOpen 12 = .ok (.iload_n 3, 1) := by decide +kernel
theorem dX3_mayOpen_13 : decode cX3_mayOpen 13 = .ok (.iaload, 1) := by decide +kernel
theorem dX3_mayOpen_14 : decode cX3_mayOpen 14 = .ok (.iload_n 1, 1) := by decide +kernel
theorem dX3_mayOpen_15 : decode cX3_mayOpen 15 = .ok (.if_icmp .lt 18, 3) := by decide +kernel
theorem dX3_mayOpen_18 : decode cX3_mayOpen 18 = .ok (.aload_n 0, 1) := by decide +kernel
theorem dX3_mayOpen_19 : decode cX3_mayOpen 19 = .ok (.iload_n 3, 1) := by decide +kernel
theorem dX3_mayOpen_20 : decode cX3_mayOpen 20 = .ok (.iload_n 2, 1) := by decide +kernel
theorem dX3_mayOpen_21 : decode cX3_mayOpen 21 = .ok (.invokevirtual 27, 3) := by decide +kernel
theorem dX3_mayOpen_24 : decode cX3_mayOpen 24 = .ok (.aload_n 0, 1) := by decide +kernel
theorem dX3_mayOpen_25 : decode cX3_mayOpen 25 = .ok (.getfield 18, 3) := by decide +kernel
theorem dX3_mayOpen_28 : decode cX3_mayOpen 28 = .ok (.iload_n 3, 1) := by decide +kernel
theorem dX3_mayOpen_29 : decode cX3_mayOpen 29 = .ok (.iaload, 1) := by decide +kernel
theorem dX3_mayOpen_30 : decode cX3_mayOpen 30 = .ok (.if_icmp .le 5, 3) := by decide +kernel
theorem dX3_mayOpen_33 : decode cX3_mayOpen 33 = .ok (.iconst 0, 1) := by decide +kernel
theorem dX3_mayOpen_34 : decode cX3_mayOpen 34 = .ok (.ireturn, 1) := by decide +kernel
theorem dX3_mayOpen_35 : decode cX3_mayOpen 35 = .ok (.iinc 3 1, 3) := by decide +kernel
theorem dX3_mayOpen_38 : decode cX3_mayOpen 38 = .ok (.goto (-36), 3) := by decide +kernel
theorem dX3_mayOpen_41 : decode cX3_mayOpen 41 = .ok (.iconst 1, 1) := by decide +kernel
theorem dX3_mayOpen_42 : decode cX3_mayOpen 42 = .ok (.ireturn, 1) := by decide +kernel
theorem dX3_heatOf_0 : decode cX3_heatOf 0 = .ok (.iload_n 1, 1) := by decide +kernel
theorem dX3_heatOf_1 : decode cX3_heatOf 1 = .ok (.ifCond .lt 20, 3) := by decide +kernel
theorem dX3_heatOf_4 : decode cX3_heatOf 4 = .ok (.iload_n 1, 1) := by decide +kernel
theorem dX3_heatOf_5 : decode cX3_heatOf 5 = .ok (.bipush 9, 2) := by decide +kernel
theorem dX3_heatOf_7 : decode cX3_heatOf 7 = .ok (.if_icmp .ge 14, 3) := by decide +kernel
theorem dX3_heatOf_10 : decode cX3_heatOf 10 = .ok (.aload_n 0, 1) := by decide +kernel
theorem dX3_heatOf_11 : decode cX3_heatOf 11 = .ok (.getfield 11, 3) := by decide +kernel
theorem dX3_heatOf_14 : decode cX3_heatOf 14 = .ok (.iload_n 1, 1) := by decide +kernel
theorem dX3_heatOf_15 : decode cX3_heatOf 15 = .ok (.iconst 1, 1) := by decide +kernel
theorem dX3_heatOf_16 : decode cX3_heatOf 16 = .ok (.iadd, 1) := by decide +kernel
theorem dX3_heatOf_17 : decode cX3_heatOf 17 = .ok (.iaload, 1) := by decide +kernel
theorem dX3_heatOf_18 : decode cX3_heatOf 18 = .ok (.goto 4, 3) := by decide +kernel
theorem dX3_heatOf_21 : decode cX3_heatOf 21 = .ok (.iconst (-1), 1) := by decide +kernel
theorem dX3_heatOf_22 : decode cX3_heatOf 22 = .ok (.ireturn, 1) := by decide +kernel
theorem dX3_cureOf_0 : decode cX3_cureOf 0 = .ok (.iload_n 1, 1) := by decide +kernel
theorem dX3_cureOf_1 : decode cX3_cureOf 1 = .ok (.ifCond .lt 18, 3) := by decide +kernel
theorem dX3_cureOf_4 : decode cX3_cureOf 4 = .ok (.iload_n 1, 1) := by decide +kernel
theorem dX3_cureOf_5 : decode cX3_cureOf 5 = .ok (.bipush 9, 2) := by decide +kernel
theorem dX3_cureOf_7 : decode cX3_cureOf 7 = .ok (.if_icmp .ge 12, 3) := by decide +kernel
theorem dX3_cureOf_10 : decode cX3_cureOf 10 = .ok (.aload_n 0, 1) := by decide +kernel
theorem dX3_cureOf_11 : decode cX3_cureOf 11 = .ok (.getfield 18, 3) := by decide +kernel
theorem dX3_cureOf_14 : decode cX3_cureOf 14 = .ok (.iload_n 1, 1) := by decide +kernel
theorem dX3_cureOf_15 : decode cX3_cureOf 15 = .ok (.iaload, 1) := by decide +kernel
theorem dX3_cureOf_16 : decode cX3_cureOf 16 = .ok (.goto 4, 3) := by decide +kernel
theorem dX3_cureOf_19 : decode cX3_cureOf 19 = .ok (.iconst (-1), 1) := by decide +kernel
theorem dX3_cureOf_20 : decode cX3_cureOf 20 = .ok (.ireturn, 1) := by decide +kernel
theorem dX3_steamOf_0 : decode cX3_steamOf 0 = .ok (.iload_n 1, 1) := by decide +kernel
theorem dX3_steamOf_1 : decode cX3_steamOf 1 = .ok (.ifCond .lt 9, 3) := by decide +kernel
theorem dX3_steamOf_4 : decode cX3_steamOf 4 = .ok (.iload_n 1, 1) := by decide +kernel
theorem dX3_steamOf_5 : decode cX3_steamOf 5 = .ok (.bipush 9, 2) := by decide +kernel
theorem dX3_steamOf_7 : decode cX3_steamOf 7 = .ok (.if_icmp .lt 5, 3) := by decide +kernel
theorem dX3_steamOf_10 : decode cX3_steamOf 10 = .ok (.iconst (-1), 1) := by decide +kernel
theorem dX3_steamOf_11 : decode cX3_steamOf 11 = .ok (.ireturn, 1) := by decide +kernel
theorem dX3_steamOf_12 : decode cX3_steamOf 12 = .ok (.aload_n 0, 1) := by decide +kernel
theorem dX3_steamOf_13 : decode cX3_steamOf 13 = .ok (.getfield 11, 3) := by decide +kernel
theorem dX3_steamOf_16 : decode cX3_steamOf 16 = .ok (.iload_n 1, 1) := by decide +kernel
theorem dX3_steamOf_17 : decode cX3_steamOf 17 = .ok (.iconst 1, 1) := by decide +kernel
theorem dX3_steamOf_18 : decode cX3_steamOf 18 = .ok (.iadd, 1) := by decide +kernel
theorem dX3_steamOf_19 : decode cX3_steamOf 19 = .ok (.iaload, 1) := by decide +kernel
theorem dX3_steamOf_20 : decode cX3_steamOf 20 = .ok (.sipush 10000, 3) := by decide +kernel
theorem dX3_steamOf_23 : decode cX3_steamOf 23 = .ok (.isub, 1) := by decide +kernel
theorem dX3_steamOf_24 : decode cX3_steamOf 24 = .ok (.istore_n 3, 1) := by decide +kernel
theorem dX3_steamOf_25 : decode cX3_steamOf 25 = .ok (.iload_n 3, 1) := by decide +kernel
theorem dX3_steamOf_26 : decode cX3_steamOf 26 = .ok (.ifCond .le 12, 3) := by decide +kernel
theorem dX3_steamOf_29 : decode cX3_steamOf 29 = .ok (.iload_n 3, 1) := by decide +kernel
theorem dX3_steamOf_30 : decode cX3_steamOf 30 = .ok (.iload_n 2, 1) := by decide +kernel
theorem dX3_steamOf_31 : decode cX3_steamOf 31 = .ok (.imul, 1) := by decide +kernel
theorem dX3_steamOf_32 : decode cX3_steamOf 32 = .ok (.bipush 100, 2) := by decide +kernel
theorem dX3_steamOf_34 : decode cX3_steamOf 34 = .ok (.idiv, 1) := by decide +kernel
theorem dX3_steamOf_35 : decode cX3_steamOf 35 = .ok (.goto 4, 3) := by decide +kernel
theorem dX3_steamOf_38 : decode cX3_steamOf 38 = .ok (.iconst 0, 1) := by decide +kernel
theorem dX3_steamOf_39 : decode cX3_steamOf 39 = .ok (.ireturn, 1) := by decide +kernel
theorem dX4_init_0 : decode cX4_init 0 = .ok (.aload_n 0, 1) := by decide +kernel
theorem dX4_init_1 : decode cX4_init 1 = .ok (.invokespecial 3, 3) := by decide +kernel
theorem dX4_init_4 : decode cX4_init 4 = .ok (.aload_n 0, 1) := by decide +kernel
theorem dX4_init_5 : decode cX4_init 5 = .ok (.iconst 0, 1) := by decide +kernel
theorem dX4_init_6 : decode cX4_init 6 = .ok (.putfield 9, 3) := by decide +kernel
theorem dX4_init_9 : decode cX4_init 9 = .ok (.aload_n 0, 1) := by decide +kernel
theorem dX4_init_10 : decode cX4_init 10 = .ok (.bipush 8, 2) := by decide +kernel
theorem dX4_init_12 : decode cX4_init 12 = .ok (.newarray .int, 2) := by decide +kernel
theorem dX4_init_14 : decode cX4_init 14 = .ok (.putfield 15, 3) := by decide +kernel
theorem dX4_init_17 : decode cX4_init 17 = .ok (.return_, 1) := by decide +kernel
theorem dX4_add_0 : decode cX4_add 0 = .ok (.aload_n 0, 1) := by decide +kernel
theorem dX4_add_1 : decode cX4_add 1 = .ok (.getfield 9, 3) := by decide +kernel
theorem dX4_add_4 : decode cX4_add 4 = .ok (.bipush 8, 2) := by decide +kernel
theorem dX4_add_6 : decode cX4_add 6 = .ok (.if_icmp .ge 14, 3) := by decide +kernel
theorem dX4_add_9 : decode cX4_add 9 = .ok (.iload_n 1, 1) := by decide +kernel
theorem dX4_add_10 : decode cX4_add 10 = .ok (.iconst 1, 1) := by decide +kernel
theorem dX4_add_11 : decode cX4_add 11 = .ok (.if_icmp .lt 9, 3) := by decide +kernel
theorem dX4_add_14 : decode cX4_add 14 = .ok (.iload_n 1, 1) := by decide +kernel
theorem dX4_add_15 : decode cX4_add 15 = .ok (.ldc 19, 2) := by decide +kernel
theorem dX4_add_17 : decode cX4_add 17 = .ok (.if_icmp .le 5, 3) := by decide +kernel
theorem dX4_add_20 : decode cX4_add 20 = .ok (.iconst (-1), 1) := by decide +kernel
theorem dX4_add_21 : decode cX4_add 21 = .ok (.ireturn, 1) := by decide +kernel
theorem dX4_add_22 : decode cX4_add 22 = .ok (.aload_n 0, 1) := by decide +kernel
theorem dX4_add_23 : decode cX4_add 23 = .ok (.getfield 15, 3) := by decide +kernel
theorem dX4_add_26 : decode cX4_add 26 = .ok (.aload_n 0, 1) := by decide +kernel
theorem dX4_add_27 : decode cX4_add 27 = .ok (.getfield 9, 3) := by decide +kernel
theorem dX4_add_30 : decode cX4_add 30 = .ok (.iload_n 1, 1) := by decide +kernel
theorem dX4_add_31 : decode cX4_add 31 = .ok (.iastore, 1) := by decide +kernel
theorem dX4_add_32 : decode cX4_add 32 = .ok (.aload_n 0, 1) := by decide +kernel
theorem dX4_add_33 : decode cX4_add 33 = .ok (.dup, 1) := by decide +kernel
theorem dX4_add_34 : decode cX4_add 34 = .ok (.getfield 9, 3) := by decide +kernel
theorem dX4_add_37 : decode cX4_add 37 = .ok (.iconst 1, 1) := by decide +kernel
theorem dX4_add_38 : decode cX4_add 38 = .ok (.iadd, 1) := by decide +kernel
theorem dX4_add_39 : decode cX4_add 39 = .ok (.putfield 9, 3) := by decide +kernel
theorem dX4_add_42 : decode cX4_add 42 = .ok (.aload_n 0, 1) := by decide +kernel
theorem dX4_add_43 : decode cX4_add 43 = .ok (.getfield 9, 3) := by decide +kernel
theorem dX4_add_46 : decode cX4_add 46 = .ok (.iconst 1, 1) := by decide +kernel
theorem dX4_add_47 : decode cX4_add 47 = .ok (.isub, 1) := by decide +kernel
theorem dX4_add_48 : decode cX4_add 48 = .ok (.ireturn, 1) := by decide +kernel
theorem dX4_has_0 : decode cX4_has 0 = .ok (.iload_n 1, 1) := by decide +kernel
theorem dX4_has_1 : decode cX4_has 1 = .ok (.ifCond .lt 15, 3) := by decide +kernel
theorem dX4_has_4 : decode cX4_has 4 = .ok (.iload_n 1, 1) := by decide +kernel
theorem dX4_has_5 : decode cX4_has 5 = .ok (.aload_n 0, 1) := by decide +kernel
theorem dX4_has_6 : decode cX4_has 6 = .ok (.getfield 9, 3) := by decide +kernel
theorem dX4_has_9 : decode cX4_has 9 = .ok (.if_icmp .ge 7, 3) := by decide +kernel
theorem dX4_has_12 : decode cX4_has 12 = .ok (.iconst 1, 1) := by decide +kernel
theorem dX4_has_13 : decode cX4_has 13 = .ok (.goto 4, 3) := by decide +kernel
theorem dX4_has_16 : decode cX4_has 16 = .ok (.iconst 0, 1) := by decide +kernel
theorem dX4_has_17 : decode cX4_has 17 = .ok (.ireturn, 1) := by decide +kernel
theorem dX4_gramsOf_0 : decode cX4_gramsOf 0 = .ok (.aload_n 0, 1) := by decide +kernel
theorem dX4_gramsOf_1 : decode cX4_gramsOf 1 = .ok (.iload_n 1, 1) := by decide +kernel
theorem dX4_gramsOf_2 : decode cX4_gramsOf 2 = .ok (.invokevirtual 20, 3) := by decide +kernel
theorem dX4_gramsOf_5 : decode cX4_gramsOf 5 = .ok (.ifCond .eq 12, 3) := by decide +kernel
theorem dX4_gramsOf_8 : decode cX4_gramsOf 8 = .ok (.aload_n 0, 1) := by decide +kernel
theorem dX4_gramsOf_9 : decode cX4_gramsOf 9 = .ok (.getfield 15, 3) := by decide +kernel
theorem dX4_gramsOf_12 : decode cX4_gramsOf 12 = .ok (.iload_n 1, 1) := by decide +kernel
theorem dX4_gramsOf_13 : decode cX4_gramsOf 13 = .ok (.iaload, 1) := by decide +kernel
theorem dX4_gramsOf_14 : decode cX4_gramsOf 14 = .ok (.goto 4, 3) := by decide +kernel
theorem dX4_gramsOf_17 : decode cX4_gramsOf 17 = .ok (.iconst (-1), 1) := by decide +kernel
theorem dX4_gramsOf_18 : decode cX4_gramsOf 18 = .ok (.ireturn, 1) := by decide +kernel
theorem dX4_total_0 : decode cX4_total 0 = .ok (.iconst 0, 1) := by decide +kernel
theorem dX4_total_1 : decode cX4_total 1 = .ok (.istore_n 1, 1) := by decide +kernel
theorem dX4_total_2 : decode cX4_total 2 = .ok (.iconst 0, 1) := by decide +kernel
theorem dX4_total_3 : decode cX4_total 3 = .ok (.istore_n 2, 1) := by decide +kernel
theorem dX4_total_4 : decode cX4_total 4 = .ok (.iload_n 2, 1) := by decide +kernel
theorem dX4_total_5 : decode cX4_total 5 = .ok (.aload_n 0, 1) := by decide +kernel
theorem dX4_total_6 : decode cX4_total 6 = .ok (.getfield 9, 3) := by decide +kernel
theorem dX4_total_9 : decode cX4_total 9 = .ok (.if_icmp .ge 24, 3) := by decide +kernel
theorem dX4_total_12 : decode cX4_total 12 = .ok (.iload_n 2, 1) := by decide +kernel
theorem dX4_total_13 : decode cX4_total 13 = .ok (.bipush 8, 2) := by decide +kernel
theorem dX4_total_15 : decode cX4_total 15 = .ok (.if_icmp .ge 18, 3) := by decide +kernel
theorem dX4_total_18 : decode cX4_total 18 = .ok (.iload_n 1, 1) := by decide +kernel
theorem dX4_total_19 : decode cX4_total 19 = .ok (.aload_n 0, 1) := by decide +kernel
theorem dX4_total_20 : decode cX4_total 20 = .ok (.getfield 15, 3) := by decide +kernel
theorem dX4_total_23 : decode cX4_total 23 = .ok (.iload_n 2, 1) := by decide +kernel
theorem dX4_total_24 : decode cX4_total 24 = .ok (.iaload, 1) := by decide +kernel
theorem dX4_total_25 : decode cX4_total 25 = .ok (.iadd, 1) := by decide +kernel
theorem dX4_total_26 : decode cX4_total 26 = .ok (.istore_n 1, 1) := by decide +kernel
theorem dX4_total_27 : decode cX4_total 27 = .ok (.iinc 2 1, 3) := by decide +kernel
theorem dX4_total_30 : decode cX4_total 30 = .ok (.goto (-26), 3) := by decide +kernel
theorem dX4_total_33 : decode cX4_total 33 = .ok (.iload_n 1, 1) := by decide +kernel
theorem dX4_total_34 : decode cX4_total 34 = .ok (.ireturn, 1) := by decide +kernel
theorem dX4_draw_0 : decode cX4_draw 0 = .ok (.iconst 0, 1) := by decide +kernel
theorem dX4_draw_1 : decode cX4_draw 1 = .ok (.istore_n 2, 1) := by decide +kernel
theorem dX4_draw_2 : decode cX4_draw 2 = .ok (.iload_n 1, 1) := by decide +kernel
theorem dX4_draw_3 : decode cX4_draw 3 = .ok (.istore_n 3, 1) := by decide +kernel
theorem dX4_draw_4 : decode cX4_draw 4 = .ok (.iconst 0, 1) := by decide +kernel
theorem dX4_draw_5 : decode cX4_draw 5 = .ok (.istore 4, 2) := by decide +kernel
theorem dX4_draw_7 : decode cX4_draw 7 = .ok (.iload 4, 2) := by decide +kernel
theorem dX4_draw_9 : decode cX4_draw 9 = .ok (.aload_n 0, 1) := by decide +kernel
theorem dX4_draw_10 : decode cX4_draw 10 = .ok (.getfield 9, 3) := by decide +kernel
theorem dX4_draw_13 : decode cX4_draw 13 = .ok (.if_icmp .ge 58, 3) := by decide +kernel
theorem dX4_draw_16 : decode cX4_draw 16 = .ok (.iload 4, 2) := by decide +kernel
theorem dX4_draw_18 : decode cX4_draw 18 = .ok (.bipush 8, 2) := by decide +kernel
theorem dX4_draw_20 : decode cX4_draw 20 = .ok (.if_icmp .ge 51, 3) := by decide +kernel
theorem dX4_draw_23 : decode cX4_draw 23 = .ok (.iload_n 3, 1) := by decide +kernel
theorem dX4_draw_24 : decode cX4_draw 24 = .ok (.aload_n 0, 1) := by decide +kernel
theorem dX4_draw_25 : decode cX4_draw 25 = .ok (.getfield 15, 3) := by decide +kernel
theorem dX4_draw_28 : decode cX4_draw 28 = .ok (.iload 4, 2) := by decide +kernel
theorem dX4_draw_30 : decode cX4_draw 30 = .ok (.iaload, 1) := by decide +kernel
theorem dX4_draw_31 : decode cX4_draw 31 = .ok (.invokestatic 24, 3) := by decide +kernel
theorem dX4_draw_34 : decode cX4_draw 34 = .ok (.istore 5, 2) := by decide +kernel
theorem dX4_draw_36 : decode cX4_draw 36 = .ok (.iload 5, 2) := by decide +kernel
theorem dX4_draw_38 : decode cX4_draw 38 = .ok (.ifCond .le 27, 3) := by decide +kernel
theorem dX4_draw_41 : decode cX4_draw 41 = .ok (.aload_n 0, 1) := by decide +kernel
theorem dX4_draw_42 : decode cX4_draw 42 = .ok (.getfield 15, 3) := by decide +kernel
theorem dX4_draw_45 : decode cX4_draw 45 = .ok (.iload 4, 2) := by decide +kernel
theorem dX4_draw_47 : decode cX4_draw 47 = .ok (.dup2, 1) := by decide +kernel
theorem dX4_draw_48 : decode cX4_draw 48 = .ok (.iaload, 1) := by decide +kernel
theorem dX4_draw_49 : decode cX4_draw 49 = .ok (.iload 5, 2) := by decide +kernel
theorem dX4_draw_51 : decode cX4_draw 51 = .ok (.isub, 1) := by decide +kernel
theorem dX4_draw_52 : decode cX4_draw 52 = .ok (.iastore, 1) := by decide +kernel
theorem dX4_draw_53 : decode cX4_draw 53 = .ok (.iload_n 3, 1) := by decide +kernel
theorem dX4_draw_54 : decode cX4_draw 54 = .ok (.iload 5, 2) := by decide +kernel
theorem dX4_draw_56 : decode cX4_draw 56 = .ok (.isub, 1) := by decide +kernel
theorem dX4_draw_57 : decode cX4_draw 57 = .ok (.istore_n 3, 1) := by decide +kernel
theorem dX4_draw_58 : decode cX4_draw 58 = .ok (.iload_n 2, 1) := by decide +kernel
theorem dX4_draw_59 : decode cX4_draw 59 = .ok (.iconst 1, 1) := by decide +kernel
theorem dX4_draw_60 : decode cX4_draw 60 = .ok (.iload 4, 2) := by decide +kernel
theorem dX4_draw_62 : decode cX4_draw 62 = .ok (.ishl, 1) := by decide +kernel
theorem dX4_draw_63 : decode cX4_draw 63 = .ok (.ior, 1) := by decide +kernel
theorem dX4_draw_64 : decode cX4_draw 64 = .ok (.istore_n 2, 1) := by decide +kernel
theorem dX4_draw_65 : decode cX4_draw 65 = .ok (.iinc 4 1, 3) := by decide +kernel
theorem dX4_draw_68 : decode cX4_draw 68 = .ok (.goto (-61), 3) := by decide +kernel
theorem dX4_draw_71 : decode cX4_draw 71 = .ok (.iload_n 2, 1) := by decide +kernel
theorem dX4_draw_72 : decode cX4_draw 72 = .ok (.ireturn, 1) := by decide +kernel
theorem dX4_copyFrom_0 : decode cX4_copyFrom 0 = .ok (.aload_n 0, 1) := by decide +kernel
theorem dX4_copyFrom_1 : decode cX4_copyFrom 1 = .ok (.aload_n 1, 1) := by decide +kernel
theorem dX4_copyFrom_2 : decode cX4_copyFrom 2 = .ok (.getfield 9, 3) := by decide +kernel
theorem dX4_copyFrom_5 : decode cX4_copyFrom 5 = .ok (.putfield 9, 3) := by decide +kernel
theorem dX4_copyFrom_8 : decode cX4_copyFrom 8 = .ok (.aload_n 1, 1) := by decide +kernel
theorem dX4_copyFrom_9 : decode cX4_copyFrom 9 = .ok (.getfield 15, 3) := by decide +kernel
theorem dX4_copyFrom_12 : decode cX4_copyFrom 12 = .ok (.iconst 0, 1) := by decide +kernel
theorem dX4_copyFrom_13 : decode cX4_copyFrom 13 = .ok (.aload_n 0, 1) := by decide +kernel
theorem dX4_copyFrom_14 : decode cX4_copyFrom 14 = .ok (.getfield 15, 3) := by decide +kernel
theorem dX4_copyFrom_17 : decode cX4_copyFrom 17 = .ok (.iconst 0, 1) := by decide +kernel
theorem dX4_copyFrom_18 : decode cX4_copyFrom 18 = .ok (.bipush 8, 2) := by decide +kernel
theorem dX4_copyFrom_20 : decode cX4_copyFrom 20 = .ok (.invokestatic 30, 3) := by decide +kernel
theorem dX4_copyFrom_23 : decode cX4_copyFrom 23 = .ok (.return_, 1) := by decide +kernel
theorem dX5_init_0 : decode cX5_init 0 = .ok (.aload_n 0, 1) := by decide +kernel
theorem dX5_init_1 : decode cX5_init 1 = .ok (.invokespecial 3, 3) := by decide +kernel
theorem dX5_init_4 : decode cX5_init 4 = .ok (.aload_n 0, 1) := by decide +kernel
theorem dX5_init_5 : decode cX5_init 5 = .ok (.iconst 0, 1) := by decide +kernel
theorem dX5_init_6 : decode cX5_init 6 = .ok (.putfield 9, 3) := by decide +kernel
theorem dX5_init_9 : decode cX5_init 9 = .ok (.aload_n 0, 1) := by decide +kernel
theorem dX5_init_10 : decode cX5_init 10 = .ok (.sipush 192, 3) := by decide +kernel
theorem dX5_init_13 : decode cX5_init 13 = .ok (.newarray .int, 2) := by decide +kernel
theorem dX5_init_15 : decode cX5_init 15 = .ok (.putfield 15, 3) := by decide +kernel
theorem dX5_init_18 : decode cX5_init 18 = .ok (.return_, 1) := by decide +kernel
theorem dX5_isFull_0 : decode cX5_isFull 0 = .ok (.aload_n 0, 1) := by decide +kernel
theorem dX5_isFull_1 : decode cX5_isFull 1 = .ok (.getfield 9, 3) := by decide +kernel
theorem dX5_isFull_4 : decode cX5_isFull 4 = .ok (.bipush 24, 2) := by decide +kernel
theorem dX5_isFull_6 : decode cX5_isFull 6 = .ok (.if_icmp .lt 7, 3) := by decide +kernel
theorem dX5_isFull_9 : decode cX5_isFull 9 = .ok (.iconst 1, 1) := by decide +kernel
theorem dX5_isFull_10 : decode cX5_isFull 10 = .ok (.goto 4, 3) := by decide +kernel
theorem dX5_isFull_13 : decode cX5_isFull 13 = .ok (.iconst 0, 1) := by decide +kernel
theorem dX5_isFull_14 : decode cX5_isFull 14 = .ok (.ireturn, 1) := by decide +kernel
theorem dX5_add_0 : decode cX5_add 0 = .ok (.aload_n 0, 1) := by decide +kernel
theorem dX5_add_1 : decode cX5_add 1 = .ok (.invokevirtual 19, 3) := by decide +kernel
theorem dX5_add_4 : decode cX5_add 4 = .ok (.ifCond .eq 5, 3) := by decide +kernel
theorem dX5_add_7 : decode cX5_add 7 = .ok (.iconst (-1), 1) := by decide +kernel
theorem dX5_add_8 : decode cX5_add 8 = .ok (.ireturn, 1) := by decide +kernel
theorem dX5_add_9 : decode cX5_add 9 = .ok (.aload_n 0, 1) := by decide +kernel
theorem dX5_add_10 : decode cX5_add 10 = .ok (.dup, 1) := by decide +kernel
theorem dX5_add_11 : decode cX5_add 11 = .ok (.getfield 9, 3) := by decide +kernel
theorem dX5_add_14 : decode cX5_add 14 = .ok (.iconst 1, 1) := by decide +kernel
theorem dX5_add_15 : decode cX5_add 15 = .ok (.iadd, 1) := by decide +kernel
theorem dX5_add_16 : decode cX5_add 16 = .ok (.putfield 9, 3) := by decide +kernel
theorem dX5_add_19 : decode cX5_add 19 = .ok (.aload_n 0, 1) := by decide +kernel
theorem dX5_add_20 : decode cX5_add 20 = .ok (.getfield 9, 3) := by decide +kernel
theorem dX5_add_23 : decode cX5_add 23 = .ok (.iconst 1, 1) := by decide +kernel
theorem dX5_add_24 : decode cX5_add 24 = .ok (.isub, 1) := by decide +kernel
theorem dX5_add_25 : decode cX5_add 25 = .ok (.ireturn, 1) := by decide +kernel
theorem dX5_has_0 : decode cX5_has 0 = .ok (.iload_n 1, 1) := by decide +kernel
theorem dX5_has_1 : decode cX5_has 1 = .ok (.ifCond .lt 15, 3) := by decide +kernel
theorem dX5_has_4 : decode cX5_has 4 = .ok (.iload_n 1, 1) := by decide +kernel
theorem dX5_has_5 : decode cX5_has 5 = .ok (.aload_n 0, 1) := by decide +kernel
theorem dX5_has_6 : decode cX5_has 6 = .ok (.getfield 9, 3) := by decide +kernel
theorem dX5_has_9 : decode cX5_has 9 = .ok (.if_icmp .ge 7, 3) := by decide +kernel
theorem dX5_has_12 : decode cX5_has 12 = .ok (.iconst 1, 1) := by decide +kernel
theorem dX5_has_13 : decode cX5_has 13 = .ok (.goto 4, 3) := by decide +kernel
theorem dX5_has_16 : decode cX5_has 16 = .ok (.iconst 0, 1) := by decide +kernel
theorem dX5_has_17 : decode cX5_has 17 = .ok (.ireturn, 1) := by decide +kernel
theorem dX5_get_0 : decode cX5_get 0 = .ok (.aload_n 0, 1) := by decide +kernel
theorem dX5_get_1 : decode cX5_get 1 = .ok (.iload_n 1, 1) := by decide +kernel
theorem dX5_get_2 : decode cX5_get 2 = .ok (.invokevirtual 23, 3) := by decide +kernel
theorem dX5_get_5 : decode cX5_get 5 = .ok (.ifCond .eq 27, 3) := by decide +kernel
theorem dX5_get_8 : decode cX5_get 8 = .ok (.iload_n 2, 1) := by decide +kernel
theorem dX5_get_9 : decode cX5_get 9 = .ok (.ifCond .lt 23, 3) := by decide +kernel
theorem dX5_get_12 : decode cX5_get 12 = .ok (.iload_n 2, 1) := by decide +kernel
theorem dX5_get_13 : decode cX5_get 13 = .ok (.bipush 8, 2) := by decide +kernel
theorem dX5_get_15 : decode cX5_get 15 = .ok (.if_icmp .ge 17, 3) := by decide +kernel
theorem dX5_get_18 : decode cX5_get 18 = .ok (.aload_n 0, 1) := by decide +kernel
theorem dX5_get_19 : decode cX5_get 19 = .ok (.getfield 15, 3) := by decide +kernel
theorem dX5_get_22 : decode cX5_get 22 = .ok (.iload_n 1, 1) := by decide +kernel
theorem dX5_get_23 : decode cX5_get 23 = .ok (.bipush 8, 2) := by decide +kernel
theorem dX5_get_25 : decode cX5_get 25 = .ok (.imul, 1) := by decide +kernel
theorem dX5_get_26 : decode cX5_get 26 = .ok (.iload_n 2, 1) := by decide +kernel
theorem dX5_get_27 : decode cX5_get 27 = .ok (.iadd, 1) := by decide +kernel
theorem dX5_get_28 : decode cX5_get 28 = .ok (.iaload, 1) := by decide +kernel
theorem dX5_get_29 : decode cX5_get 29 = .ok (.goto 4, 3) := by decide +kernel
theorem dX5_get_32 : decode cX5_get 32 = .ok (.iconst (-1), 1) := by decide +kernel
theorem dX5_get_33 : decode cX5_get 33 = .ok (.ireturn, 1) := by decide +kernel
theorem dX5_put_0 : decode cX5_put 0 = .ok (.aload_n 0, 1) := by decide +kernel
theorem dX5_put_1 : decode cX5_put 1 = .ok (.iload_n 1, 1) := by decide +kernel
theorem dX5_put_2 : decode cX5_put 2 = .ok (.invokevirtual 23, 3) := by decide +kernel
theorem dX5_put_5 : decode cX5_put 5 = .ok (.ifCond .eq 25, 3) := by decide +kernel
theorem dX5_put_8 : decode cX5_put 8 = .ok (.iload_n 2, 1) := by decide +kernel
theorem dX5_put_9 : decode cX5_put 9 = .ok (.ifCond .lt 21, 3) := by decide +kernel
theorem dX5_put_12 : decode cX5_put 12 = .ok (.iload_n 2, 1) := by decide +kernel
theorem dX5_put_13 : decode cX5_put 13 = .ok (.bipush 8, 2) := by decide +kernel
theorem dX5_put_15 : decode cX5_put 15 = .ok (.if_icmp .ge 15, 3) := by decide +kernel
theorem dX5_put_18 : decode cX5_put 18 = .ok (.aload_n 0, 1) := by decide +kernel
theorem dX5_put_19 : decode cX5_put 19 = .ok (.getfield 15, 3) := by decide +kernel
theorem dX5_put_22 : decode cX5_put 22 = .ok (.iload_n 1, 1) := by decide +kernel
theorem dX5_put_23 : decode cX5_put 23 = .ok (.bipush 8, 2) := by decide +kernel
theorem dX5_put_25 : decode cX5_put 25 = .ok (.imul, 1) := by decide +kernel
theorem dX5_put_26 : decode cX5_put 26 = .ok (.iload_n 2, 1) := by decide +kernel
theorem dX5_put_27 : decode cX5_put 27 = .ok (.iadd, 1) := by decide +kernel
theorem dX5_put_28 : decode cX5_put 28 = .ok (.iload_n 3, 1) := by decide +kernel
theorem dX5_put_29 : decode cX5_put 29 = .ok (.iastore, 1) := by decide +kernel
theorem dX5_put_30 : decode cX5_put 30 = .ok (.return_, 1) := by decide +kernel
theorem dX5_isPressed_0 : decode cX5_isPressed 0 = .ok (.aload_n 0, 1) := by decide +kernel
theorem dX5_isPressed_1 : decode cX5_isPressed 1 = .ok (.iload_n 1, 1) := by decide +kernel
theorem dX5_isPressed_2 : decode cX5_isPressed 2 = .ok (.bipush 7, 2) := by decide +kernel
theorem dX5_isPressed_4 : decode cX5_isPressed 4 = .ok (.invokevirtual 27, 3) := by decide +kernel
theorem dX5_isPressed_7 : decode cX5_isPressed 7 = .ok (.iconst (-1), 1) := by decide +kernel
theorem dX5_isPressed_8 : decode cX5_isPressed 8 = .ok (.if_icmp .eq 7, 3) := by decide +kernel
theorem dX5_isPressed_11 : decode cX5_isPressed 11 = .ok (.iconst 1, 1) := by decide +kernel
theorem dX5_isPressed_12 : decode cX5_isPressed 12 = .ok (.goto 4, 3) := by decide +kernel
theorem dX5_isPressed_15 : decode cX5_isPressed 15 = .ok (.iconst 0, 1) := by decide +kernel
theorem dX5_isPressed_16 : decode cX5_isPressed 16 = .ok (.ireturn, 1) := by decide +kernel
theorem dX5_pressed_0 : decode cX5_pressed 0 = .ok (.iconst 0, 1) := by decide +kernel
theorem dX5_pressed_1 : decode cX5_pressed 1 = .ok (.istore_n 1, 1) := by decide +kernel
theorem dX5_pressed_2 : decode cX5_pressed 2 = .ok (.iconst 0, 1) := by decide +kernel
theorem dX5_pressed_3 : decode cX5_pressed 3 = .ok (.istore_n 2, 1) := by decide +kernel
theorem dX5_pressed_4 : decode cX5_pressed 4 = .ok (.iload_n 2, 1) := by decide +kernel
theorem dX5_pressed_5 : decode cX5_pressed 5 = .ok (.aload_n 0, 1) := by decide +kernel
theorem dX5_pressed_6 : decode cX5_pressed 6 = .ok (.getfield 9, 3) := by decide +kernel
theorem dX5_pressed_9 : decode cX5_pressed 9 = .ok (.if_icmp .ge 26, 3) := by decide +kernel
theorem dX5_pressed_12 : decode cX5_pressed 12 = .ok (.iload_n 2, 1) := by decide +kernel
theorem dX5_pressed_13 : decode cX5_pressed 13 = .ok (.bipush 24, 2) := by decide +kernel
theorem dX5_pressed_15 : decode cX5_pressed 15 = .ok (.if_icmp .ge 20, 3) := by decide +kernel
theorem dX5_pressed_18 : decode cX5_pressed 18 = .ok (.aload_n 0, 1) := by decide +kernel
theorem dX5_pressed_19 : decode cX5_pressed 19 = .ok (.iload_n 2, 1) := by decide +kernel
theorem dX5_pressed_20 : decode cX5_pressed 20 = .ok (.invokevirtual 31, 3) := by decide +kernel
theorem dX5_pressed_23 : decode cX5_pressed 23 = .ok (.ifCond .eq 6, 3) := by decide +kernel
theorem dX5_pressed_26 : decode cX5_pressed 26 = .ok (.iinc 1 1, 3) := by decide +kernel
theorem dX5_pressed_29 : decode cX5_pressed 29 = .ok (.iinc 2 1, 3) := by decide +kernel
theorem dX5_pressed_32 : decode cX5_pressed 32 = .ok (.goto (-28), 3) := by decide +kernel
theorem dX5_pressed_35 : decode cX5_pressed 35 = .ok (.iload_n 1, 1) := by decide +kernel
theorem dX5_pressed_36 : decode cX5_pressed 36 = .ok (.ireturn, 1) := by decide +kernel
theorem dX5_withLot_0 : decode cX5_withLot 0 = .ok (.iconst 0, 1) := by decide +kernel
theorem dX5_withLot_1 : decode cX5_withLot 1 = .ok (.istore_n 2, 1) := by decide +kernel
theorem dX5_withLot_2 : decode cX5_withLot 2 = .ok (.iconst 0, 1) := by decide +kernel
theorem dX5_withLot_3 : decode cX5_withLot 3 = .ok (.istore_n 3, 1) := by decide +kernel
theorem dX5_withLot_4 : decode cX5_withLot 4 = .ok (.iload_n 3, 1) := by decide +kernel
theorem dX5_withLot_5 : decode cX5_withLot 5 = .ok (.aload_n 0, 1) := by decide +kernel
theorem dX5_withLot_6 : decode cX5_withLot 6 = .ok (.getfield 9, 3) := by decide +kernel
theorem dX5_withLot_9 : decode cX5_withLot 9 = .ok (.if_icmp .ge 35, 3) := by decide +kernel
theorem dX5_withLot_12 : decode cX5_withLot 12 = .ok (.iload_n 3, 1) := by decide +kernel
theorem dX5_withLot_13 : decode cX5_withLot 13 = .ok (.bipush 24, 2) := by decide +kernel
theorem dX5_withLot_15 : decode cX5_withLot 15 = .ok (.if_icmp .ge 29, 3) := by decide +kernel
theorem dX5_withLot_18 : decode cX5_withLot 18 = .ok (.aload_n 0, 1) := by decide +kernel
theorem dX5_withLot_19 : decode cX5_withLot 19 = .ok (.iload_n 3, 1) := by decide +kernel
theorem dX5_withLot_20 : decode cX5_withLot 20 = .ok (.bipush 6, 2) := by decide +kernel
theorem dX5_withLot_22 : decode cX5_withLot 22 = .ok (.invokevirtual 27, 3) := by decide +kernel
theorem dX5_withLot_25 : decode cX5_withLot 25 = .ok (.iload_n 1, 1) := by decide +kernel
theorem dX5_withLot_26 : decode cX5_withLot 26 = .ok (.ishr, 1) := by decide +kernel
theorem dX5_withLot_27 : decode cX5_withLot 27 = .ok (.iconst 1, 1) := by decide +kernel
theorem dX5_withLot_28 : decode cX5_withLot 28 = .ok (.iand, 1) := by decide +kernel
theorem dX5_withLot_29 : decode cX5_withLot 29 = .ok (.ifCond .eq 9, 3) := by decide +kernel
theorem dX5_withLot_32 : decode cX5_withLot 32 = .ok (.iload_n 2, 1) := by decide +kernel
theorem dX5_withLot_33 : decode cX5_withLot 33 = .ok (.iconst 1, 1) := by decide +kernel
theorem dX5_withLot_34 : decode cX5_withLot 34 = .ok (.iload_n 3, 1) := by decide +kernel
theorem dX5_withLot_35 : decode cX5_withLot 35 = .ok (.ishl, 1) := by decide +kernel
theorem dX5_withLot_36 : decode cX5_withLot 36 = .ok (.ior, 1) := by decide +kernel
theorem dX5_withLot_37 : decode cX5_withLot 37 = .ok (.istore_n 2, 1) := by decide +kernel
theorem dX5_withLot_38 : decode cX5_withLot 38 = .ok (.iinc 3 1, 3) := by decide +kernel
theorem dX5_withLot_41 : decode cX5_withLot 41 = .ok (.goto (-37), 3) := by decide +kernel
theorem dX5_withLot_44 : decode cX5_withLot 44 = .ok (.iload_n 2, 1) := by decide +kernel
theorem dX5_withLot_45 : decode cX5_withLot 45 = .ok (.ireturn, 1) := by decide +kernel
theorem dX5_copyFrom_0 : decode cX5_copyFrom 0 = .ok (.aload_n 0, 1) := by decide +kernel
theorem dX5_copyFrom_1 : decode cX5_copyFrom 1 = .ok (.aload_n 1, 1) := by decide +kernel
theorem dX5_copyFrom_2 : decode cX5_copyFrom 2 = .ok (.getfield 9, 3) := by decide +kernel
theorem dX5_copyFrom_5 : decode cX5_copyFrom 5 = .ok (.putfield 9, 3) := by decide +kernel
theorem dX5_copyFrom_8 : decode cX5_copyFrom 8 = .ok (.aload_n 1, 1) := by decide +kernel
theorem dX5_copyFrom_9 : decode cX5_copyFrom 9 = .ok (.getfield 15, 3) := by decide +kernel
theorem dX5_copyFrom_12 : decode cX5_copyFrom 12 = .ok (.iconst 0, 1) := by decide +kernel
theorem dX5_copyFrom_13 : decode cX5_copyFrom 13 = .ok (.aload_n 0, 1) := by decide +kernel
theorem dX5_copyFrom_14 : decode cX5_copyFrom 14 = .ok (.getfield 15, 3) := by decide +kernel
theorem dX5_copyFrom_17 : decode cX5_copyFrom 17 = .ok (.iconst 0, 1) := by decide +kernel
theorem dX5_copyFrom_18 : decode cX5_copyFrom 18 = .ok (.sipush 192, 3) := by decide +kernel
theorem dX5_copyFrom_21 : decode cX5_copyFrom 21 = .ok (.invokestatic 34, 3) := by decide +kernel
theorem dX5_copyFrom_24 : decode cX5_copyFrom 24 = .ok (.return_, 1) := by decide +kernel
theorem dX6_init_0 : decode cX6_init 0 = .ok (.aload_n 0, 1) := by decide +kernel
theorem dX6_init_1 : decode cX6_init 1 = .ok (.invokespecial 3, 3) := by decide +kernel
theorem dX6_init_4 : decode cX6_init 4 = .ok (.aload_n 0, 1) := by decide +kernel
theorem dX6_init_5 : decode cX6_init 5 = .ok (.iconst 0, 1) := by decide +kernel
theorem dX6_init_6 : decode cX6_init 6 = .ok (.putfield 9, 3) := by decide +kernel
theorem dX6_init_9 : decode cX6_init 9 = .ok (.aload_n 0, 1) := by decide +kernel
theorem dX6_init_10 : decode cX6_init 10 = .ok (.iconst 4, 1) := by decide +kernel
theorem dX6_init_11 : decode cX6_init 11 = .ok (.newarray .int, 2) := by decide +kernel
theorem dX6_init_13 : decode cX6_init 13 = .ok (.putfield 15, 3) := by decide +kernel
theorem dX6_init_16 : decode cX6_init 16 = .ok (.return_, 1) := by decide +kernel
theorem dX6_add_0 : decode cX6_add 0 = .ok (.aload_n 0, 1) := by decide +kernel
theorem dX6_add_1 : decode cX6_add 1 = .ok (.getfield 9, 3) := by decide +kernel
theorem dX6_add_4 : decode cX6_add 4 = .ok (.iconst 4, 1) := by decide +kernel
theorem dX6_add_5 : decode cX6_add 5 = .ok (.if_icmp .ge 16, 3) := by decide +kernel
theorem dX6_add_8 : decode cX6_add 8 = .ok (.iload_n 1, 1) := by decide +kernel
theorem dX6_add_9 : decode cX6_add 9 = .ok (.bipush 100, 2) := by decide +kernel
theorem dX6_add_11 : decode cX6_add 11 = .ok (.if_icmp .lt 10, 3) := by decide +kernel
theorem dX6_add_14 : decode cX6_add 14 = .ok (.iload_n 1, 1) := by decide +kernel
theorem dX6_add_15 : decode cX6_add 15 = .ok (.sipush 250, 3) := by decide +kernel
theorem dX6_add_18 : decode cX6_add 18 = .ok (.if_icmp .le 5, 3) := by decide +kernel
theorem dX6_add_21 : decode cX6_add 21 = .ok (.iconst (-1), 1) := by decide +kernel
theorem dX6_add_22 : decode cX6_add 22 = .ok (.ireturn, 1) := by decide +kernel
theorem dX6_add_23 : decode cX6_add 23 = .ok (.aload_n 0, 1) := by decide +kernel
theorem dX6_add_24 : decode cX6_add 24 = .ok (.getfield 15, 3) := by decide +kernel
theorem dX6_add_27 : decode cX6_add 27 = .ok (.aload_n 0, 1) := by decide +kernel
theorem dX6_add_28 : decode cX6_add 28 = .ok (.getfield 9, 3) := by decide +kernel
theorem dX6_add_31 : decode cX6_add 31 = .ok (.iload_n 1, 1) := by decide +kernel
theorem dX6_add_32 : decode cX6_add 32 = .ok (.iastore, 1) := by decide +kernel
theorem dX6_add_33 : decode cX6_add 33 = .ok (.aload_n 0, 1) := by decide +kernel
theorem dX6_add_34 : decode cX6_add 34 = .ok (.dup, 1) := by decide +kernel
theorem dX6_add_35 : decode cX6_add 35 = .ok (.getfield 9, 3) := by decide +kernel
theorem dX6_add_38 : decode cX6_add 38 = .ok (.iconst 1, 1) := by decide +kernel
theorem dX6_add_39 : decode cX6_add 39 = .ok (.iadd, 1) := by decide +kernel
theorem dX6_add_40 : decode cX6_add 40 = .ok (.putfield 9, 3) := by decide +kernel
theorem dX6_add_43 : decode cX6_add 43 = .ok (.aload_n 0, 1) := by decide +kernel
theorem dX6_add_44 : decode cX6_add 44 = .ok (.getfield 9, 3) := by decide +kernel
theorem dX6_add_47 : decode cX6_add 47 = .ok (.iconst 1, 1) := by decide +kernel
theorem dX6_add_48 : decode cX6_add 48 = .ok (.isub, 1) := by decide +kernel
theorem dX6_add_49 : decode cX6_add 49 = .ok (.ireturn, 1) := by decide +kernel
theorem dX6_has_0 : decode cX6_has 0 = .ok (.iload_n 1, 1) := by decide +kernel
theorem dX6_has_1 : decode cX6_has 1 = .ok (.ifCond .lt 15, 3) := by decide +kernel
theorem dX6_has_4 : decode cX6_has 4 = .ok (.iload_n 1, 1) := by decide +kernel
theorem dX6_has_5 : decode cX6_has 5 = .ok (.aload_n 0, 1) := by decide +kernel
theorem dX6_has_6 : decode cX6_has 6 = .ok (.getfield 9, 3) := by decide +kernel
theorem dX6_has_9 : decode cX6_has 9 = .ok (.if_icmp .ge 7, 3) := by decide +kernel
theorem dX6_has_12 : decode cX6_has 12 = .ok (.iconst 1, 1) := by decide +kernel
theorem dX6_has_13 : decode cX6_has 13 = .ok (.goto 4, 3) := by decide +kernel
theorem dX6_has_16 : decode cX6_has 16 = .ok (.iconst 0, 1) := by decide +kernel
theorem dX6_has_17 : decode cX6_has 17 = .ok (.ireturn, 1) := by decide +kernel
theorem dX6_heatOf_0 : decode cX6_heatOf 0 = .ok (.aload_n 0, 1) := by decide +kernel
theorem dX6_heatOf_1 : decode cX6_heatOf 1 = .ok (.iload_n 1, 1) := by decide +kernel
theorem dX6_heatOf_2 : decode cX6_heatOf 2 = .ok (.invokevirtual 19, 3) := by decide +kernel
theorem dX6_heatOf_5 : decode cX6_heatOf 5 = .ok (.ifCond .eq 12, 3) := by decide +kernel
theorem dX6_heatOf_8 : decode cX6_heatOf 8 = .ok (.aload_n 0, 1) := by decide +kernel
theorem dX6_heatOf_9 : decode cX6_heatOf 9 = .ok (.getfield 15, 3) := by decide +kernel
theorem dX6_heatOf_12 : decode cX6_heatOf 12 = .ok (.iload_n 1, 1) := by decide +kernel
theorem dX6_heatOf_13 : decode cX6_heatOf 13 = .ok (.iaload, 1) := by decide +kernel
theorem dX6_heatOf_14 : decode cX6_heatOf 14 = .ok (.goto 4, 3) := by decide +kernel
theorem dX6_heatOf_17 : decode cX6_heatOf 17 = .ok (.iconst (-1), 1) := by decide +kernel
theorem dX6_heatOf_18 : decode cX6_heatOf 18 = .ok (.ireturn, 1) := by decide +kernel
theorem dX6_copyFrom_0 : decode cX6_copyFrom 0 = .ok (.aload_n 0, 1) := by decide +kernel
theorem dX6_copyFrom_1 : decode cX6_copyFrom 1 = .ok (.aload_n 1, 1) := by decide +kernel
theorem dX6_copyFrom_2 : decode cX6_copyFrom 2 = .ok (.getfield 9, 3) := by decide +kernel
theorem dX6_copyFrom_5 : decode cX6_copyFrom 5 = .ok (.putfield 9, 3) := by decide +kernel
theorem dX6_copyFrom_8 : decode cX6_copyFrom 8 = .ok (.aload_n 1, 1) := by decide +kernel
theorem dX6_copyFrom_9 : decode cX6_copyFrom 9 = .ok (.getfield 15, 3) := by decide +kernel
theorem dX6_copyFrom_12 : decode cX6_copyFrom 12 = .ok (.iconst 0, 1) := by decide +kernel
theorem dX6_copyFrom_13 : decode cX6_copyFrom 13 = .ok (.aload_n 0, 1) := by decide +kernel
theorem dX6_copyFrom_14 : decode cX6_copyFrom 14 = .ok (.getfield 15, 3) := by decide +kernel
theorem dX6_copyFrom_17 : decode cX6_copyFrom 17 = .ok (.iconst 0, 1) := by decide +kernel
theorem dX6_copyFrom_18 : decode cX6_copyFrom 18 = .ok (.iconst 4, 1) := by decide +kernel
theorem dX6_copyFrom_19 : decode cX6_copyFrom 19 = .ok (.invokestatic 23, 3) := by decide +kernel
theorem dX6_copyFrom_22 : decode cX6_copyFrom 22 = .ok (.return_, 1) := by decide +kernel
theorem dX7_init_0 : decode cX7_init 0 = .ok (.aload_n 0, 1) := by decide +kernel
theorem dX7_init_1 : decode cX7_init 1 = .ok (.invokespecial 7, 3) := by decide +kernel
theorem dX7_init_4 : decode cX7_init 4 = .ok (.aload_n 0, 1) := by decide +kernel
theorem dX7_init_5 : decode cX7_init 5 = .ok (.bipush 32, 2) := by decide +kernel
theorem dX7_init_7 : decode cX7_init 7 = .ok (.newarray .boolean, 2) := by decide +kernel
theorem dX7_init_9 : decode cX7_init 9 = .ok (.putfield 13, 3) := by decide +kernel
theorem dX7_init_12 : decode cX7_init 12 = .ok (.aload_n 0, 1) := by decide +kernel
theorem dX7_init_13 : decode cX7_init 13 = .ok (.bipush 32, 2) := by decide +kernel
theorem dX7_init_15 : decode cX7_init 15 = .ok (.newarray .int, 2) := by decide +kernel
theorem dX7_init_17 : decode cX7_init 17 = .ok (.putfield 17, 3) := by decide +kernel
theorem dX7_init_20 : decode cX7_init 20 = .ok (.aload_n 0, 1) := by decide +kernel
theorem dX7_init_21 : decode cX7_init 21 = .ok (.bipush 32, 2) := by decide +kernel
theorem dX7_init_23 : decode cX7_init 23 = .ok (.newarray .int, 2) := by decide +kernel
theorem dX7_init_25 : decode cX7_init 25 = .ok (.putfield 21, 3) := by decide +kernel
theorem dX7_init_28 : decode cX7_init 28 = .ok (.aload_n 0, 1) := by decide +kernel
theorem dX7_init_29 : decode cX7_init 29 = .ok (.bipush 32, 2) := by decide +kernel
theorem dX7_init_31 : decode cX7_init 31 = .ok (.newarray .int, 2) := by decide +kernel
theorem dX7_init_33 : decode cX7_init 33 = .ok (.putfield 24, 3) := by decide +kernel
theorem dX7_init_36 : decode cX7_init 36 = .ok (.aload_n 0, 1) := by decide +kernel
theorem dX7_init_37 : decode cX7_init 37 = .ok (.bipush 32, 2) := by decide +kernel
theorem dX7_init_39 : decode cX7_init 39 = .ok (.newarray .int, 2) := by decide +kernel
theorem dX7_init_41 : decode cX7_init 41 = .ok (.putfield 27, 3) := by decide +kernel
theorem dX7_init_44 : decode cX7_init 44 = .ok (.aload_n 0, 1) := by decide +kernel
theorem dX7_init_45 : decode cX7_init 45 = .ok (.iconst 0, 1) := by decide +kernel
theorem dX7_init_46 : decode cX7_init 46 = .ok (.putfield 30, 3) := by decide +kernel
theorem dX7_init_49 : decode cX7_init 49 = .ok (.return_, 1) := by decide +kernel
theorem dX7_find_0 : decode cX7_find 0 = .ok (.iconst 0, 1) := by decide +kernel
theorem dX7_find_1 : decode cX7_find 1 = .ok (.istore_n 2, 1) := by decide +kernel
theorem dX7_find_2 : decode cX7_find 2 = .ok (.iload_n 2, 1) := by decide +kernel
theorem dX7_find_3 : decode cX7_find 3 = .ok (.bipush 32, 2) := by decide +kernel
theorem dX7_find_5 : decode cX7_find 5 = .ok (.if_icmp .ge 16, 3) := by decide +kernel
theorem dX7_find_8 : decode cX7_find 8 = .ok (.aload_n 0, 1) := by decide +kernel
theorem dX7_find_9 : decode cX7_find 9 = .ok (.getfield 13, 3) := by decide +kernel
theorem dX7_find_12 : decode cX7_find 12 = .ok (.iload_n 2, 1) := by decide +kernel
theorem dX7_find_13 : decode cX7_find 13 = .ok (.iconst 0, 1) := by decide +kernel
theorem dX7_find_14 : decode cX7_find 14 = .ok (.bastore, 1) := by decide +kernel
theorem dX7_find_15 : decode cX7_find 15 = .ok (.iinc 2 1, 3) := by decide +kernel
theorem dX7_find_18 : decode cX7_find 18 = .ok (.goto (-16), 3) := by decide +kernel
theorem dX7_find_21 : decode cX7_find 21 = .ok (.aload_n 0, 1) := by decide +kernel
theorem dX7_find_22 : decode cX7_find 22 = .ok (.iconst 0, 1) := by decide +kernel
theorem dX7_find_23 : decode cX7_find 23 = .ok (.putfield 30, 3) := by decide +kernel
theorem dX7_find_26 : decode cX7_find 26 = .ok (.aload_n 0, 1) := by decide +kernel
theorem dX7_find_27 : decode cX7_find 27 = .ok (.iconst 0, 1) := by decide +kernel
theorem dX7_find_28 : decode cX7_find 28 = .ok (.iconst (-1), 1) := by decide +kernel
theorem dX7_find_29 : decode cX7_find 29 = .ok (.iconst (-1), 1) := by decide +kernel
theorem dX7_find_30 : decode cX7_find 30 = .ok (.invokevirtual 34, 3) := by decide +kernel
theorem dX7_find_33 : decode cX7_find 33 = .ok (.pop, 1) := by decide +kernel
theorem dX7_find_34 : decode cX7_find 34 = .ok (.iconst 0, 1) := by decide +kernel
theorem dX7_find_35 : decode cX7_find 35 = .ok (.istore_n 2, 1) := by decide +kernel
theorem dX7_find_36 : decode cX7_find 36 = .ok (.iload_n 2, 1) := by decide +kernel
theorem dX7_find_37 : decode cX7_find 37 = .ok (.aload_n 0, 1) := by decide +kernel
theorem dX7_find_38 : decode cX7_find 38 = .ok (.getfield 30, 3) := by decide +kernel
theorem dX7_find_41 : decode cX7_find 41 = .ok (.if_icmp .ge 120, 3) := by decide +kernel
theorem dX7_find_44 : decode cX7_find 44 = .ok (.iload_n 2, 1) := by decide +kernel
theorem dX7_find_45 : decode cX7_find 45 = .ok (.bipush 32, 2) := by decide +kernel
theorem dX7_find_47 : decode cX7_find 47 = .ok (.if_icmp .ge 114, 3) := by decide +kernel
theorem dX7_find_50 : decode cX7_find 50 = .ok (.aload_n 0, 1) := by decide +kernel
theorem dX7_find_51 : decode cX7_find 51 = .ok (.getfield 17, 3) := by decide +kernel
theorem dX7_find_54 : decode cX7_find 54 = .ok (.iload_n 2, 1) := by decide +kernel
theorem dX7_find_55 : decode cX7_find 55 = .ok (.iaload, 1) := by decide +kernel
theorem dX7_find_56 : decode cX7_find 56 = .ok (.iconst 4, 1) := by decide +kernel
theorem dX7_find_57 : decode cX7_find 57 = .ok (.idiv, 1) := by decide +kernel
theorem dX7_find_58 : decode cX7_find 58 = .ok (.istore_n 3, 1) := by decide +kernel
theorem dX7_find_59 : decode cX7_find 59 = .ok (.aload_n 0, 1) := by decide +kernel
theorem dX7_find_60 : decode cX7_find 60 = .ok (.getfield 17, 3) := by decide +kernel
theorem dX7_find_63 : decode cX7_find 63 = .ok (.iload_n 2, 1) := by decide +kernel
theorem dX7_find_64 : decode cX7_find 64 = .ok (.iaload, 1) := by decide +kernel
theorem dX7_find_65 : decode cX7_find 65 = .ok (.iconst 4, 1) := by decide +kernel
theorem dX7_find_66 : decode cX7_find 66 = .ok (.irem, 1) := by decide +kernel
theorem dX7_find_67 : decode cX7_find 67 = .ok (.istore 4, 2) := by decide +kernel
theorem dX7_find_69 : decode cX7_find 69 = .ok (.iconst 0, 1) := by decide +kernel
theorem dX7_find_70 : decode cX7_find 70 = .ok (.istore 5, 2) := by decide +kernel
theorem dX7_find_72 : decode cX7_find 72 = .ok (.iload 5, 2) := by decide +kernel
theorem dX7_find_74 : decode cX7_find 74 = .ok (.iconst 4, 1) := by decide +kernel
theorem dX7_find_75 : decode cX7_find 75 = .ok (.if_icmp .ge 80, 3) := by decide +kernel
theorem dX7_find_78 : decode cX7_find 78 = .ok (.aload_n 1, 1) := by decide +kernel
theorem dX7_find_79 : decode cX7_find 79 = .ok (.iload_n 3, 1) := by decide +kernel
theorem dX7_find_80 : decode cX7_find 80 = .ok (.iload 5, 2) := by decide +kernel
theorem dX7_find_82 : decode cX7_find 82 = .ok (.invokevirtual 38, 3) := by decide +kernel
theorem dX7_find_85 : decode cX7_find 85 = .ok (.istore 6, 2) := by decide +kernel
theorem dX7_find_87 : decode cX7_find 87 = .ok (.iload 4, 2) := by decide +kernel
theorem dX7_find_89 : decode cX7_find 89 = .ok (.iload 5, 2) := by decide +kernel
theorem dX7_find_91 : decode cX7_find 91 = .ok (.aload_n 1, 1) := by decide +kernel
theorem dX7_find_92 : decode cX7_find 92 = .ok (.iload 6, 2) := by decide +kernel
theorem dX7_find_94 : decode cX7_find 94 = .ok (.invokevirtual 42, 3) := by decide +kernel
theorem dX7_find_97 : decode cX7_find 97 = .ok (.invokestatic 46, 3) := by decide +kernel
theorem dX7_find_100 : decode cX7_find 100 = .ok (.istore 7, 2) := by decide +kernel
theorem dX7_find_102 : decode cX7_find 102 = .ok (.aload_n 0, 1) := by decide +kernel
theorem dX7_find_103 : decode cX7_find 103 = .ok (.iload 6, 2) := by decide +kernel
theorem dX7_find_105 : decode cX7_find 105 = .ok (.iconst 4, 1) := by decide +kernel
theorem dX7_find_106 : decode cX7_find 106 = .ok (.imul, 1) := by decide +kernel
theorem dX7_find_107 : decode cX7_find 107 = .ok (.iload 7, 2) := by decide +kernel
theorem dX7_find_109 : decode cX7_find 109 = .ok (.iadd, 1) := by decide +kernel
theorem dX7_find_110 : decode cX7_find 110 = .ok (.iload_n 2, 1) := by decide +kernel
theorem dX7_find_111 : decode cX7_find 111 = .ok (.iload 5, 2) := by decide +kernel
theorem dX7_find_113 : decode cX7_find 113 = .ok (.invokevirtual 34, 3) := by decide +kernel
theorem dX7_find_116 : decode cX7_find 116 = .ok (.istore 8, 2) := by decide +kernel
theorem dX7_find_118 : decode cX7_find 118 = .ok (.iload 8, 2) := by decide +kernel
theorem dX7_find_120 : decode cX7_find 120 = .ok (.ifCond .eq 29, 3) := by decide +kernel
theorem dX7_find_123 : decode cX7_find 123 = .ok (.iload 7, 2) := by decide +kernel
theorem dX7_find_125 : decode cX7_find 125 = .ok (.iconst 2, 1) := by decide +kernel
theorem dX7_find_126 : decode cX7_find 126 = .ok (.if_icmp .lt 23, 3) := by decide +kernel
theorem dX7_find_129 : decode cX7_find 129 = .ok (.aload_n 1, 1) := by decide +kernel
theorem dX7_find_130 : decode cX7_find 130 = .ok (.iload 6, 2) := by decide +kernel
theorem dX7_find_132 : decode cX7_find 132 = .ok (.invokevirtual 50, 3) := by decide +kernel
theorem dX7_find_135 : decode cX7_find 135 = .ok (.ifCond .eq 14, 3) := by decide +kernel
theorem dX7_find_138 : decode cX7_find 138 = .ok (.aload_n 0, 1) := by decide +kernel
theorem dX7_find_139 : decode cX7_find 139 = .ok (.aload_n 0, 1) := by decide +kernel
theorem dX7_find_140 : decode cX7_find 140 = .ok (.getfield 30, 3) := by decide +kernel
theorem dX7_find_143 : decode cX7_find 143 = .ok (.iconst 1, 1) := by decide +kernel
theorem dX7_find_144 : decode cX7_find 144 = .ok (.isub, 1) := by decide +kernel
theorem dX7_find_145 : decode cX7_find 145 = .ok (.invokevirtual 53, 3) := by decide +kernel
theorem dX7_find_148 : decode cX7_find 148 = .ok (.ireturn, 1) := by decide +kernel
theorem dX7_find_149 : decode cX7_find 149 = .ok (.iinc 5 1, 3) := by decide +kernel
theorem dX7_find_152 : decode cX7_find 152 = .ok (.goto (-80), 3) := by decide +kernel
theorem dX7_find_155 : decode cX7_find 155 = .ok (.iinc 2 1, 3) := by decide +kernel
theorem dX7_find_158 : decode cX7_find 158 = .ok (.goto (-122), 3) := by decide +kernel
theorem dX7_find_161 : decode cX7_find 161 = .ok (.iconst (-1), 1) := by decide +kernel
theorem dX7_find_162 : decode cX7_find 162 = .ok (.ireturn, 1) := by decide +kernel
theorem dX7_eventAt_0 : decode cX7_eventAt 0 = .ok (.iload_n 1, 1) := by decide +kernel
theorem dX7_eventAt_1 : decode cX7_eventAt 1 = .ok (.ifCond .lt 18, 3) := by decide +kernel
theorem dX7_eventAt_4 : decode cX7_eventAt 4 = .ok (.iload_n 1, 1) := by decide +kernel
theorem dX7_eventAt_5 : decode cX7_eventAt 5 = .ok (.bipush 32, 2) := by decide +kernel
theorem dX7_eventAt_7 : decode cX7_eventAt 7 = .ok (.if_icmp .ge 12, 3) := by decide +kernel
theorem dX7_eventAt_10 : decode cX7_eventAt 10 = .ok (.aload_n 0, 1) := by decide +kernel
theorem dX7_eventAt_11 : decode cX7_eventAt 11 = .ok (.getfield 27, 3) := by decide +kernel
theorem dX7_eventAt_14 : decode cX7_eventAt 14 = .ok (.iload_n 1, 1) := by decide +kernel
theorem dX7_eventAt_15 : decode cX7_eventAt 15 = .ok (.iaload, 1) := by decide +kernel
theorem dX7_eventAt_16 : decode cX7_eventAt 16 = .ok (.goto 4, 3) := by decide +kernel
theorem dX7_eventAt_19 : decode cX7_eventAt 19 = .ok (.iconst (-1), 1) := by decide +kernel
theorem dX7_eventAt_20 : decode cX7_eventAt 20 = .ok (.ireturn, 1) := by decide +kernel
theorem dX7_dangerAfter_0 : decode cX7_dangerAfter 0 = .ok (.iload_n 1, 1) := by decide +kernel
theorem dX7_dangerAfter_1 : decode cX7_dangerAfter 1 = .ok (.iconst 1, 1) := by decide +kernel
theorem dX7_dangerAfter_2 : decode cX7_dangerAfter 2 = .ok (.if_icmp .ne 5, 3) := by decide +kernel
theorem dX7_dangerAfter_5 : decode cX7_dangerAfter 5 = .ok (.iconst 3, 1) := by decide +kernel
theorem dX7_dangerAfter_6 : decode cX7_dangerAfter 6 = .ok (.ireturn, 1) := by decide +kernel
theorem dX7_dangerAfter_7 : decode cX7_dangerAfter 7 = .ok (.iconst 0, 1) := by decide +kernel
theorem dX7_dangerAfter_8 : decode cX7_dangerAfter 8 = .ok (.iload_n 0, 1) := by decide +kernel
theorem dX7_dangerAfter_9 : decode cX7_dangerAfter 9 = .ok (.iload_n 2, 1) := by decide +kernel
theorem dX7_dangerAfter_10 : decode cX7_dangerAfter 10 = .ok (.ifCond .eq 7, 3) := by decide +kernel
theorem dX7_dangerAfter_13 : decode cX7_dangerAfter 13 = .ok (.iconst 2, 1) := by decide +kernel
theorem dX7_dangerAfter_14 : decode cX7_dangerAfter 14 = .ok (.goto 4, 3) := by decide +kernel
theorem dX7_dangerAfter_17 : decode cX7_dangerAfter 17 = .ok (.iconst 1, 1) := by decide +kernel
theorem dX7_dangerAfter_18 : decode cX7_dangerAfter 18 = .ok (.isub, 1) := by decide +kernel
theorem dX7_dangerAfter_19 : decode cX7_dangerAfter 19 = .ok (.invokestatic 57, 3) := by decide +kernel
theorem dX7_dangerAfter_22 : decode cX7_dangerAfter 22 = .ok (.ireturn, 1) := by decide +kernel
theorem dX7_reach_0 : decode cX7_reach 0 = .ok (.iload_n 1, 1) := by decide +kernel
theorem dX7_reach_1 : decode cX7_reach 1 = .ok (.ifCond .lt 34, 3) := by decide +kernel
theorem dX7_reach_4 : decode cX7_reach 4 = .ok (.iload_n 1, 1) := by decide +kernel
theorem dX7_reach_5 : decode cX7_reach 5 = .ok (.bipush 32, 2) := by decide +kernel
theorem dX7_reach_7 : decode cX7_reach 7 = .ok (.if_icmp .ge 28, 3) := by decide +kernel
theorem dX7_reach_10 : decode cX7_reach 10 = .ok (.aload_n 0, 1) := by decide +kernel
theorem dX7_reach_11 : decode cX7_reach 11 = .ok (.getfield 13, 3) := by decide +kernel
theorem dX7_reach_14 : decode cX7_reach 14 = .ok (.iload_n 1, 1) := by decide +kernel
theorem dX7_reach_15 : decode cX7_reach 15 = .ok (.baload, 1) := by decide +kernel
theorem dX7_reach_16 : decode cX7_reach 16 = .ok (.ifCond .ne 19, 3) := by decide +kernel
theorem dX7_reach_19 : decode cX7_reach 19 = .ok (.aload_n 0, 1) := by decide +kernel
theorem dX7_reach_20 : decode cX7_reach 20 = .ok (.getfield 30, 3) := by decide +kernel
theorem dX7_reach_23 : decode cX7_reach 23 = .ok (.ifCond .lt 12, 3) := by decide +kernel
theorem dX7_reach_26 : decode cX7_reach 26 = .ok (.aload_n 0, 1) := by decide +kernel
theorem dX7_reach_27 : decode cX7_reach 27 = .ok (.getfield 30, 3) := by decide +kernel
theorem dX7_reach_30 : decode cX7_reach 30 = .ok (.bipush 32, 2) := by decide +kernel
theorem dX7_reach_32 : decode cX7_reach 32 = .ok (.if_icmp .lt 5, 3) := by decide +kernel
theorem dX7_reach_35 : decode cX7_reach 35 = .ok (.iconst 0, 1) := by decide +kernel
theorem dX7_reach_36 : decode cX7_reach 36 = .ok (.ireturn, 1) := by decide +kernel
theorem dX7_reach_37 : decode cX7_reach 37 = .ok (.aload_n 0, 1) := by decide +kernel
theorem dX7_reach_38 : decode cX7_reach 38 = .ok (.getfield 13, 3) := by decide +kernel
theorem dX7_reach_41 : decode cX7_reach 41 = .ok (.iload_n 1, 1) := by decide +kernel
theorem dX7_reach_42 : decode cX7_reach 42 = .ok (.iconst 1, 1) := by decide +kernel
theorem dX7_reach_43 : decode cX7_reach 43 = .ok (.bastore, 1) := by decide +kernel
theorem dX7_reach_44 : decode cX7_reach 44 = .ok (.aload_n 0, 1) := by decide +kernel
theorem dX7_reach_45 : decode cX7_reach 45 = .ok (.getfield 17, 3) := by decide +kernel
theorem dX7_reach_48 : decode cX7_reach 48 = .ok (.aload_n 0, 1) := by decide +kernel
theorem dX7_reach_49 : decode cX7_reach 49 = .ok (.getfield 30, 3) := by decide +kernel
theorem dX7_reach_52 : decode cX7_reach 52 = .ok (.iload_n 1, 1) := by decide +kernel
theorem dX7_reach_53 : decode cX7_reach 53 = .ok (.iastore, 1) := by decide +kernel
theorem dX7_reach_54 : decode cX7_reach 54 = .ok (.aload_n 0, 1) := by decide +kernel
theorem dX7_reach_55 : decode cX7_reach 55 = .ok (.getfield 21, 3) := by decide +kernel
theorem dX7_reach_58 : decode cX7_reach 58 = .ok (.aload_n 0, 1) := by decide +kernel
theorem dX7_reach_59 : decode cX7_reach 59 = .ok (.getfield 30, 3) := by decide +kernel
theorem dX7_reach_62 : decode cX7_reach 62 = .ok (.iload_n 2, 1) := by decide +kernel
theorem dX7_reach_63 : decode cX7_reach 63 = .ok (.iastore, 1) := by decide +kernel
theorem dX7_reach_64 : decode cX7_reach 64 = .ok (.aload_n 0, 1) := by decide +kernel
theorem dX7_reach_65 : decode cX7_reach 65 = .ok (.getfield 24, 3) := by decide +kernel
theorem dX7_reach_68 : decode cX7_reach 68 = .ok (.aload_n 0, 1) := by decide +kernel
theorem dX7_reach_69 : decode cX7_reach 69 = .ok (.getfield 30, 3) := by decide +kernel
theorem dX7_reach_72 : decode cX7_reach 72 = .ok (.iload_n 3, 1) := by decide +kernel
theorem dX7_reach_73 : decode cX7_reach 73 = .ok (.iastore, 1) := by decide +kernel
theorem dX7_reach_74 : decode cX7_reach 74 = .ok (.aload_n 0, 1) := by decide +kernel
theorem dX7_reach_75 : decode cX7_reach 75 = .ok (.dup, 1) := by decide +kernel
theorem dX7_reach_76 : decode cX7_reach 76 = .ok (.getfield 30, 3) := by decide +kernel
theorem dX7_reach_79 : decode cX7_reach 79 = .ok (.iconst 1, 1) := by decide +kernel
theorem dX7_reach_80 : decode cX7_reach 80 = .ok (.iadd, 1) := by decide +kernel
theorem dX7_reach_81 : decode cX7_reach 81 = .ok (.putfield 30, 3) := by decide +kernel
theorem dX7_reach_84 : decode cX7_reach 84 = .ok (.iconst 1, 1) := by decide +kernel
theorem dX7_reach_85 : decode cX7_reach 85 = .ok (.ireturn, 1) := by decide +kernel
theorem dX7_writeRow_0 : decode cX7_writeRow 0 = .ok (.iconst 0, 1) := by decide +kernel
theorem dX7_writeRow_1 : decode cX7_writeRow 1 = .ok (.istore_n 2, 1) := by decide +kernel
theorem dX7_writeRow_2 : decode cX7_writeRow 2 = .ok (.iload_n 1, 1) := by decide +kernel
theorem dX7_writeRow_3 : decode cX7_writeRow 3 = .ok (.istore_n 3, 1) := by decide +kernel
theorem dX7_writeRow_4 : decode cX7_writeRow 4 = .ok (.iload_n 3, 1) := by decide +kernel
theorem dX7_writeRow_5 : decode cX7_writeRow 5 = .ok (.ifCond .le 40, 3) := by decide +kernel
theorem dX7_writeRow_8 : decode cX7_writeRow 8 = .ok (.iload_n 3, 1) := by decide +kernel
theorem dX7_writeRow_9 : decode cX7_writeRow 9 = .ok (.bipush 32, 2) := by decide +kernel
theorem dX7_writeRow_11 : decode cX7_writeRow 11 = .ok (.if_icmp .ge 34, 3) := by decide +kernel
theorem dX7_writeRow_14 : decode cX7_writeRow 14 = .ok (.iload_n 2, 1) := by decide +kernel
theorem dX7_writeRow_15 : decode cX7_writeRow 15 = .ok (.bipush 32, 2) := by decide +kernel
theorem dX7_writeRow_17 : decode cX7_writeRow 17 = .ok (.if_icmp .ge 28, 3) := by decide +kernel
theorem dX7_writeRow_20 : decode cX7_writeRow 20 = .ok (.aload_n 0, 1) := by decide +kernel
theorem dX7_writeRow_21 : decode cX7_writeRow 21 = .ok (.getfield 27, 3) := by decide +kernel
theorem dX7_writeRow_24 : decode cX7_writeRow 24 = .ok (.iload_n 2, 1) := by decide +kernel
theorem dX7_writeRow_25 : decode cX7_writeRow 25 = .ok (.aload_n 0, 1) := by decide +kernel
theorem dX7_writeRow_26 : decode cX7_writeRow 26 = .ok (.getfield 24, 3) := by decide +kernel
theorem dX7_writeRow_29 : decode cX7_writeRow 29 = .ok (.iload_n 3, 1) := by decide +kernel
theorem dX7_writeRow_30 : decode cX7_writeRow 30 = .ok (.iaload, 1) := by decide +kernel
theorem dX7_writeRow_31 : decode cX7_writeRow 31 = .ok (.iastore, 1) := by decide +kernel
theorem dX7_writeRow_32 : decode cX7_writeRow 32 = .ok (.iinc 2 1, 3) := by decide +kernel
theorem dX7_writeRow_35 : decode cX7_writeRow 35 = .ok (.aload_n 0, 1) := by decide +kernel
theorem dX7_writeRow_36 : decode cX7_writeRow 36 = .ok (.getfield 21, 3) := by decide +kernel
theorem dX7_writeRow_39 : decode cX7_writeRow 39 = .ok (.iload_n 3, 1) := by decide +kernel
theorem dX7_writeRow_40 : decode cX7_writeRow 40 = .ok (.iaload, 1) := by decide +kernel
theorem dX7_writeRow_41 : decode cX7_writeRow 41 = .ok (.istore_n 3, 1) := by decide +kernel
theorem dX7_writeRow_42 : decode cX7_writeRow 42 = .ok (.goto (-38), 3) := by decide +kernel
theorem dX7_writeRow_45 : decode cX7_writeRow 45 = .ok (.iconst 0, 1) := by decide +kernel
theorem dX7_writeRow_46 : decode cX7_writeRow 46 = .ok (.istore_n 3, 1) := by decide +kernel
theorem dX7_writeRow_47 : decode cX7_writeRow 47 = .ok (.iload_n 3, 1) := by decide +kernel
theorem dX7_writeRow_48 : decode cX7_writeRow 48 = .ok (.iload_n 2, 1) := by decide +kernel
theorem dX7_writeRow_49 : decode cX7_writeRow 49 = .ok (.iconst 2, 1) := by decide +kernel
theorem dX7_writeRow_50 : decode cX7_writeRow 50 = .ok (.idiv, 1) := by decide +kernel
theorem dX7_writeRow_51 : decode cX7_writeRow 51 = .ok (.if_icmp .ge 45, 3) := by decide +kernel
theorem dX7_writeRow_54 : decode cX7_writeRow 54 = .ok (.aload_n 0, 1) := by decide +kernel
theorem dX7_writeRow_55 : decode cX7_writeRow 55 = .ok (.getfield 27, 3) := by decide +kernel
theorem dX7_writeRow_58 : decode cX7_writeRow 58 = .ok (.iload_n 3, 1) := by decide +kernel
theorem dX7_writeRow_59 : decode cX7_writeRow 59 = .ok (.iaload, 1) := by decide +kernel
theorem dX7_writeRow_60 : decode cX7_writeRow 60 = .ok (.istore 4, 2) := by decide +kernel
theorem dX7_writeRow_62 : decode cX7_writeRow 62 = .ok (.aload_n 0, 1) := by decide +kernel
theorem dX7_writeRow_63 : decode cX7_writeRow 63 = .ok (.getfield 27, 3) := by decide +kernel
theorem dX7_writeRow_66 : decode cX7_writeRow 66 = .ok (.iload_n 3, 1) := by decide +kernel
theorem dX7_writeRow_67 : decode cX7_writeRow 67 = .ok (.aload_n 0, 1) := by decide +kernel
theorem dX7_writeRow_68 : decode cX7_writeRow 68 = .ok (.getfield 27, 3) := by decide +kernel
theorem dX7_writeRow_71 : decode cX7_writeRow 71 = .ok (.iload_n 2, 1) := by decide +kernel
theorem dX7_writeRow_72 : decode cX7_writeRow 72 = .ok (.iconst 1, 1) := by decide +kernel
theorem dX7_writeRow_73 : decode cX7_writeRow 73 = .ok (.isub, 1) := by decide +kernel
theorem dX7_writeRow_74 : decode cX7_writeRow 74 = .ok (.iload_n 3, 1) := by decide +kernel
theorem dX7_writeRow_75 : decode cX7_writeRow 75 = .ok (.isub, 1) := by decide +kernel
theorem dX7_writeRow_76 : decode cX7_writeRow 76 = .ok (.iaload, 1) := by decide +kernel
theorem dX7_writeRow_77 : decode cX7_writeRow 77 = .ok (.iastore, 1) := by decide +kernel
theorem dX7_writeRow_78 : decode cX7_writeRow 78 = .ok (.aload_n 0, 1) := by decide +kernel
theorem dX7_writeRow_79 : decode cX7_writeRow 79 = .ok (.getfield 27, 3) := by decide +kernel
theorem dX7_writeRow_82 : decode cX7_writeRow 82 = .ok (.iload_n 2, 1) := by decide +kernel
theorem dX7_writeRow_83 : decode cX7_writeRow 83 = .ok (.iconst 1, 1) := by decide +kernel
theorem dX7_writeRow_84 : decode cX7_writeRow 84 = .ok (.isub, 1) := by decide +kernel
theorem dX7_writeRow_85 : decode cX7_writeRow 85 = .ok (.iload_n 3, 1) := by decide +kernel
theorem dX7_writeRow_86 : decode cX7_writeRow 86 = .ok (.isub, 1) := by decide +kernel
theorem dX7_writeRow_87 : decode cX7_writeRow 87 = .ok (.iload 4, 2) := by decide +kernel
theorem dX7_writeRow_89 : decode cX7_writeRow 89 = .ok (.iastore, 1) := by decide +kernel
theorem dX7_writeRow_90 : decode cX7_writeRow 90 = .ok (.iinc 3 1, 3) := by decide +kernel
theorem dX7_writeRow_93 : decode cX7_writeRow 93 = .ok (.goto (-46), 3) := by decide +kernel
theorem dX7_writeRow_96 : decode cX7_writeRow 96 = .ok (.iload_n 2, 1) := by decide +kernel
theorem dX7_writeRow_97 : decode cX7_writeRow 97 = .ok (.ireturn, 1) := by decide +kernel
theorem dX8_init_0 : decode cX8_init 0 = .ok (.aload_n 0, 1) := by decide +kernel
theorem dX8_init_1 : decode cX8_init 1 = .ok (.invokespecial 3, 3) := by decide +kernel
theorem dX8_init_4 : decode cX8_init 4 = .ok (.aload_n 0, 1) := by decide +kernel
theorem dX8_init_5 : decode cX8_init 5 = .ok (.iconst 0, 1) := by decide +kernel
theorem dX8_init_6 : decode cX8_init 6 = .ok (.putfield 9, 3) := by decide +kernel
theorem dX8_init_9 : decode cX8_init 9 = .ok (.aload_n 0, 1) := by decide +kernel
theorem dX8_init_10 : decode cX8_init 10 = .ok (.bipush 6, 2) := by decide +kernel
theorem dX8_init_12 : decode cX8_init 12 = .ok (.newarray .int, 2) := by decide +kernel
theorem dX8_init_14 : decode cX8_init 14 = .ok (.putfield 15, 3) := by decide +kernel
theorem dX8_init_17 : decode cX8_init 17 = .ok (.aload_n 0, 1) := by decide +kernel
theorem dX8_init_18 : decode cX8_init 18 = .ok (.bipush 6, 2) := by decide +kernel
theorem dX8_init_20 : decode cX8_init 20 = .ok (.newarray .int, 2) := by decide +kernel
theorem dX8_init_22 : decode cX8_init 22 = .ok (.putfield 19, 3) := by decide +kernel
theorem dX8_init_25 : decode cX8_init 25 = .ok (.aload_n 0, 1) := by decide +kernel
theorem dX8_init_26 : decode cX8_init 26 = .ok (.bipush 6, 2) := by decide +kernel
theorem dX8_init_28 : decode cX8_init 28 = .ok (.newarray .int, 2) := by decide +kernel
theorem dX8_init_30 : decode cX8_init 30 = .ok (.putfield 22, 3) := by decide +kernel
theorem dX8_init_33 : decode cX8_init 33 = .ok (.return_, 1) := by decide +kernel
theorem dX8_hasSides_0 : decode cX8_hasSides 0 = .ok (.iload_n 0, 1) := by decide +kernel
theorem dX8_hasSides_1 : decode cX8_hasSides 1 = .ok (.iconst 1, 1) := by decide +kernel
theorem dX8_hasSides_2 : decode cX8_hasSides 2 = .ok (.if_icmp .lt 24, 3) := by decide +kernel
theorem dX8_hasSides_5 : decode cX8_hasSides 5 = .ok (.iload_n 0, 1) := by decide +kernel
theorem dX8_hasSides_6 : decode cX8_hasSides 6 = .ok (.bipush 24, 2) := by decide +kernel
theorem dX8_hasSides_8 : decode cX8_hasSides 8 = .ok (.if_icmp .gt 18, 3) := by decide +kernel
theorem dX8_hasSides_11 : decode cX8_hasSides 11 = .ok (.iload_n 1, 1) := by decide +kernel
theorem dX8_hasSides_12 : decode cX8_hasSides 12 = .ok (.iconst 1, 1) := by decide +kernel
theorem dX8_hasSides_13 : decode cX8_hasSides 13 = .ok (.if_icmp .lt 13, 3) := by decide +kernel
theorem dX8_hasSides_16 : decode cX8_hasSides 16 = .ok (.iload_n 1, 1) := by decide +kernel
theorem dX8_hasSides_17 : decode cX8_hasSides 17 = .ok (.bipush 24, 2) := by decide +kernel
theorem dX8_hasSides_19 : decode cX8_hasSides 19 = .ok (.if_icmp .gt 7, 3) := by decide +kernel
theorem dX8_hasSides_22 : decode cX8_hasSides 22 = .ok (.iconst 1, 1) := by decide +kernel
theorem dX8_hasSides_23 : decode cX8_hasSides 23 = .ok (.goto 4, 3) := by decide +kernel
theorem dX8_hasSides_26 : decode cX8_hasSides 26 = .ok (.iconst 0, 1) := by decide +kernel
theorem dX8_hasSides_27 : decode cX8_hasSides 27 = .ok (.ireturn, 1) := by decide +kernel
theorem dX8_add_0 : decode cX8_add 0 = .ok (.aload_n 0, 1) := by decide +kernel
theorem dX8_add_1 : decode cX8_add 1 = .ok (.getfield 9, 3) := by decide +kernel
theorem dX8_add_4 : decode cX8_add 4 = .ok (.bipush 6, 2) := by decide +kernel
theorem dX8_add_6 : decode cX8_add 6 = .ok (.if_icmp .ge 23, 3) := by decide +kernel
theorem dX8_add_9 : decode cX8_add 9 = .ok (.iload_n 1, 1) := by decide +kernel
theorem dX8_add_10 : decode cX8_add 10 = .ok (.iload_n 2, 1) := by decide +kernel
theorem dX8_add_11 : decode cX8_add 11 = .ok (.invokestatic 25, 3) := by decide +kernel
theorem dX8_add_14 : decode cX8_add 14 = .ok (.ifCond .eq 15, 3) := by decide +kernel
theorem dX8_add_17 : decode cX8_add 17 = .ok (.iload_n 3, 1) := by decide +kernel
theorem dX8_add_18 : decode cX8_add 18 = .ok (.iconst 1, 1) := by decide +kernel
theorem dX8_add_19 : decode cX8_add 19 = .ok (.if_icmp .lt 10, 3) := by decide +kernel
theorem dX8_add_22 : decode cX8_add 22 = .ok (.iload_n 3, 1) := by decide +kernel
theorem dX8_add_23 : decode cX8_add 23 = .ok (.sipush 999, 3) := by decide +kernel
theorem dX8_add_26 : decode cX8_add 26 = .ok (.if_icmp .le 5, 3) := by decide +kernel
theorem dX8_add_29 : decode cX8_add 29 = .ok (.iconst (-1), 1) := by decide +kernel
theorem dX8_add_30 : decode cX8_add 30 = .ok (.ireturn, 1) := by decide +kernel
theorem dX8_add_31 : decode cX8_add 31 = .ok (.aload_n 0, 1) := by decide +kernel
theorem dX8_add_32 : decode cX8_add 32 = .ok (.getfield 15, 3) := by decide +kernel
theorem dX8_add_35 : decode cX8_add 35 = .ok (.aload_n 0, 1) := by decide +kernel
theorem dX8_add_36 : decode cX8_add 36 = .ok (.getfield 9, 3) := by decide +kernel
theorem dX8_add_39 : decode cX8_add 39 = .ok (.iload_n 1, 1) := by decide +kernel
theorem dX8_add_40 : decode cX8_add 40 = .ok (.iastore, 1) := by decide +kernel
theorem dX8_add_41 : decode cX8_add 41 = .ok (.aload_n 0, 1) := by decide +kernel
theorem dX8_add_42 : decode cX8_add 42 = .ok (.getfield 19, 3) := by decide +kernel
theorem dX8_add_45 : decode cX8_add 45 = .ok (.aload_n 0, 1) := by decide +kernel
theorem dX8_add_46 : decode cX8_add 46 = .ok (.getfield 9, 3) := by decide +kernel
theorem dX8_add_49 : decode cX8_add 49 = .ok (.iload_n 2, 1) := by decide +kernel
theorem dX8_add_50 : decode cX8_add 50 = .ok (.iastore, 1) := by decide +kernel
theorem dX8_add_51 : decode cX8_add 51 = .ok (.aload_n 0, 1) := by decide +kernel
theorem dX8_add_52 : decode cX8_add 52 = .ok (.getfield 22, 3) := by decide +kernel
theorem dX8_add_55 : decode cX8_add 55 = .ok (.aload_n 0, 1) := by decide +kernel
theorem dX8_add_56 : decode cX8_add 56 = .ok (.getfield 9, 3) := by decide +kernel
theorem dX8_add_59 : decode cX8_add 59 = .ok (.iload_n 3, 1) := by decide +kernel
theorem dX8_add_60 : decode cX8_add 60 = .ok (.iastore, 1) := by decide +kernel
theorem dX8_add_61 : decode cX8_add 61 = .ok (.aload_n 0, 1) := by decide +kernel
theorem dX8_add_62 : decode cX8_add 62 = .ok (.dup, 1) := by decide +kernel
theorem dX8_add_63 : decode cX8_add 63 = .ok (.getfield 9, 3) := by decide +kernel
theorem dX8_add_66 : decode cX8_add 66 = .ok (.iconst 1, 1) := by decide +kernel
theorem dX8_add_67 : decode cX8_add 67 = .ok (.iadd, 1) := by decide +kernel
theorem dX8_add_68 : decode cX8_add 68 = .ok (.putfield 9, 3) := by decide +kernel
theorem dX8_add_71 : decode cX8_add 71 = .ok (.aload_n 0, 1) := by decide +kernel
theorem dX8_add_72 : decode cX8_add 72 = .ok (.getfield 9, 3) := by decide +kernel
theorem dX8_add_75 : decode cX8_add 75 = .ok (.iconst 1, 1) := by decide +kernel
theorem dX8_add_76 : decode cX8_add 76 = .ok (.isub, 1) := by decide +kernel
theorem dX8_add_77 : decode cX8_add 77 = .ok (.ireturn, 1) := by decide +kernel
theorem dX8_has_0 : decode cX8_has 0 = .ok (.iload_n 1, 1) := by decide +kernel
theorem dX8_has_1 : decode cX8_has 1 = .ok (.ifCond .lt 15, 3) := by decide +kernel
theorem dX8_has_4 : decode cX8_has 4 = .ok (.iload_n 1, 1) := by decide +kernel
theorem dX8_has_5 : decode cX8_has 5 = .ok (.aload_n 0, 1) := by decide +kernel
theorem dX8_has_6 : decode cX8_has 6 = .ok (.getfield 9, 3) := by decide +kernel
theorem dX8_has_9 : decode cX8_has 9 = .ok (.if_icmp .ge 7, 3) := by decide +kernel
theorem dX8_has_12 : decode cX8_has 12 = .ok (.iconst 1, 1) := by decide +kernel
theorem dX8_has_13 : decode cX8_has 13 = .ok (.goto 4, 3) := by decide +kernel
theorem dX8_has_16 : decode cX8_has 16 = .ok (.iconst 0, 1) := by decide +kernel
theorem dX8_has_17 : decode cX8_has 17 = .ok (.ireturn, 1) := by decide +kernel
theorem dX8_worthOf_0 : decode cX8_worthOf 0 = .ok (.aload_n 0, 1) := by decide +kernel
theorem dX8_worthOf_1 : decode cX8_worthOf 1 = .ok (.iload_n 1, 1) := by decide +kernel
theorem dX8_worthOf_2 : decode cX8_worthOf 2 = .ok (.invokevirtual 29, 3) := by decide +kernel
theorem dX8_worthOf_5 : decode cX8_worthOf 5 = .ok (.ifCond .eq 12, 3) := by decide +kernel
theorem dX8_worthOf_8 : decode cX8_worthOf 8 = .ok (.aload_n 0, 1) := by decide +kernel
theorem dX8_worthOf_9 : decode cX8_worthOf 9 = .ok (.getfield 22, 3) := by decide +kernel
theorem dX8_worthOf_12 : decode cX8_worthOf 12 = .ok (.iload_n 1, 1) := by decide +kernel
theorem dX8_worthOf_13 : decode cX8_worthOf 13 = .ok (.iaload, 1) := by decide +kernel
theorem dX8_worthOf_14 : decode cX8_worthOf 14 = .ok (.goto 4, 3) := by decide +kernel
theorem dX8_worthOf_17 : decode cX8_worthOf 17 = .ok (.iconst 0, 1) := by decide +kernel
theorem dX8_worthOf_18 : decode cX8_worthOf 18 = .ok (.ireturn, 1) := by decide +kernel
theorem dX8_dearestIn_0 : decode cX8_dearestIn 0 = .ok (.iconst (-1), 1) := by decide +kernel
theorem dX8_dearestIn_1 : decode cX8_dearestIn 1 = .ok (.istore_n 3, 1) := by decide +kernel
theorem dX8_dearestIn_2 : decode cX8_dearestIn 2 = .ok (.iconst 0, 1) := by decide +kernel
theorem dX8_dearestIn_3 : decode cX8_dearestIn 3 = .ok (.istore 4, 2) := by decide +kernel
theorem dX8_dearestIn_5 : decode cX8_dearestIn 5 = .ok (.iload 4, 2) := by decide +kernel
theorem dX8_dearestIn_7 : decode cX8_dearestIn 7 = .ok (.aload_n 0, 1) := by decide +kernel
theorem dX8_dearestIn_8 : decode cX8_dearestIn 8 = .ok (.getfield 9, 3) := by decide +kernel
theorem dX8_dearestIn_11 : decode cX8_dearestIn 11 = .ok (.if_icmp .ge 56, 3) := by decide +kernel
theorem dX8_dearestIn_14 : decode cX8_dearestIn 14 = .ok (.iload 4, 2) := by decide +kernel
theorem dX8_dearestIn_16 : decode cX8_dearestIn 16 = .ok (.bipush 6, 2) := by decide +kernel
theorem dX8_dearestIn_18 : decode cX8_dearestIn 18 = .ok (.if_icmp .ge 49, 3) := by decide +kernel
theorem dX8_dearestIn_21 : decode cX8_dearestIn 21 = .ok (.aload_n 0, 1) := by decide +kernel
theorem dX8_dearestIn_22 : decode cX8_dearestIn 22 = .ok (.getfield 15, 3) := by decide +kernel
theorem dX8_dearestIn_25 : decode cX8_dearestIn 25 = .ok (.iload 4, 2) := by decide +kernel
theorem dX8_dearestIn_27 : decode cX8_dearestIn 27 = .ok (.iaload, 1) := by decide +kernel
theorem dX8_dearestIn_28 : decode cX8_dearestIn 28 = .ok (.iload_n 1, 1) := by decide +kernel
theorem dX8_dearestIn_29 : decode cX8_dearestIn 29 = .ok (.if_icmp .gt 32, 3) := by decide +kernel
theorem dX8_dearestIn_32 : decode cX8_dearestIn 32 = .ok (.aload_n 0, 1) := by decide +kernel
theorem dX8_dearestIn_33 : decode cX8_dearestIn 33 = .ok (.getfield 19, 3) := by decide +kernel
theorem dX8_dearestIn_36 : decode cX8_dearestIn 36 = .ok (.iload 4, 2) := by decide +kernel
theorem dX8_dearestIn_38 : decode cX8_dearestIn 38 = .ok (.iaload, 1) := by decide +kernel
theorem dX8_dearestIn_39 : decode cX8_dearestIn 39 = .ok (.iload_n 2, 1) := by decide +kernel
theorem dX8_dearestIn_40 : decode cX8_dearestIn 40 = .ok (.if_icmp .gt 21, 3) := by decide +kernel
theorem dX8_dearestIn_43 : decode cX8_dearestIn 43 = .ok (.aload_n 0, 1) := by decide +kernel
theorem dX8_dearestIn_44 : decode cX8_dearestIn 44 = .ok (.getfield 22, 3) := by decide +kernel
theorem dX8_dearestIn_47 : decode cX8_dearestIn 47 = .ok (.iload 4, 2) := by decide +kernel
theorem dX8_dearestIn_49 : decode cX8_dearestIn 49 = .ok (.iaload, 1) := by decide +kernel
theorem dX8_dearestIn_50 : decode cX8_dearestIn 50 = .ok (.aload_n 0, 1) := by decide +kernel
theorem dX8_dearestIn_51 : decode cX8_dearestIn 51 = .ok (.iload_n 3, 1) := by decide +kernel
theorem dX8_dearestIn_52 : decode cX8_dearestIn 52 = .ok (.invokevirtual 33, 3) := by decide +kernel
theorem dX8_dearestIn_55 : decode cX8_dearestIn 55 = .ok (.if_icmp .le 6, 3) := by decide +kernel
theorem dX8_dearestIn_58 : decode cX8_dearestIn 58 = .ok (.iload 4, 2) := by decide +kernel
theorem dX8_dearestIn_60 : decode cX8_dearestIn 60 = .ok (.istore_n 3, 1) := by decide +kernel
theorem dX8_dearestIn_61 : decode cX8_dearestIn 61 = .ok (.iinc 4 1, 3) := by decide +kernel
theorem dX8_dearestIn_64 : decode cX8_dearestIn 64 = .ok (.goto (-59), 3) := by decide +kernel
theorem dX8_dearestIn_67 : decode cX8_dearestIn 67 = .ok (.iload_n 3, 1) := by decide +kernel
theorem dX8_dearestIn_68 : decode cX8_dearestIn 68 = .ok (.ireturn, 1) := by decide +kernel
theorem dX8_copyFrom_0 : decode cX8_copyFrom 0 = .ok (.aload_n 0, 1) := by decide +kernel
theorem dX8_copyFrom_1 : decode cX8_copyFrom 1 = .ok (.aload_n 1, 1) := by decide +kernel
theorem dX8_copyFrom_2 : decode cX8_copyFrom 2 = .ok (.getfield 9, 3) := by decide +kernel
theorem dX8_copyFrom_5 : decode cX8_copyFrom 5 = .ok (.putfield 9, 3) := by decide +kernel
theorem dX8_copyFrom_8 : decode cX8_copyFrom 8 = .ok (.aload_n 1, 1) := by decide +kernel
theorem dX8_copyFrom_9 : decode cX8_copyFrom 9 = .ok (.getfield 15, 3) := by decide +kernel
theorem dX8_copyFrom_12 : decode cX8_copyFrom 12 = .ok (.iconst 0, 1) := by decide +kernel
theorem dX8_copyFrom_13 : decode cX8_copyFrom 13 = .ok (.aload_n 0, 1) := by decide +kernel
theorem dX8_copyFrom_14 : decode cX8_copyFrom 14 = .ok (.getfield 15, 3) := by decide +kernel
theorem dX8_copyFrom_17 : decode cX8_copyFrom 17 = .ok (.iconst 0, 1) := by decide +kernel
theorem dX8_copyFrom_18 : decode cX8_copyFrom 18 = .ok (.bipush 6, 2) := by decide +kernel
theorem dX8_copyFrom_20 : decode cX8_copyFrom 20 = .ok (.invokestatic 37, 3) := by decide +kernel
theorem dX8_copyFrom_23 : decode cX8_copyFrom 23 = .ok (.aload_n 1, 1) := by decide +kernel
theorem dX8_copyFrom_24 : decode cX8_copyFrom 24 = .ok (.getfield 19, 3) := by decide +kernel
theorem dX8_copyFrom_27 : decode cX8_copyFrom 27 = .ok (.iconst 0, 1) := by decide +kernel
theorem dX8_copyFrom_28 : decode cX8_copyFrom 28 = .ok (.aload_n 0, 1) := by decide +kernel
theorem dX8_copyFrom_29 : decode cX8_copyFrom 29 = .ok (.getfield 19, 3) := by decide +kernel
theorem dX8_copyFrom_32 : decode cX8_copyFrom 32 = .ok (.iconst 0, 1) := by decide +kernel
theorem dX8_copyFrom_33 : decode cX8_copyFrom 33 = .ok (.bipush 6, 2) := by decide +kernel
theorem dX8_copyFrom_35 : decode cX8_copyFrom 35 = .ok (.invokestatic 37, 3) := by decide +kernel
theorem dX8_copyFrom_38 : decode cX8_copyFrom 38 = .ok (.aload_n 1, 1) := by decide +kernel
theorem dX8_copyFrom_39 : decode cX8_copyFrom 39 = .ok (.getfield 22, 3) := by decide +kernel
theorem dX8_copyFrom_42 : decode cX8_copyFrom 42 = .ok (.iconst 0, 1) := by decide +kernel
theorem dX8_copyFrom_43 : decode cX8_copyFrom 43 = .ok (.aload_n 0, 1) := by decide +kernel
theorem dX8_copyFrom_44 : decode cX8_copyFrom 44 = .ok (.getfield 22, 3) := by decide +kernel
theorem dX8_copyFrom_47 : decode cX8_copyFrom 47 = .ok (.iconst 0, 1) := by decide +kernel
theorem dX8_copyFrom_48 : decode cX8_copyFrom 48 = .ok (.bipush 6, 2) := by decide +kernel
theorem dX8_copyFrom_50 : decode cX8_copyFrom 50 = .ok (.invokestatic 37, 3) := by decide +kernel
theorem dX8_copyFrom_53 : decode cX8_copyFrom 53 = .ok (.return_, 1) := by decide +kernel
theorem dX9_init_0 : decode cX9_init 0 = .ok (.aload_n 0, 1) := by decide +kernel
theorem dX9_init_1 : decode cX9_init 1 = .ok (.invokespecial 1, 3) := by decide +kernel
theorem dX9_init_4 : decode cX9_init 4 = .ok (.aload_n 0, 1) := by decide +kernel
theorem dX9_init_5 : decode cX9_init 5 = .ok (.new 7, 3) := by decide +kernel
theorem dX9_init_8 : decode cX9_init 8 = .ok (.dup, 1) := by decide +kernel
theorem dX9_init_9 : decode cX9_init 9 = .ok (.invokespecial 9, 3) := by decide +kernel
theorem dX9_init_12 : decode cX9_init 12 = .ok (.putfield 10, 3) := by decide +kernel
theorem dX9_init_15 : decode cX9_init 15 = .ok (.aload_n 0, 1) := by decide +kernel
theorem dX9_init_16 : decode cX9_init 16 = .ok (.new 16, 3) := by decide +kernel
theorem dX9_init_19 : decode cX9_init 19 = .ok (.dup, 1) := by decide +kernel
theorem dX9_init_20 : decode cX9_init 20 = .ok (.invokespecial 18, 3) := by decide +kernel
theorem dX9_init_23 : decode cX9_init 23 = .ok (.putfield 19, 3) := by decide +kernel
theorem dX9_init_26 : decode cX9_init 26 = .ok (.aload_n 0, 1) := by decide +kernel
theorem dX9_init_27 : decode cX9_init 27 = .ok (.new 23, 3) := by decide +kernel
theorem dX9_init_30 : decode cX9_init 30 = .ok (.dup, 1) := by decide +kernel
theorem dX9_init_31 : decode cX9_init 31 = .ok (.invokespecial 25, 3) := by decide +kernel
theorem dX9_init_34 : decode cX9_init 34 = .ok (.putfield 26, 3) := by decide +kernel
theorem dX9_init_37 : decode cX9_init 37 = .ok (.aload_n 0, 1) := by decide +kernel
theorem dX9_init_38 : decode cX9_init 38 = .ok (.new 30, 3) := by decide +kernel
theorem dX9_init_41 : decode cX9_init 41 = .ok (.dup, 1) := by decide +kernel
theorem dX9_init_42 : decode cX9_init 42 = .ok (.invokespecial 32, 3) := by decide +kernel
theorem dX9_init_45 : decode cX9_init 45 = .ok (.putfield 33, 3) := by decide +kernel
theorem dX9_init_48 : decode cX9_init 48 = .ok (.aload_n 0, 1) := by decide +kernel
theorem dX9_init_49 : decode cX9_init 49 = .ok (.new 37, 3) := by decide +kernel
theorem dX9_init_52 : decode cX9_init 52 = .ok (.dup, 1) := by decide +kernel
theorem dX9_init_53 : decode cX9_init 53 = .ok (.invokespecial 39, 3) := by decide +kernel
theorem dX9_init_56 : decode cX9_init 56 = .ok (.putfield 40, 3) := by decide +kernel
theorem dX9_init_59 : decode cX9_init 59 = .ok (.aload_n 0, 1) := by decide +kernel
theorem dX9_init_60 : decode cX9_init 60 = .ok (.new 44, 3) := by decide +kernel
theorem dX9_init_63 : decode cX9_init 63 = .ok (.dup, 1) := by decide +kernel
theorem dX9_init_64 : decode cX9_init 64 = .ok (.invokespecial 46, 3) := by decide +kernel
theorem dX9_init_67 : decode cX9_init 67 = .ok (.putfield 47, 3) := by decide +kernel
theorem dX9_init_70 : decode cX9_init 70 = .ok (.aload_n 0, 1) := by decide +kernel
theorem dX9_init_71 : decode cX9_init 71 = .ok (.bipush 10, 2) := by decide +kernel
theorem dX9_init_73 : decode cX9_init 73 = .ok (.putfield 51, 3) := by decide +kernel
theorem dX9_init_76 : decode cX9_init 76 = .ok (.aload_n 0, 1) := by decide +kernel
theorem dX9_init_77 : decode cX9_init 77 = .ok (.bipush 50, 2) := by decide +kernel
theorem dX9_init_79 : decode cX9_init 79 = .ok (.putfield 55, 3) := by decide +kernel
theorem dX9_init_82 : decode cX9_init 82 = .ok (.aload_n 0, 1) := by decide +kernel
theorem dX9_init_83 : decode cX9_init 83 = .ok (.sipush 200, 3) := by decide +kernel
theorem dX9_init_86 : decode cX9_init 86 = .ok (.putfield 58, 3) := by decide +kernel
theorem dX9_init_89 : decode cX9_init 89 = .ok (.aload_n 0, 1) := by decide +kernel
theorem dX9_init_90 : decode cX9_init 90 = .ok (.iconst 1, 1) := by decide +kernel
theorem dX9_init_91 : decode cX9_init 91 = .ok (.putfield 61, 3) := by decide +kernel
theorem dX9_init_94 : decode cX9_init 94 = .ok (.return_, 1) := by decide +kernel
theorem dX9_setRule_0 : decode cX9_setRule 0 = .ok (.iload_n 1, 1) := by decide +kernel
theorem dX9_setRule_1 : decode cX9_setRule 1 = .ok (.ifCond .ne 22, 3) := by decide +kernel
theorem dX9_setRule_4 : decode cX9_setRule 4 = .ok (.iload_n 2, 1) := by decide +kernel
theorem dX9_setRule_5 : decode cX9_setRule 5 = .ok (.iconst 1, 1) := by decide +kernel
theorem dX9_setRule_6 : decode cX9_setRule 6 = .ok (.if_icmp .lt 17, 3) := by decide +kernel
theorem dX9_setRule_9 : decode cX9_setRule 9 = .ok (.iload_n 2, 1) := by decide +kernel
theorem dX9_setRule_10 : decode cX9_setRule 10 = .ok (.bipush 30, 2) := by decide +kernel
theorem dX9_setRule_12 : decode cX9_setRule 12 = .ok (.if_icmp .gt 11, 3) := by decide +kernel
theorem dX9_setRule_15 : decode cX9_setRule 15 = .ok (.aload_n 0, 1) := by decide +kernel
theorem dX9_setRule_16 : decode cX9_setRule 16 = .ok (.iload_n 2, 1) := by decide +kernel
theorem dX9_setRule_17 : decode cX9_setRule 17 = .ok (.putfield 51, 3) := by decide +kernel
theorem dX9_setRule_20 : decode cX9_setRule 20 = .ok (.goto 75, 3) := by decide +kernel
theorem dX9_setRule_23 : decode cX9_setRule 23 = .ok (.iload_n 1, 1) := by decide +kernel
theorem dX9_setRule_24 : decode cX9_setRule 24 = .ok (.iconst 1, 1) := by decide +kernel
theorem dX9_setRule_25 : decode cX9_setRule 25 = .ok (.if_icmp .ne 21, 3) := by decide +kernel
theorem dX9_setRule_28 : decode cX9_setRule 28 = .ok (.iload_n 2, 1) := by decide +kernel
theorem dX9_setRule_29 : decode cX9_setRule 29 = .ok (.ifCond .lt 17, 3) := by decide +kernel
theorem dX9_setRule_32 : decode cX9_setRule 32 = .ok (.iload_n 2, 1) := by decide +kernel
theorem dX9_setRule_33 : decode cX9_setRule 33 = .ok (.bipush 100, 2) := by decide +kernel
theorem dX9_setRule_35 : decode cX9_setRule 35 = .ok (.if_icmp .gt 11, 3) := by decide +kernel
theorem dX9_setRule_38 : decode cX9_setRule 38 = .ok (.aload_n 0, 1) := by decide +kernel
theorem dX9_setRule_39 : decode cX9_setRule 39 = .ok (.iload_n 2, 1) := by decide +kernel
theorem dX9_setRule_40 : decode cX9_setRule 40 = .ok (.putfield 55, 3) := by decide +kernel
theorem dX9_setRule_43 : decode cX9_setRule 43 = .ok (.goto 52, 3) := by decide +kernel
theorem dX9_setRule_46 : decode cX9_setRule 46 = .ok (.iload_n 1, 1) := by decide +kernel
theorem dX9_setRule_47 : decode cX9_setRule 47 = .ok (.iconst 2, 1) := by decide +kernel
theorem dX9_setRule_48 : decode cX9_setRule 48 = .ok (.if_icmp .ne 23, 3) := by decide +kernel
theorem dX9_setRule_51 : decode cX9_setRule 51 = .ok (.iload_n 2, 1) := by decide +kernel
theorem dX9_setRule_52 : decode cX9_setRule 52 = .ok (.iconst 1, 1) := by decide +kernel
theorem dX9_setRule_53 : decode cX9_setRule 53 = .ok (.if_icmp .lt 18, 3) := by decide +kernel
theorem dX9_setRule_56 : decode cX9_setRule 56 = .ok (.iload_n 2, 1) := by decide +kernel
theorem dX9_setRule_57 : decode cX9_setRule 57 = .ok (.sipush 5000, 3) := by decide +kernel
theorem dX9_setRule_60 : decode cX9_setRule 60 = .ok (.if_icmp .gt 11, 3) := by decide +kernel
theorem dX9_setRule_63 : decode cX9_setRule 63 = .ok (.aload_n 0, 1) := by decide +kernel
theorem dX9_setRule_64 : decode cX9_setRule 64 = .ok (.iload_n 2, 1) := by decide +kernel
theorem dX9_setRule_65 : decode cX9_setRule 65 = .ok (.putfield 58, 3) := by decide +kernel
theorem dX9_setRule_68 : decode cX9_setRule 68 = .ok (.goto 27, 3) := by decide +kernel
theorem dX9_setRule_71 : decode cX9_setRule 71 = .ok (.iload_n 1, 1) := by decide +kernel
theorem dX9_setRule_72 : decode cX9_setRule 72 = .ok (.iconst 3, 1) := by decide +kernel
theorem dX9_setRule_73 : decode cX9_setRule 73 = .ok (.if_icmp .ne 20, 3) := by decide +kernel
theorem dX9_setRule_76 : decode cX9_setRule 76 = .ok (.iload_n 2, 1) := by decide +kernel
theorem dX9_setRule_77 : decode cX9_setRule 77 = .ok (.ifCond .lt 16, 3) := by decide +kernel
theorem dX9_setRule_80 : decode cX9_setRule 80 = .ok (.iload_n 2, 1) := by decide +kernel
theorem dX9_setRule_81 : decode cX9_setRule 81 = .ok (.iconst 3, 1) := by decide +kernel
theorem dX9_setRule_82 : decode cX9_setRule 82 = .ok (.if_icmp .gt 11, 3) := by decide +kernel
theorem dX9_setRule_85 : decode cX9_setRule 85 = .ok (.aload_n 0, 1) := by decide +kernel
theorem dX9_setRule_86 : decode cX9_setRule 86 = .ok (.iload_n 2, 1) := by decide +kernel
theorem dX9_setRule_87 : decode cX9_setRule 87 = .ok (.putfield 61, 3) := by decide +kernel
theorem dX9_setRule_90 : decode cX9_setRule 90 = .ok (.goto 5, 3) := by decide +kernel
theorem dX9_setRule_93 : decode cX9_setRule 93 = .ok (.iconst 0, 1) := by decide +kernel
theorem dX9_setRule_94 : decode cX9_setRule 94 = .ok (.ireturn, 1) := by decide +kernel
theorem dX9_setRule_95 : decode cX9_setRule 95 = .ok (.iconst 1, 1) := by decide +kernel
theorem dX9_setRule_96 : decode cX9_setRule 96 = .ok (.ireturn, 1) := by decide +kernel
theorem dX9_copyFrom_0 : decode cX9_copyFrom 0 = .ok (.aload_n 0, 1) := by decide +kernel
theorem dX9_copyFrom_1 : decode cX9_copyFrom 1 = .ok (.getfield 10, 3) := by decide +kernel
theorem dX9_copyFrom_4 : decode cX9_copyFrom 4 = .ok (.aload_n 1, 1) := by decide +kernel
theorem dX9_copyFrom_5 : decode cX9_copyFrom 5 = .ok (.getfield 10, 3) := by decide +kernel
theorem dX9_copyFrom_8 : decode cX9_copyFrom 8 = .ok (.invokevirtual 64, 3) := by decide +kernel
theorem dX9_copyFrom_11 : decode cX9_copyFrom 11 = .ok (.aload_n 0, 1) := by decide +kernel
theorem dX9_copyFrom_12 : decode cX9_copyFrom 12 = .ok (.getfield 19, 3) := by decide +kernel
theorem dX9_copyFrom_15 : decode cX9_copyFrom 15 = .ok (.aload_n 1, 1) := by decide +kernel
theorem dX9_copyFrom_16 : decode cX9_copyFrom 16 = .ok (.getfield 19, 3) := by decide +kernel
theorem dX9_copyFrom_19 : decode cX9_copyFrom 19 = .ok (.invokevirtual 68, 3) := by decide +kernel
theorem dX9_copyFrom_22 : decode cX9_copyFrom 22 = .ok (.aload_n 0, 1) := by decide +kernel
theorem dX9_copyFrom_23 : decode cX9_copyFrom 23 = .ok (.getfield 26, 3) := by decide +kernel
theorem dX9_copyFrom_26 : decode cX9_copyFrom 26 = .ok (.aload_n 1, 1) := by decide +kernel
theorem dX9_copyFrom_27 : decode cX9_copyFrom 27 = .ok (.getfield 26, 3) := by decide +kernel
theorem dX9_copyFrom_30 : decode cX9_copyFrom 30 = .ok (.invokevirtual 71, 3) := by decide +kernel
theorem dX9_copyFrom_33 : decode cX9_copyFrom 33 = .ok (.aload_n 0, 1) := by decide +kernel
theorem dX9_copyFrom_34 : decode cX9_copyFrom 34 = .ok (.getfield 33, 3) := by decide +kernel
theorem dX9_copyFrom_37 : decode cX9_copyFrom 37 = .ok (.aload_n 1, 1) := by decide +kernel
theorem dX9_copyFrom_38 : decode cX9_copyFrom 38 = .ok (.getfield 33, 3) := by decide +kernel
theorem dX9_copyFrom_41 : decode cX9_copyFrom 41 = .ok (.invokevirtual 74, 3) := by decide +kernel
theorem dX9_copyFrom_44 : decode cX9_copyFrom 44 = .ok (.aload_n 0, 1) := by decide +kernel
theorem dX9_copyFrom_45 : decode cX9_copyFrom 45 = .ok (.getfield 40, 3) := by decide +kernel
theorem dX9_copyFrom_48 : decode cX9_copyFrom 48 = .ok (.aload_n 1, 1) := by decide +kernel
theorem dX9_copyFrom_49 : decode cX9_copyFrom 49 = .ok (.getfield 40, 3) := by decide +kernel
theorem dX9_copyFrom_52 : decode cX9_copyFrom 52 = .ok (.invokevirtual 77, 3) := by decide +kernel
theorem dX9_copyFrom_55 : decode cX9_copyFrom 55 = .ok (.aload_n 0, 1) := by decide +kernel
theorem dX9_copyFrom_56 : decode cX9_copyFrom 56 = .ok (.getfield 47, 3) := by decide +kernel
theorem dX9_copyFrom_59 : decode cX9_copyFrom 59 = .ok (.aload_n 1, 1) := by decide +kernel
theorem dX9_copyFrom_60 : decode cX9_copyFrom 60 = .ok (.getfield 47, 3) := by decide +kernel
theorem dX9_copyFrom_63 : decode cX9_copyFrom 63 = .ok (.invokevirtual 80, 3) := by decide +kernel
theorem dX9_copyFrom_66 : decode cX9_copyFrom 66 = .ok (.aload_n 0, 1) := by decide +kernel
theorem dX9_copyFrom_67 : decode cX9_copyFrom 67 = .ok (.aload_n 1, 1) := by decide +kernel
theorem dX9_copyFrom_68 : decode cX9_copyFrom 68 = .ok (.getfield 51, 3) := by decide +kernel
theorem dX9_copyFrom_71 : decode cX9_copyFrom 71 = .ok (.putfield 51, 3) := by decide +kernel
theorem dX9_copyFrom_74 : decode cX9_copyFrom 74 = .ok (.aload_n 0, 1) := by decide +kernel
theorem dX9_copyFrom_75 : decode cX9_copyFrom 75 = .ok (.aload_n 1, 1) := by decide +kernel
theorem dX9_copyFrom_76 : decode cX9_copyFrom 76 = .ok (.getfield 55, 3) := by decide +kernel
theorem dX9_copyFrom_79 : decode cX9_copyFrom 79 = .ok (.putfield 55, 3) := by decide +kernel
theorem dX9_copyFrom_82 : decode cX9_copyFrom 82 = .ok (.aload_n 0, 1) := by decide +kernel
theorem dX9_copyFrom_83 : decode cX9_copyFrom 83 = .ok (.aload_n 1, 1) := by decide +kernel
theorem dX9_copyFrom_84 : decode cX9_copyFrom 84 = .ok (.getfield 58, 3) := by decide +kernel
theorem dX9_copyFrom_87 : decode cX9_copyFrom 87 = .ok (.putfield 58, 3) := by decide +kernel
theorem dX9_copyFrom_90 : decode cX9_copyFrom 90 = .ok (.aload_n 0, 1) := by decide +kernel
theorem dX9_copyFrom_91 : decode cX9_copyFrom 91 = .ok (.aload_n 1, 1) := by decide +kernel
theorem dX9_copyFrom_92 : decode cX9_copyFrom 92 = .ok (.getfield 61, 3) := by decide +kernel
theorem dX9_copyFrom_95 : decode cX9_copyFrom 95 = .ok (.putfield 61, 3) := by decide +kernel
theorem dX9_copyFrom_98 : decode cX9_copyFrom 98 = .ok (.return_, 1) := by decide +kernel
theorem dX10_init_0 : decode cX10_init 0 = .ok (.aload_n 0, 1) := by decide +kernel
theorem dX10_init_1 : decode cX10_init 1 = .ok (.invokespecial 1, 3) := by decide +kernel
theorem dX10_init_4 : decode cX10_init 4 = .ok (.aload_n 0, 1) := by decide +kernel
theorem dX10_init_5 : decode cX10_init 5 = .ok (.new 7, 3) := by decide +kernel
theorem dX10_init_8 : decode cX10_init 8 = .ok (.dup, 1) := by decide +kernel
theorem dX10_init_9 : decode cX10_init 9 = .ok (.invokespecial 9, 3) := by decide +kernel
theorem dX10_init_12 : decode cX10_init 12 = .ok (.putfield 10, 3) := by decide +kernel
theorem dX10_init_15 : decode cX10_init 15 = .ok (.aload_n 0, 1) := by decide +kernel
theorem dX10_init_16 : decode cX10_init 16 = .ok (.iconst 3, 1) := by decide +kernel
theorem dX10_init_17 : decode cX10_init 17 = .ok (.anewarray 7, 3) := by decide +kernel
theorem dX10_init_20 : decode cX10_init 20 = .ok (.putfield 16, 3) := by decide +kernel
theorem dX10_init_23 : decode cX10_init 23 = .ok (.aload_n 0, 1) := by decide +kernel
theorem dX10_init_24 : decode cX10_init 24 = .ok (.new 20, 3) := by decide +kernel
theorem dX10_init_27 : decode cX10_init 27 = .ok (.dup, 1) := by decide +kernel
theorem dX10_init_28 : decode cX10_init 28 = .ok (.invokespecial 22, 3) := by decide +kernel
theorem dX10_init_31 : decode cX10_init 31 = .ok (.putfield 23, 3) := by decide +kernel
theorem dX10_init_34 : decode cX10_init 34 = .ok (.aload_n 0, 1) := by decide +kernel
theorem dX10_init_35 : decode cX10_init 35 = .ok (.new 27, 3) := by decide +kernel
theorem dX10_init_38 : decode cX10_init 38 = .ok (.dup, 1) := by decide +kernel
theorem dX10_init_39 : decode cX10_init 39 = .ok (.invokespecial 29, 3) := by decide +kernel
theorem dX10_init_42 : decode cX10_init 42 = .ok (.putfield 30, 3) := by decide +kernel
theorem dX10_init_45 : decode cX10_init 45 = .ok (.aload_n 0, 1) := by decide +kernel
theorem dX10_init_46 : decode cX10_init 46 = .ok (.new 34, 3) := by decide +kernel
theorem dX10_init_49 : decode cX10_init 49 = .ok (.dup, 1) := by decide +kernel
theorem dX10_init_50 : decode cX10_init 50 = .ok (.invokespecial 36, 3) := by decide +kernel
theorem dX10_init_53 : decode cX10_init 53 = .ok (.putfield 37, 3) := by decide +kernel
theorem dX10_init_56 : decode cX10_init 56 = .ok (.return_, 1) := by decide +kernel
theorem dX10_bin_0 : decode cX10_bin 0 = .ok (.aload_n 0, 1) := by decide +kernel
theorem dX10_bin_1 : decode cX10_bin 1 = .ok (.getfield 10, 3) := by decide +kernel
theorem dX10_bin_4 : decode cX10_bin 4 = .ok (.getfield 41, 3) := by decide +kernel
theorem dX10_bin_7 : decode cX10_bin 7 = .ok (.iload_n 1, 1) := by decide +kernel
theorem dX10_bin_8 : decode cX10_bin 8 = .ok (.iload_n 2, 1) := by decide +kernel
theorem dX10_bin_9 : decode cX10_bin 9 = .ok (.invokevirtual 45, 3) := by decide +kernel
theorem dX10_bin_12 : decode cX10_bin 12 = .ok (.ireturn, 1) := by decide +kernel
theorem dX10_fill_0 : decode cX10_fill 0 = .ok (.aload_n 0, 1) := by decide +kernel
theorem dX10_fill_1 : decode cX10_fill 1 = .ok (.getfield 10, 3) := by decide +kernel
theorem dX10_fill_4 : decode cX10_fill 4 = .ok (.getfield 41, 3) := by decide +kernel
theorem dX10_fill_7 : decode cX10_fill 7 = .ok (.iload_n 1, 1) := by decide +kernel
theorem dX10_fill_8 : decode cX10_fill 8 = .ok (.iload_n 2, 1) := by decide +kernel
theorem dX10_fill_9 : decode cX10_fill 9 = .ok (.invokevirtual 51, 3) := by decide +kernel
theorem dX10_fill_12 : decode cX10_fill 12 = .ok (.ireturn, 1) := by decide +kernel
theorem dX10_lot_0 : decode cX10_lot 0 = .ok (.aload_n 0, 1) := by decide +kernel
theorem dX10_lot_1 : decode cX10_lot 1 = .ok (.getfield 10, 3) := by decide +kernel
theorem dX10_lot_4 : decode cX10_lot 4 = .ok (.getfield 55, 3) := by decide +kernel
theorem dX10_lot_7 : decode cX10_lot 7 = .ok (.iload_n 1, 1) := by decide +kernel
theorem dX10_lot_8 : decode cX10_lot 8 = .ok (.invokevirtual 59, 3) := by decide +kernel
theorem dX10_lot_11 : decode cX10_lot 11 = .ok (.ireturn, 1) := by decide +kernel
theorem dX10_rule_0 : decode cX10_rule 0 = .ok (.aload_n 0, 1) := by decide +kernel
theorem dX10_rule_1 : decode cX10_rule 1 = .ok (.getfield 10, 3) := by decide +kernel
theorem dX10_rule_4 : decode cX10_rule 4 = .ok (.iload_n 1, 1) := by decide +kernel
theorem dX10_rule_5 : decode cX10_rule 5 = .ok (.iload_n 2, 1) := by decide +kernel
theorem dX10_rule_6 : decode cX10_rule 6 = .ok (.invokevirtual 64, 3) := by decide +kernel
theorem dX10_rule_9 : decode cX10_rule 9 = .ok (.istore_n 3, 1) := by decide +kernel
theorem dX10_rule_10 : decode cX10_rule 10 = .ok (.iload_n 3, 1) := by decide +kernel
theorem dX10_rule_11 : decode cX10_rule 11 = .ok (.ifCond .eq 15, 3) := by decide +kernel
theorem dX10_rule_14 : decode cX10_rule 14 = .ok (.iload_n 1, 1) := by decide +kernel
theorem dX10_rule_15 : decode cX10_rule 15 = .ok (.iconst 3, 1) := by decide +kernel
theorem dX10_rule_16 : decode cX10_rule 16 = .ok (.if_icmp .ne 10, 3) := by decide +kernel
theorem dX10_rule_19 : decode cX10_rule 19 = .ok (.aload_n 0, 1) := by decide +kernel
theorem dX10_rule_20 : decode cX10_rule 20 = .ok (.getfield 37, 3) := by decide +kernel
theorem dX10_rule_23 : decode cX10_rule 23 = .ok (.invokevirtual 68, 3) := by decide +kernel
theorem dX10_rule_26 : decode cX10_rule 26 = .ok (.iload_n 3, 1) := by decide +kernel
theorem dX10_rule_27 : decode cX10_rule 27 = .ok (.ireturn, 1) := by decide +kernel
theorem dX10_lay_0 : decode cX10_lay 0 = .ok (.aload_n 0, 1) := by decide +kernel
theorem dX10_lay_1 : decode cX10_lay 1 = .ok (.getfield 10, 3) := by decide +kernel
theorem dX10_lay_4 : decode cX10_lay 4 = .ok (.getfield 41, 3) := by decide +kernel
theorem dX10_lay_7 : decode cX10_lay 7 = .ok (.astore 4, 2) := by decide +kernel
theorem dX10_lay_9 : decode cX10_lay 9 = .ok (.aload_n 0, 1) := by decide +kernel
theorem dX10_lay_10 : decode cX10_lay 10 = .ok (.getfield 10, 3) := by decide +kernel
theorem dX10_lay_13 : decode cX10_lay 13 = .ok (.getfield 71, 3) := by decide +kernel
theorem dX10_lay_16 : decode cX10_lay 16 = .ok (.invokevirtual 75, 3) := by decide +kernel
theorem dX10_lay_19 : decode cX10_lay 19 = .ok (.ifCond .ne 34, 3) := by decide +kernel
theorem dX10_lay_22 : decode cX10_lay 22 = .ok (.iload_n 3, 1) := by decide +kernel
theorem dX10_lay_23 : decode cX10_lay 23 = .ok (.bipush 10, 2) := by decide +kernel
theorem dX10_lay_25 : decode cX10_lay 25 = .ok (.if_icmp .lt 28, 3) := by decide +kernel
theorem dX10_lay_28 : decode cX10_lay 28 = .ok (.iload_n 3, 1) := by decide +kernel
theorem dX10_lay_29 : decode cX10_lay 29 = .ok (.sipush 10000, 3) := by decide +kernel
theorem dX10_lay_32 : decode cX10_lay 32 = .ok (.if_icmp .gt 21, 3) := by decide +kernel
theorem dX10_lay_35 : decode cX10_lay 35 = .ok (.aload 4, 2) := by decide +kernel
theorem dX10_lay_37 : decode cX10_lay 37 = .ok (.iload_n 1, 1) := by decide +kernel
theorem dX10_lay_38 : decode cX10_lay 38 = .ok (.invokevirtual 81, 3) := by decide +kernel
theorem dX10_lay_41 : decode cX10_lay 41 = .ok (.ifCond .eq 12, 3) := by decide +kernel
theorem dX10_lay_44 : decode cX10_lay 44 = .ok (.aload 4, 2) := by decide +kernel
theorem dX10_lay_46 : decode cX10_lay 46 = .ok (.iload_n 2, 1) := by decide +kernel
theorem dX10_lay_47 : decode cX10_lay 47 = .ok (.invokevirtual 81, 3) := by decide +kernel
theorem dX10_lay_50 : decode cX10_lay 50 = .ok (.ifCond .ne 5, 3) := by decide +kernel
theorem dX10_lay_53 : decode cX10_lay 53 = .ok (.iconst (-1), 1) := by decide +kernel
theorem dX10_lay_54 : decode cX10_lay 54 = .ok (.ireturn, 1) := by decide +kernel
theorem dX10_lay_55 : decode cX10_lay 55 = .ok (.iload_n 3, 1) := by decide +kernel
theorem dX10_lay_56 : decode cX10_lay 56 = .ok (.iconst 4, 1) := by decide +kernel
theorem dX10_lay_57 : decode cX10_lay 57 = .ok (.imul, 1) := by decide +kernel
theorem dX10_lay_58 : decode cX10_lay 58 = .ok (.bipush 10, 2) := by decide +kernel
theorem dX10_lay_60 : decode cX10_lay 60 = .ok (.idiv, 1) := by decide +kernel
theorem dX10_lay_61 : decode cX10_lay 61 = .ok (.istore 5, 2) := by decide +kernel
theorem dX10_lay_63 : decode cX10_lay 63 = .ok (.iload_n 3, 1) := by decide +kernel
theorem dX10_lay_64 : decode cX10_lay 64 = .ok (.iload 5, 2) := by decide +kernel
theorem dX10_lay_66 : decode cX10_lay 66 = .ok (.isub, 1) := by decide +kernel
theorem dX10_lay_67 : decode cX10_lay 67 = .ok (.istore 6, 2) := by decide +kernel
theorem dX10_lay_69 : decode cX10_lay 69 = .ok (.iload_n 3, 1) := by decide +kernel
theorem dX10_lay_70 : decode cX10_lay 70 = .ok (.aload_n 0, 1) := by decide +kernel
theorem dX10_lay_71 : decode cX10_lay 71 = .ok (.getfield 10, 3) := by decide +kernel
theorem dX10_lay_74 : decode cX10_lay 74 = .ok (.getfield 85, 3) := by decide +kernel
theorem dX10_lay_77 : decode cX10_lay 77 = .ok (.imul, 1) := by decide +kernel
theorem dX10_lay_78 : decode cX10_lay 78 = .ok (.bipush 100, 2) := by decide +kernel
theorem dX10_lay_80 : decode cX10_lay 80 = .ok (.idiv, 1) := by decide +kernel
theorem dX10_lay_81 : decode cX10_lay 81 = .ok (.istore 7, 2) := by decide +kernel
theorem dX10_lay_83 : decode cX10_lay 83 = .ok (.aload 4, 2) := by decide +kernel
theorem dX10_lay_85 : decode cX10_lay 85 = .ok (.iload_n 1, 1) := by decide +kernel
theorem dX10_lay_86 : decode cX10_lay 86 = .ok (.iload 5, 2) := by decide +kernel
theorem dX10_lay_88 : decode cX10_lay 88 = .ok (.invokevirtual 89, 3) := by decide +kernel
theorem dX10_lay_91 : decode cX10_lay 91 = .ok (.aload 4, 2) := by decide +kernel
theorem dX10_lay_93 : decode cX10_lay 93 = .ok (.iload_n 2, 1) := by decide +kernel
theorem dX10_lay_94 : decode cX10_lay 94 = .ok (.iload 6, 2) := by decide +kernel
theorem dX10_lay_96 : decode cX10_lay 96 = .ok (.invokevirtual 89, 3) := by decide +kernel
theorem dX10_lay_99 : decode cX10_lay 99 = .ok (.iadd, 1) := by decide +kernel
theorem dX10_lay_100 : decode cX10_lay 100 = .ok (.istore 8, 2) := by decide +kernel
theorem dX10_lay_102 : decode cX10_lay 102 = .ok (.aload 4, 2) := by decide +kernel
theorem dX10_lay_104 : decode cX10_lay 104 = .ok (.iload_n 1, 1) := by decide +kernel
theorem dX10_lay_105 : decode cX10_lay 105 = .ok (.iload 5, 2) := by decide +kernel
theorem dX10_lay_107 : decode cX10_lay 107 = .ok (.iload_n 2, 1) := by decide +kernel
theorem dX10_lay_108 : decode cX10_lay 108 = .ok (.iload 6, 2) := by decide +kernel
theorem dX10_lay_110 : decode cX10_lay 110 = .ok (.invokevirtual 92, 3) := by decide +kernel
theorem dX10_lay_113 : decode cX10_lay 113 = .ok (.ifCond .eq 35, 3) := by decide +kernel
theorem dX10_lay_116 : decode cX10_lay 116 = .ok (.aload_n 0, 1) := by decide +kernel
theorem dX10_lay_117 : decode cX10_lay 117 = .ok (.getfield 10, 3) := by decide +kernel
theorem dX10_lay_120 : decode cX10_lay 120 = .ok (.getfield 55, 3) := by decide +kernel
theorem dX10_lay_123 : decode cX10_lay 123 = .ok (.invokevirtual 96, 3) := by decide +kernel
theorem dX10_lay_126 : decode cX10_lay 126 = .ok (.iload 7, 2) := by decide +kernel
theorem dX10_lay_128 : decode cX10_lay 128 = .ok (.if_icmp .lt 20, 3) := by decide +kernel
theorem dX10_lay_131 : decode cX10_lay 131 = .ok (.bipush 100, 2) := by decide +kernel
theorem dX10_lay_133 : decode cX10_lay 133 = .ok (.iload 8, 2) := by decide +kernel
theorem dX10_lay_135 : decode cX10_lay 135 = .ok (.imul, 1) := by decide +kernel
theorem dX10_lay_136 : decode cX10_lay 136 = .ok (.aload_n 0, 1) := by decide +kernel
theorem dX10_lay_137 : decode cX10_lay 137 = .ok (.getfield 10, 3) := by decide +kernel
theorem dX10_lay_140 : decode cX10_lay 140 = .ok (.getfield 100, 3) := by decide +kernel
theorem dX10_lay_143 : decode cX10_lay 143 = .ok (.iload_n 3, 1) := by decide +kernel
theorem dX10_lay_144 : decode cX10_lay 144 = .ok (.imul, 1) := by decide +kernel
theorem dX10_lay_145 : decode cX10_lay 145 = .ok (.if_icmp .le 5, 3) := by decide +kernel
theorem dX10_lay_148 : decode cX10_lay 148 = .ok (.iconst (-1), 1) := by decide +kernel
theorem dX10_lay_149 : decode cX10_lay 149 = .ok (.ireturn, 1) := by decide +kernel
theorem dX10_lay_150 : decode cX10_lay 150 = .ok (.aload 4, 2) := by decide +kernel
theorem dX10_lay_152 : decode cX10_lay 152 = .ok (.iload_n 1, 1) := by decide +kernel
theorem dX10_lay_153 : decode cX10_lay 153 = .ok (.invokevirtual 103, 3) := by decide +kernel
theorem dX10_lay_156 : decode cX10_lay 156 = .ok (.iload 5, 2) := by decide +kernel
theorem dX10_lay_158 : decode cX10_lay 158 = .ok (.imul, 1) := by decide +kernel
theorem dX10_lay_159 : decode cX10_lay 159 = .ok (.aload 4, 2) := by decide +kernel
theorem dX10_lay_161 : decode cX10_lay 161 = .ok (.iload_n 2, 1) := by decide +kernel
theorem dX10_lay_162 : decode cX10_lay 162 = .ok (.invokevirtual 103, 3) := by decide +kernel
theorem dX10_lay_165 : decode cX10_lay 165 = .ok (.iload 6, 2) := by decide +kernel
theorem dX10_lay_167 : decode cX10_lay 167 = .ok (.imul, 1) := by decide +kernel
theorem dX10_lay_168 : decode cX10_lay 168 = .ok (.iadd, 1) := by decide +kernel
theorem dX10_lay_169 : decode cX10_lay 169 = .ok (.iload_n 3, 1) := by decide +kernel
theorem dX10_lay_170 : decode cX10_lay 170 = .ok (.idiv, 1) := by decide +kernel
theorem dX10_lay_171 : decode cX10_lay 171 = .ok (.istore 9, 2) := by decide +kernel
theorem dX10_lay_173 : decode cX10_lay 173 = .ok (.aload 4, 2) := by decide +kernel
theorem dX10_lay_175 : decode cX10_lay 175 = .ok (.iload_n 1, 1) := by decide +kernel
theorem dX10_lay_176 : decode cX10_lay 176 = .ok (.iload 5, 2) := by decide +kernel
theorem dX10_lay_178 : decode cX10_lay 178 = .ok (.invokevirtual 106, 3) := by decide +kernel
theorem dX10_lay_181 : decode cX10_lay 181 = .ok (.aload 4, 2) := by decide +kernel
theorem dX10_lay_183 : decode cX10_lay 183 = .ok (.iload_n 2, 1) := by decide +kernel
theorem dX10_lay_184 : decode cX10_lay 184 = .ok (.iload 6, 2) := by decide +kernel
theorem dX10_lay_186 : decode cX10_lay 186 = .ok (.invokevirtual 106, 3) := by decide +kernel
theorem dX10_lay_189 : decode cX10_lay 189 = .ok (.aload_n 0, 1) := by decide +kernel
theorem dX10_lay_190 : decode cX10_lay 190 = .ok (.getfield 10, 3) := by decide +kernel
theorem dX10_lay_193 : decode cX10_lay 193 = .ok (.getfield 71, 3) := by decide +kernel
theorem dX10_lay_196 : decode cX10_lay 196 = .ok (.invokevirtual 110, 3) := by decide +kernel
theorem dX10_lay_199 : decode cX10_lay 199 = .ok (.istore 10, 2) := by decide +kernel
theorem dX10_lay_201 : decode cX10_lay 201 = .ok (.aload_n 0, 1) := by decide +kernel
theorem dX10_lay_202 : decode cX10_lay 202 = .ok (.getfield 10, 3) := by decide +kernel
theorem dX10_lay_205 : decode cX10_lay 205 = .ok (.getfield 71, 3) := by decide +kernel
theorem dX10_lay_208 : decode cX10_lay 208 = .ok (.iload 10, 2) := by decide +kernel
theorem dX10_lay_210 : decode cX10_lay 210 = .ok (.iconst 0, 1) := by decide +kernel
theorem dX10_lay_211 : decode cX10_lay 211 = .ok (.iload_n 3, 1) := by decide +kernel
theorem dX10_lay_212 : decode cX10_lay 212 = .ok (.invokevirtual 112, 3) := by decide +kernel
theorem dX10_lay_215 : decode cX10_lay 215 = .ok (.aload_n 0, 1) := by decide +kernel
theorem dX10_lay_216 : decode cX10_lay 216 = .ok (.getfield 10, 3) := by decide +kernel
theorem dX10_lay_219 : decode cX10_lay 219 = .ok (.getfield 71, 3) := by decide +kernel
theorem dX10_lay_222 : decode cX10_lay 222 = .ok (.iload 10, 2) := by decide +kernel
theorem dX10_lay_224 : decode cX10_lay 224 = .ok (.iconst 1, 1) := by decide +kernel
theorem dX10_lay_225 : decode cX10_lay 225 = .ok (.iload 7, 2) := by decide +kernel
theorem dX10_lay_227 : decode cX10_lay 227 = .ok (.invokevirtual 112, 3) := by decide +kernel
theorem dX10_lay_230 : decode cX10_lay 230 = .ok (.aload_n 0, 1) := by decide +kernel
theorem dX10_lay_231 : decode cX10_lay 231 = .ok (.getfield 10, 3) := by decide +kernel
theorem dX10_lay_234 : decode cX10_lay 234 = .ok (.getfield 71, 3) := by decide +kernel
theorem dX10_lay_237 : decode cX10_lay 237 = .ok (.iload 10, 2) := by decide +kernel
theorem dX10_lay_239 : decode cX10_lay 239 = .ok (.iconst 2, 1) := by decide +kernel
theorem dX10_lay_240 : decode cX10_lay 240 = .ok (.iload 9, 2) := by decide +kernel
theorem dX10_lay_242 : decode cX10_lay 242 = .ok (.invokevirtual 112, 3) := by decide +kernel
theorem dX10_lay_245 : decode cX10_lay 245 = .ok (.aload_n 0, 1) := by decide +kernel
theorem dX10_lay_246 : decode cX10_lay 246 = .ok (.getfield 10, 3) := by decide +kernel
theorem dX10_lay_249 : decode cX10_lay 249 = .ok (.getfield 71, 3) := by decide +kernel
theorem dX10_lay_252 : decode cX10_lay 252 = .ok (.iload 10, 2) := by decide +kernel
theorem dX10_lay_254 : decode cX10_lay 254 = .ok (.iconst 3, 1) := by decide +kernel
theorem dX10_lay_255 : decode cX10_lay 255 = .ok (.iload 8, 2) := by decide +kernel
theorem dX10_lay_257 : decode cX10_lay 257 = .ok (.invokevirtual 112, 3) := by decide +kernel
theorem dX10_lay_260 : decode cX10_lay 260 = .ok (.aload_n 0, 1) := by decide +kernel
theorem dX10_lay_261 : decode cX10_lay 261 = .ok (.getfield 10, 3) := by decide +kernel
theorem dX10_lay_264 : decode cX10_lay 264 = .ok (.getfield 71, 3) := by decide +kernel
theorem dX10_lay_267 : decode cX10_lay 267 = .ok (.iload 10, 2) := by decide +kernel
theorem dX10_lay_269 : decode cX10_lay 269 = .ok (.iconst 4, 1) := by decide +kernel
theorem dX10_lay_270 : decode cX10_lay 270 = .ok (.iload_n 1, 1) := by decide +kernel
theorem dX10_lay_271 : decode cX10_lay 271 = .ok (.invokevirtual 112, 3) := by decide +kernel
theorem dX10_lay_274 : decode cX10_lay 274 = .ok (.aload_n 0, 1) := by decide +kernel
theorem dX10_lay_275 : decode cX10_lay 275 = .ok (.getfield 10, 3) := by decide +kernel
theorem dX10_lay_278 : decode cX10_lay 278 = .ok (.getfield 71, 3) := by decide +kernel
theorem dX10_lay_281 : decode cX10_lay 281 = .ok (.iload 10, 2) := by decide +kernel
theorem dX10_lay_283 : decode cX10_lay 283 = .ok (.iconst 5, 1) := by decide +kernel
theorem dX10_lay_284 : decode cX10_lay 284 = .ok (.iload_n 2, 1) := by decide +kernel
theorem dX10_lay_285 : decode cX10_lay 285 = .ok (.invokevirtual 112, 3) := by decide +kernel
theorem dX10_lay_288 : decode cX10_lay 288 = .ok (.aload_n 0, 1) := by decide +kernel
theorem dX10_lay_289 : decode cX10_lay 289 = .ok (.getfield 10, 3) := by decide +kernel
theorem dX10_lay_292 : decode cX10_lay 292 = .ok (.getfield 71, 3) := by decide +kernel
theorem dX10_lay_295 : decode cX10_lay 295 = .ok (.iload 10, 2) := by decide +kernel
theorem dX10_lay_297 : decode cX10_lay 297 = .ok (.bipush 6, 2) := by decide +kernel
theorem dX10_lay_299 : decode cX10_lay 299 = .ok (.aload_n 0, 1) := by decide +kernel
theorem dX10_lay_300 : decode cX10_lay 300 = .ok (.getfield 10, 3) := by decide +kernel
theorem dX10_lay_303 : decode cX10_lay 303 = .ok (.getfield 55, 3) := by decide +kernel
theorem dX10_lay_306 : decode cX10_lay 306 = .ok (.iload 7, 2) := by decide +kernel
theorem dX10_lay_308 : decode cX10_lay 308 = .ok (.invokevirtual 116, 3) := by decide +kernel
theorem dX10_lay_311 : decode cX10_lay 311 = .ok (.invokevirtual 112, 3) := by decide +kernel
theorem dX10_lay_314 : decode cX10_lay 314 = .ok (.aload_n 0, 1) := by decide +kernel
theorem dX10_lay_315 : decode cX10_lay 315 = .ok (.getfield 10, 3) := by decide +kernel
theorem dX10_lay_318 : decode cX10_lay 318 = .ok (.getfield 71, 3) := by decide +kernel
theorem dX10_lay_321 : decode cX10_lay 321 = .ok (.iload 10, 2) := by decide +kernel
theorem dX10_lay_323 : decode cX10_lay 323 = .ok (.bipush 7, 2) := by decide +kernel
theorem dX10_lay_325 : decode cX10_lay 325 = .ok (.iconst (-1), 1) := by decide +kernel
theorem dX10_lay_326 : decode cX10_lay 326 = .ok (.invokevirtual 112, 3) := by decide +kernel
theorem dX10_lay_329 : decode cX10_lay 329 = .ok (.iload 10, 2) := by decide +kernel
theorem dX10_lay_331 : decode cX10_lay 331 = .ok (.ireturn, 1) := by decide +kernel
theorem dX10_mat_0 : decode cX10_mat 0 = .ok (.aload_n 0, 1) := by decide +kernel
theorem dX10_mat_1 : decode cX10_mat 1 = .ok (.getfield 10, 3) := by decide +kernel
theorem dX10_mat_4 : decode cX10_mat 4 = .ok (.getfield 71, 3) := by decide +kernel
theorem dX10_mat_7 : decode cX10_mat 7 = .ok (.iload_n 1, 1) := by decide +kernel
theorem dX10_mat_8 : decode cX10_mat 8 = .ok (.iload_n 2, 1) := by decide +kernel
theorem dX10_mat_9 : decode cX10_mat 9 = .ok (.invokevirtual 119, 3) := by decide +kernel
theorem dX10_mat_12 : decode cX10_mat 12 = .ok (.ireturn, 1) := by decide +kernel
theorem dX10_recall_0 : decode cX10_recall 0 = .ok (.aload_n 0, 1) := by decide +kernel
theorem dX10_recall_1 : decode cX10_recall 1 = .ok (.getfield 10, 3) := by decide +kernel
theorem dX10_recall_4 : decode cX10_recall 4 = .ok (.getfield 55, 3) := by decide +kernel
theorem dX10_recall_7 : decode cX10_recall 7 = .ok (.iload_n 1, 1) := by decide +kernel
theorem dX10_recall_8 : decode cX10_recall 8 = .ok (.invokevirtual 122, 3) := by decide +kernel
theorem dX10_recall_11 : decode cX10_recall 11 = .ok (.ifCond .eq 17, 3) := by decide +kernel
theorem dX10_recall_14 : decode cX10_recall 14 = .ok (.aload_n 0, 1) := by decide +kernel
theorem dX10_recall_15 : decode cX10_recall 15 = .ok (.getfield 10, 3) := by decide +kernel
theorem dX10_recall_18 : decode cX10_recall 18 = .ok (.getfield 71, 3) := by decide +kernel
theorem dX10_recall_21 : decode cX10_recall 21 = .ok (.iload_n 1, 1) := by decide +kernel
theorem dX10_recall_22 : decode cX10_recall 22 = .ok (.invokevirtual 123, 3) := by decide +kernel
theorem dX10_recall_25 : decode cX10_recall 25 = .ok (.goto 4, 3) := by decide +kernel
theorem dX10_recall_28 : decode cX10_recall 28 = .ok (.iconst (-1), 1) := by decide +kernel
theorem dX10_recall_29 : decode cX10_recall 29 = .ok (.ireturn, 1) := by decide +kernel
theorem dX10_plate_0 : decode cX10_plate 0 = .ok (.aload_n 0, 1) := by decide +kernel
theorem dX10_plate_1 : decode cX10_plate 1 = .ok (.getfield 10, 3) := by decide +kernel
theorem dX10_plate_4 : decode cX10_plate 4 = .ok (.getfield 126, 3) := by decide +kernel
theorem dX10_plate_7 : decode cX10_plate 7 = .ok (.iload_n 1, 1) := by decide +kernel
theorem dX10_plate_8 : decode cX10_plate 8 = .ok (.invokevirtual 130, 3) := by decide +kernel
theorem dX10_plate_11 : decode cX10_plate 11 = .ok (.ireturn, 1) := by decide +kernel
theorem dX10_time_0 : decode cX10_time 0 = .ok (.aload_n 0, 1) := by decide +kernel
theorem dX10_time_1 : decode cX10_time 1 = .ok (.iload_n 1, 1) := by decide +kernel
theorem dX10_time_2 : decode cX10_time 2 = .ok (.iload_n 2, 1) := by decide +kernel
theorem dX10_time_3 : decode cX10_time 3 = .ok (.invokevirtual 133, 3) := by decide +kernel
theorem dX10_time_6 : decode cX10_time 6 = .ok (.ireturn, 1) := by decide +kernel
theorem dX10_fastest_0 : decode cX10_fastest 0 = .ok (.iconst (-1), 1) := by decide +kernel
theorem dX10_fastest_1 : decode cX10_fastest 1 = .ok (.istore_n 2, 1) := by decide +kernel
theorem dX10_fastest_2 : decode cX10_fastest 2 = .ok (.sipush 401, 3) := by decide +kernel
theorem dX10_fastest_5 : decode cX10_fastest 5 = .ok (.istore_n 3, 1) := by decide +kernel
theorem dX10_fastest_6 : decode cX10_fastest 6 = .ok (.iconst 0, 1) := by decide +kernel
theorem dX10_fastest_7 : decode cX10_fastest 7 = .ok (.istore 4, 2) := by decide +kernel
theorem dX10_fastest_9 : decode cX10_fastest 9 = .ok (.iload 4, 2) := by decide +kernel
theorem dX10_fastest_11 : decode cX10_fastest 11 = .ok (.iconst 4, 1) := by decide +kernel
theorem dX10_fastest_12 : decode cX10_fastest 12 = .ok (.if_icmp .ge 36, 3) := by decide +kernel
theorem dX10_fastest_15 : decode cX10_fastest 15 = .ok (.aload_n 0, 1) := by decide +kernel
theorem dX10_fastest_16 : decode cX10_fastest 16 = .ok (.iload_n 1, 1) := by decide +kernel
theorem dX10_fastest_17 : decode cX10_fastest 17 = .ok (.iload 4, 2) := by decide +kernel
theorem dX10_fastest_19 : decode cX10_fastest 19 = .ok (.invokevirtual 133, 3) := by decide +kernel
theorem dX10_fastest_22 : decode cX10_fastest 22 = .ok (.istore 5, 2) := by decide +kernel
theorem dX10_fastest_24 : decode cX10_fastest 24 = .ok (.iload 5, 2) := by decide +kernel
theorem dX10_fastest_26 : decode cX10_fastest 26 = .ok (.iconst (-1), 1) := by decide +kernel
theorem dX10_fastest_27 : decode cX10_fastest 27 = .ok (.if_icmp .eq 15, 3) := by decide +kernel
theorem dX10_fastest_30 : decode cX10_fastest 30 = .ok (.iload 5, 2) := by decide +kernel
theorem dX10_fastest_32 : decode cX10_fastest 32 = .ok (.iload_n 3, 1) := by decide +kernel
theorem dX10_fastest_33 : decode cX10_fastest 33 = .ok (.if_icmp .ge 9, 3) := by decide +kernel
theorem dX10_fastest_36 : decode cX10_fastest 36 = .ok (.iload 4, 2) := by decide +kernel
theorem dX10_fastest_38 : decode cX10_fastest 38 = .ok (.istore_n 2, 1) := by decide +kernel
theorem dX10_fastest_39 : decode cX10_fastest 39 = .ok (.iload 5, 2) := by decide +kernel
theorem dX10_fastest_41 : decode cX10_fastest 41 = .ok (.istore_n 3, 1) := by decide +kernel
theorem dX10_fastest_42 : decode cX10_fastest 42 = .ok (.iinc 4 1, 3) := by decide +kernel
theorem dX10_fastest_45 : decode cX10_fastest 45 = .ok (.goto (-36), 3) := by decide +kernel
theorem dX10_fastest_48 : decode cX10_fastest 48 = .ok (.iload_n 2, 1) := by decide +kernel
theorem dX10_fastest_49 : decode cX10_fastest 49 = .ok (.ireturn, 1) := by decide +kernel
theorem dX10_press_0 : decode cX10_press 0 = .ok (.aload_n 0, 1) := by decide +kernel
theorem dX10_press_1 : decode cX10_press 1 = .ok (.iload_n 1, 1) := by decide +kernel
theorem dX10_press_2 : decode cX10_press 2 = .ok (.iload_n 2, 1) := by decide +kernel
theorem dX10_press_3 : decode cX10_press 3 = .ok (.invokevirtual 133, 3) := by decide +kernel
theorem dX10_press_6 : decode cX10_press 6 = .ok (.istore_n 3, 1) := by decide +kernel
theorem dX10_press_7 : decode cX10_press 7 = .ok (.iload_n 3, 1) := by decide +kernel
theorem dX10_press_8 : decode cX10_press 8 = .ok (.iconst (-1), 1) := by decide +kernel
theorem dX10_press_9 : decode cX10_press 9 = .ok (.if_icmp .eq 17, 3) := by decide +kernel
theorem dX10_press_12 : decode cX10_press 12 = .ok (.aload_n 0, 1) := by decide +kernel
theorem dX10_press_13 : decode cX10_press 13 = .ok (.getfield 10, 3) := by decide +kernel
theorem dX10_press_16 : decode cX10_press 16 = .ok (.getfield 71, 3) := by decide +kernel
theorem dX10_press_19 : decode cX10_press 19 = .ok (.iload_n 1, 1) := by decide +kernel
theorem dX10_press_20 : decode cX10_press 20 = .ok (.invokevirtual 136, 3) := by decide +kernel
theorem dX10_press_23 : decode cX10_press 23 = .ok (.ifCond .eq 5, 3) := by decide +kernel
theorem dX10_press_26 : decode cX10_press 26 = .ok (.iconst 0, 1) := by decide +kernel
theorem dX10_press_27 : decode cX10_press 27 = .ok (.ireturn, 1) := by decide +kernel
theorem dX10_press_28 : decode cX10_press 28 = .ok (.aload_n 0, 1) := by decide +kernel
theorem dX10_press_29 : decode cX10_press 29 = .ok (.getfield 10, 3) := by decide +kernel
theorem dX10_press_32 : decode cX10_press 32 = .ok (.getfield 71, 3) := by decide +kernel
theorem dX10_press_35 : decode cX10_press 35 = .ok (.iload_n 1, 1) := by decide +kernel
theorem dX10_press_36 : decode cX10_press 36 = .ok (.bipush 7, 2) := by decide +kernel
theorem dX10_press_38 : decode cX10_press 38 = .ok (.iload_n 3, 1) := by decide +kernel
theorem dX10_press_39 : decode cX10_press 39 = .ok (.invokevirtual 112, 3) := by decide +kernel
theorem dX10_press_42 : decode cX10_press 42 = .ok (.iconst 1, 1) := by decide +kernel
theorem dX10_press_43 : decode cX10_press 43 = .ok (.ireturn, 1) := by decide +kernel
theorem dX10_shell_0 : decode cX10_shell 0 = .ok (.aload_n 0, 1) := by decide +kernel
theorem dX10_shell_1 : decode cX10_shell 1 = .ok (.getfield 10, 3) := by decide +kernel
theorem dX10_shell_4 : decode cX10_shell 4 = .ok (.getfield 71, 3) := by decide +kernel
theorem dX10_shell_7 : decode cX10_shell 7 = .ok (.iload_n 1, 1) := by decide +kernel
theorem dX10_shell_8 : decode cX10_shell 8 = .ok (.invokevirtual 139, 3) := by decide +kernel
theorem dX10_shell_11 : decode cX10_shell 11 = .ok (.ifCond .eq 28, 3) := by decide +kernel
theorem dX10_shell_14 : decode cX10_shell 14 = .ok (.aload_n 0, 1) := by decide +kernel
theorem dX10_shell_15 : decode cX10_shell 15 = .ok (.getfield 10, 3) := by decide +kernel
theorem dX10_shell_18 : decode cX10_shell 18 = .ok (.getfield 126, 3) := by decide +kernel
theorem dX10_shell_21 : decode cX10_shell 21 = .ok (.iload_n 2, 1) := by decide +kernel
theorem dX10_shell_22 : decode cX10_shell 22 = .ok (.invokevirtual 140, 3) := by decide +kernel
theorem dX10_shell_25 : decode cX10_shell 25 = .ok (.ifCond .eq 14, 3) := by decide +kernel
theorem dX10_shell_28 : decode cX10_shell 28 = .ok (.iload_n 3, 1) := by decide +kernel
theorem dX10_shell_29 : decode cX10_shell 29 = .ok (.ifCond .lt 10, 3) := by decide +kernel
theorem dX10_shell_32 : decode cX10_shell 32 = .ok (.iload_n 3, 1) := by decide +kernel
theorem dX10_shell_33 : decode cX10_shell 33 = .ok (.sipush 400, 3) := by decide +kernel
theorem dX10_shell_36 : decode cX10_shell 36 = .ok (.if_icmp .le 5, 3) := by decide +kernel
theorem dX10_shell_39 : decode cX10_shell 39 = .ok (.iconst (-1), 1) := by decide +kernel
theorem dX10_shell_40 : decode cX10_shell 40 = .ok (.ireturn, 1) := by decide +kernel
theorem dX10_shell_41 : decode cX10_shell 41 = .ok (.aload_n 0, 1) := by decide +kernel
theorem dX10_shell_42 : decode cX10_shell 42 = .ok (.getfield 23, 3) := by decide +kernel
theorem dX10_shell_45 : decode cX10_shell 45 = .ok (.aload_n 0, 1) := by decide +kernel
theorem dX10_shell_46 : decode cX10_shell 46 = .ok (.getfield 10, 3) := by decide +kernel
theorem dX10_shell_49 : decode cX10_shell 49 = .ok (.getfield 126, 3) := by decide +kernel
theorem dX10_shell_52 : decode cX10_shell 52 = .ok (.iload_n 2, 1) := by decide +kernel
theorem dX10_shell_53 : decode cX10_shell 53 = .ok (.invokevirtual 141, 3) := by decide +kernel
theorem dX10_shell_56 : decode cX10_shell 56 = .ok (.invokevirtual 144, 3) := by decide +kernel
theorem dX10_shell_59 : decode cX10_shell 59 = .ok (.iconst 0, 1) := by decide +kernel
theorem dX10_shell_60 : decode cX10_shell 60 = .ok (.istore 6, 2) := by decide +kernel
theorem dX10_shell_62 : decode cX10_shell 62 = .ok (.iload 6, 2) := by decide +kernel
theorem dX10_shell_64 : decode cX10_shell 64 = .ok (.iload_n 3, 1) := by decide +kernel
theorem dX10_shell_65 : decode cX10_shell 65 = .ok (.if_icmp .ge 16, 3) := by decide +kernel
theorem dX10_shell_68 : decode cX10_shell 68 = .ok (.aload_n 0, 1) := by decide +kernel
theorem dX10_shell_69 : decode cX10_shell 69 = .ok (.getfield 23, 3) := by decide +kernel
theorem dX10_shell_72 : decode cX10_shell 72 = .ok (.invokevirtual 148, 3) := by decide +kernel
theorem dX10_shell_75 : decode cX10_shell 75 = .ok (.iinc 6 1, 3) := by decide +kernel
theorem dX10_shell_78 : decode cX10_shell 78 = .ok (.goto (-16), 3) := by decide +kernel
theorem dX10_shell_81 : decode cX10_shell 81 = .ok (.iload 5, 2) := by decide +kernel
theorem dX10_shell_83 : decode cX10_shell 83 = .ok (.tableswitch 67 0 2 #[25, 35, 45], 25) := by decide +kernel
theorem dX10_shell_108 : decode cX10_shell 108 = .ok (.aload_n 0, 1) := by decide +kernel
theorem dX10_shell_109 : decode cX10_shell 109 = .ok (.getfield 23, 3) := by decide +kernel
theorem dX10_shell_112 : decode cX10_shell 112 = .ok (.iload 4, 2) := by decide +kernel
theorem dX10_shell_114 : decode cX10_shell 114 = .ok (.invokevirtual 151, 3) := by decide +kernel
theorem dX10_shell_117 : decode cX10_shell 117 = .ok (.ireturn, 1) := by decide +kernel
theorem dX10_shell_118 : decode cX10_shell 118 = .ok (.aload_n 0, 1) := by decide +kernel
theorem dX10_shell_119 : decode cX10_shell 119 = .ok (.getfield 23, 3) := by decide +kernel
theorem dX10_shell_122 : decode cX10_shell 122 = .ok (.iload 4, 2) := by decide +kernel
theorem dX10_shell_124 : decode cX10_shell 124 = .ok (.invokevirtual 152, 3) := by decide +kernel
theorem dX10_shell_127 : decode cX10_shell 127 = .ok (.ireturn, 1) := by decide +kernel
theorem dX10_shell_128 : decode cX10_shell 128 = .ok (.aload_n 0, 1) := by decide +kernel
theorem dX10_shell_129 : decode cX10_shell 129 = .ok (.getfield 23, 3) := by decide +kernel
theorem dX10_shell_132 : decode cX10_shell 132 = .ok (.iload 4, 2) := by decide +kernel
theorem dX10_shell_134 : decode cX10_shell 134 = .ok (.aload_n 0, 1) := by decide +kernel
theorem dX10_shell_135 : decode cX10_shell 135 = .ok (.getfield 10, 3) := by decide +kernel
theorem dX10_shell_138 : decode cX10_shell 138 = .ok (.getfield 71, 3) := by decide +kernel
theorem dX10_shell_141 : decode cX10_shell 141 = .ok (.iload_n 1, 1) := by decide +kernel
theorem dX10_shell_142 : decode cX10_shell 142 = .ok (.iconst 2, 1) := by decide +kernel
theorem dX10_shell_143 : decode cX10_shell 143 = .ok (.invokevirtual 119, 3) := by decide +kernel
theorem dX10_shell_146 : decode cX10_shell 146 = .ok (.invokevirtual 155, 3) := by decide +kernel
theorem dX10_shell_149 : decode cX10_shell 149 = .ok (.ireturn, 1) := by decide +kernel
theorem dX10_shell_150 : decode cX10_shell 150 = .ok (.iconst (-1), 1) := by decide +kernel
theorem dX10_shell_151 : decode cX10_shell 151 = .ok (.ireturn, 1) := by decide +kernel
theorem dX10_link_0 : decode cX10_link 0 = .ok (.aload_n 0, 1) := by decide +kernel
theorem dX10_link_1 : decode cX10_link 1 = .ok (.getfield 10, 3) := by decide +kernel
theorem dX10_link_4 : decode cX10_link 4 = .ok (.getfield 158, 3) := by decide +kernel
theorem dX10_link_7 : decode cX10_link 7 = .ok (.iload_n 1, 1) := by decide +kernel
theorem dX10_link_8 : decode cX10_link 8 = .ok (.iload_n 2, 1) := by decide +kernel
theorem dX10_link_9 : decode cX10_link 9 = .ok (.iload_n 3, 1) := by decide +kernel
theorem dX10_link_10 : decode cX10_link 10 = .ok (.invokevirtual 162, 3) := by decide +kernel
theorem dX10_link_13 : decode cX10_link 13 = .ok (.ireturn, 1) := by decide +kernel
theorem dX10_state_0 : decode cX10_state 0 = .ok (.aload_n 0, 1) := by decide +kernel
theorem dX10_state_1 : decode cX10_state 1 = .ok (.getfield 10, 3) := by decide +kernel
theorem dX10_state_4 : decode cX10_state 4 = .ok (.getfield 158, 3) := by decide +kernel
theorem dX10_state_7 : decode cX10_state 7 = .ok (.iload_n 1, 1) := by decide +kernel
theorem dX10_state_8 : decode cX10_state 8 = .ok (.iload_n 2, 1) := by decide +kernel
theorem dX10_state_9 : decode cX10_state 9 = .ok (.iload_n 3, 1) := by decide +kernel
theorem dX10_state_10 : decode cX10_state 10 = .ok (.invokevirtual 168, 3) := by decide +kernel
theorem dX10_state_13 : decode cX10_state 13 = .ok (.ireturn, 1) := by decide +kernel
theorem dX10_badRow_0 : decode cX10_badRow 0 = .ok (.aload_n 0, 1) := by decide +kernel
theorem dX10_badRow_1 : decode cX10_badRow 1 = .ok (.getfield 30, 3) := by decide +kernel
theorem dX10_badRow_4 : decode cX10_badRow 4 = .ok (.aload_n 0, 1) := by decide +kernel
theorem dX10_badRow_5 : decode cX10_badRow 5 = .ok (.getfield 10, 3) := by decide +kernel
theorem dX10_badRow_8 : decode cX10_badRow 8 = .ok (.getfield 158, 3) := by decide +kernel
theorem dX10_badRow_11 : decode cX10_badRow 11 = .ok (.invokevirtual 172, 3) := by decide +kernel
theorem dX10_badRow_14 : decode cX10_badRow 14 = .ok (.ireturn, 1) := by decide +kernel
theorem dX10_bad_0 : decode cX10_bad 0 = .ok (.aload_n 0, 1) := by decide +kernel
theorem dX10_bad_1 : decode cX10_bad 1 = .ok (.getfield 30, 3) := by decide +kernel
theorem dX10_bad_4 : decode cX10_bad 4 = .ok (.aload_n 0, 1) := by decide +kernel
theorem dX10_bad_5 : decode cX10_bad 5 = .ok (.getfield 10, 3) := by decide +kernel
theorem dX10_bad_8 : decode cX10_bad 8 = .ok (.getfield 158, 3) := by decide +kernel
theorem dX10_bad_11 : decode cX10_bad 11 = .ok (.invokevirtual 172, 3) := by decide +kernel
theorem dX10_bad_14 : decode cX10_bad 14 = .ok (.istore_n 2, 1) := by decide +kernel
theorem dX10_bad_15 : decode cX10_bad 15 = .ok (.iload_n 1, 1) := by decide +kernel
theorem dX10_bad_16 : decode cX10_bad 16 = .ok (.ifCond .lt 19, 3) := by decide +kernel
theorem dX10_bad_19 : decode cX10_bad 19 = .ok (.iload_n 1, 1) := by decide +kernel
theorem dX10_bad_20 : decode cX10_bad 20 = .ok (.iload_n 2, 1) := by decide +kernel
theorem dX10_bad_21 : decode cX10_bad 21 = .ok (.if_icmp .ge 14, 3) := by decide +kernel
theorem dX10_bad_24 : decode cX10_bad 24 = .ok (.aload_n 0, 1) := by decide +kernel
theorem dX10_bad_25 : decode cX10_bad 25 = .ok (.getfield 30, 3) := by decide +kernel
theorem dX10_bad_28 : decode cX10_bad 28 = .ok (.iload_n 1, 1) := by decide +kernel
theorem dX10_bad_29 : decode cX10_bad 29 = .ok (.invokevirtual 176, 3) := by decide +kernel
theorem dX10_bad_32 : decode cX10_bad 32 = .ok (.goto 4, 3) := by decide +kernel
theorem dX10_bad_35 : decode cX10_bad 35 = .ok (.iconst (-1), 1) := by decide +kernel
theorem dX10_bad_36 : decode cX10_bad 36 = .ok (.ireturn, 1) := by decide +kernel
theorem dX10_sheet_0 : decode cX10_sheet 0 = .ok (.aload_n 0, 1) := by decide +kernel
theorem dX10_sheet_1 : decode cX10_sheet 1 = .ok (.getfield 10, 3) := by decide +kernel
theorem dX10_sheet_4 : decode cX10_sheet 4 = .ok (.getfield 179, 3) := by decide +kernel
theorem dX10_sheet_7 : decode cX10_sheet 7 = .ok (.iload_n 1, 1) := by decide +kernel
theorem dX10_sheet_8 : decode cX10_sheet 8 = .ok (.iload_n 2, 1) := by decide +kernel
theorem dX10_sheet_9 : decode cX10_sheet 9 = .ok (.iload_n 3, 1) := by decide +kernel
theorem dX10_sheet_10 : decode cX10_sheet 10 = .ok (.invokevirtual 183, 3) := by decide +kernel
theorem dX10_sheet_13 : decode cX10_sheet 13 = .ok (.istore 4, 2) := by decide +kernel
theorem dX10_sheet_15 : decode cX10_sheet 15 = .ok (.iload 4, 2) := by decide +kernel
theorem dX10_sheet_17 : decode cX10_sheet 17 = .ok (.iconst (-1), 1) := by decide +kernel
theorem dX10_sheet_18 : decode cX10_sheet 18 = .ok (.if_icmp .eq 10, 3) := by decide +kernel
theorem dX10_sheet_21 : decode cX10_sheet 21 = .ok (.aload_n 0, 1) := by decide +kernel
theorem dX10_sheet_22 : decode cX10_sheet 22 = .ok (.getfield 37, 3) := by decide +kernel
theorem dX10_sheet_25 : decode cX10_sheet 25 = .ok (.invokevirtual 68, 3) := by decide +kernel
theorem dX10_sheet_28 : decode cX10_sheet 28 = .ok (.iload 4, 2) := by decide +kernel
theorem dX10_sheet_30 : decode cX10_sheet 30 = .ok (.ireturn, 1) := by decide +kernel
theorem dX10_best_0 : decode cX10_best 0 = .ok (.aload_n 0, 1) := by decide +kernel
theorem dX10_best_1 : decode cX10_best 1 = .ok (.getfield 37, 3) := by decide +kernel
theorem dX10_best_4 : decode cX10_best 4 = .ok (.aload_n 0, 1) := by decide +kernel
theorem dX10_best_5 : decode cX10_best 5 = .ok (.getfield 10, 3) := by decide +kernel
theorem dX10_best_8 : decode cX10_best 8 = .ok (.getfield 179, 3) := by decide +kernel
theorem dX10_best_11 : decode cX10_best 11 = .ok (.aload_n 0, 1) := by decide +kernel
theorem dX10_best_12 : decode cX10_best 12 = .ok (.getfield 10, 3) := by decide +kernel
theorem dX10_best_15 : decode cX10_best 15 = .ok (.getfield 188, 3) := by decide +kernel
theorem dX10_best_18 : decode cX10_best 18 = .ok (.invokevirtual 191, 3) := by decide +kernel
theorem dX10_best_21 : decode cX10_best 21 = .ok (.aload_n 0, 1) := by decide +kernel
theorem dX10_best_22 : decode cX10_best 22 = .ok (.getfield 37, 3) := by decide +kernel
theorem dX10_best_25 : decode cX10_best 25 = .ok (.iload_n 1, 1) := by decide +kernel
theorem dX10_best_26 : decode cX10_best 26 = .ok (.iload_n 2, 1) := by decide +kernel
theorem dX10_best_27 : decode cX10_best 27 = .ok (.invokevirtual 195, 3) := by decide +kernel
theorem dX10_best_30 : decode cX10_best 30 = .ok (.ireturn, 1) := by decide +kernel
theorem dX10_cuts_0 : decode cX10_cuts 0 = .ok (.aload_n 0, 1) := by decide +kernel
theorem dX10_cuts_1 : decode cX10_cuts 1 = .ok (.getfield 37, 3) := by decide +kernel
theorem dX10_cuts_4 : decode cX10_cuts 4 = .ok (.aload_n 0, 1) := by decide +kernel
theorem dX10_cuts_5 : decode cX10_cuts 5 = .ok (.getfield 10, 3) := by decide +kernel
theorem dX10_cuts_8 : decode cX10_cuts 8 = .ok (.getfield 179, 3) := by decide +kernel
theorem dX10_cuts_11 : decode cX10_cuts 11 = .ok (.aload_n 0, 1) := by decide +kernel
theorem dX10_cuts_12 : decode cX10_cuts 12 = .ok (.getfield 10, 3) := by decide +kernel
theorem dX10_cuts_15 : decode cX10_cuts 15 = .ok (.getfield 188, 3) := by decide +kernel
theorem dX10_cuts_18 : decode cX10_cuts 18 = .ok (.invokevirtual 191, 3) := by decide +kernel
theorem dX10_cuts_21 : decode cX10_cuts 21 = .ok (.iload_n 3, 1) := by decide +kernel
theorem dX10_cuts_22 : decode cX10_cuts 22 = .ok (.iconst (-1), 1) := by decide +kernel
theorem dX10_cuts_23 : decode cX10_cuts 23 = .ok (.if_icmp .ne 13, 3) := by decide +kernel
theorem dX10_cuts_26 : decode cX10_cuts 26 = .ok (.aload_n 0, 1) := by decide +kernel
theorem dX10_cuts_27 : decode cX10_cuts 27 = .ok (.getfield 37, 3) := by decide +kernel
theorem dX10_cuts_30 : decode cX10_cuts 30 = .ok (.iload_n 1, 1) := by decide +kernel
theorem dX10_cuts_31 : decode cX10_cuts 31 = .ok (.iload_n 2, 1) := by decide +kernel
theorem dX10_cuts_32 : decode cX10_cuts 32 = .ok (.invokevirtual 198, 3) := by decide +kernel
theorem dX10_cuts_35 : decode cX10_cuts 35 = .ok (.ireturn, 1) := by decide +kernel
theorem dX10_cuts_36 : decode cX10_cuts 36 = .ok (.aload_n 0, 1) := by decide +kernel
theorem dX10_cuts_37 : decode cX10_cuts 37 = .ok (.getfield 10, 3) := by decide +kernel
theorem dX10_cuts_40 : decode cX10_cuts 40 = .ok (.getfield 179, 3) := by decide +kernel
theorem dX10_cuts_43 : decode cX10_cuts 43 = .ok (.iload_n 3, 1) := by decide +kernel
theorem dX10_cuts_44 : decode cX10_cuts 44 = .ok (.invokevirtual 201, 3) := by decide +kernel
theorem dX10_cuts_47 : decode cX10_cuts 47 = .ok (.ifCond .eq 16, 3) := by decide +kernel
theorem dX10_cuts_50 : decode cX10_cuts 50 = .ok (.aload_n 0, 1) := by decide +kernel
theorem dX10_cuts_51 : decode cX10_cuts 51 = .ok (.getfield 37, 3) := by decide +kernel
theorem dX10_cuts_54 : decode cX10_cuts 54 = .ok (.iload_n 1, 1) := by decide +kernel
theorem dX10_cuts_55 : decode cX10_cuts 55 = .ok (.iload_n 2, 1) := by decide +kernel
theorem dX10_cuts_56 : decode cX10_cuts 56 = .ok (.iload_n 3, 1) := by decide +kernel
theorem dX10_cuts_57 : decode cX10_cuts 57 = .ok (.invokevirtual 202, 3) := by decide +kernel
theorem dX10_cuts_60 : decode cX10_cuts 60 = .ok (.goto 4, 3) := by decide +kernel
theorem dX10_cuts_63 : decode cX10_cuts 63 = .ok (.iconst (-1), 1) := by decide +kernel
theorem dX10_cuts_64 : decode cX10_cuts 64 = .ok (.ireturn, 1) := by decide +kernel
theorem dX10_count_0 : decode cX10_count 0 = .ok (.iload_n 1, 1) := by decide +kernel
theorem dX10_count_1 : decode cX10_count 1 = .ok (.bipush 10, 2) := by decide +kernel
theorem dX10_count_3 : decode cX10_count 3 = .ok (.if_icmp .lt 24, 3) := by decide +kernel
theorem dX10_count_6 : decode cX10_count 6 = .ok (.iload_n 1, 1) := by decide +kernel
theorem dX10_count_7 : decode cX10_count 7 = .ok (.bipush 16, 2) := by decide +kernel
theorem dX10_count_9 : decode cX10_count 9 = .ok (.if_icmp .ge 18, 3) := by decide +kernel
theorem dX10_count_12 : decode cX10_count 12 = .ok (.aload_n 0, 1) := by decide +kernel
theorem dX10_count_13 : decode cX10_count 13 = .ok (.getfield 10, 3) := by decide +kernel
theorem dX10_count_16 : decode cX10_count 16 = .ok (.getfield 41, 3) := by decide +kernel
theorem dX10_count_19 : decode cX10_count 19 = .ok (.iload_n 1, 1) := by decide +kernel
theorem dX10_count_20 : decode cX10_count 20 = .ok (.bipush 10, 2) := by decide +kernel
theorem dX10_count_22 : decode cX10_count 22 = .ok (.isub, 1) := by decide +kernel
theorem dX10_count_23 : decode cX10_count 23 = .ok (.invokevirtual 205, 3) := by decide +kernel
theorem dX10_count_26 : decode cX10_count 26 = .ok (.ireturn, 1) := by decide +kernel
theorem dX10_count_27 : decode cX10_count 27 = .ok (.iload_n 1, 1) := by decide +kernel
theorem dX10_count_28 : decode cX10_count 28 = .ok (.bipush 20, 2) := by decide +kernel
theorem dX10_count_30 : decode cX10_count 30 = .ok (.if_icmp .lt 24, 3) := by decide +kernel
theorem dX10_count_33 : decode cX10_count 33 = .ok (.iload_n 1, 1) := by decide +kernel
theorem dX10_count_34 : decode cX10_count 34 = .ok (.bipush 28, 2) := by decide +kernel
theorem dX10_count_36 : decode cX10_count 36 = .ok (.if_icmp .ge 18, 3) := by decide +kernel
theorem dX10_count_39 : decode cX10_count 39 = .ok (.aload_n 0, 1) := by decide +kernel
theorem dX10_count_40 : decode cX10_count 40 = .ok (.getfield 10, 3) := by decide +kernel
theorem dX10_count_43 : decode cX10_count 43 = .ok (.getfield 55, 3) := by decide +kernel
theorem dX10_count_46 : decode cX10_count 46 = .ok (.iload_n 1, 1) := by decide +kernel
theorem dX10_count_47 : decode cX10_count 47 = .ok (.bipush 20, 2) := by decide +kernel
theorem dX10_count_49 : decode cX10_count 49 = .ok (.isub, 1) := by decide +kernel
theorem dX10_count_50 : decode cX10_count 50 = .ok (.invokevirtual 208, 3) := by decide +kernel
theorem dX10_count_53 : decode cX10_count 53 = .ok (.ireturn, 1) := by decide +kernel
theorem dX10_count_54 : decode cX10_count 54 = .ok (.iload_n 1, 1) := by decide +kernel
theorem dX10_count_55 : decode cX10_count 55 = .ok (.tableswitch 133 0 7 #[45, 56, 67, 78, 89, 100, 111, 122], 45) := by decide +kernel
theorem dX10_count_100 : decode cX10_count 100 = .ok (.aload_n 0, 1) := by decide +kernel
theorem dX10_count_101 : decode cX10_count 101 = .ok (.getfield 10, 3) := by decide +kernel
theorem dX10_count_104 : decode cX10_count 104 = .ok (.getfield 41, 3) := by decide +kernel
theorem dX10_count_107 : decode cX10_count 107 = .ok (.getfield 209, 3) := by decide +kernel
theorem dX10_count_110 : decode cX10_count 110 = .ok (.ireturn, 1) := by decide +kernel
theorem dX10_count_111 : decode cX10_count 111 = .ok (.aload_n 0, 1) := by decide +kernel
theorem dX10_count_112 : decode cX10_count 112 = .ok (.getfield 10, 3) := by decide +kernel
theorem dX10_count_115 : decode cX10_count 115 = .ok (.getfield 55, 3) := by decide +kernel
theorem dX10_count_118 : decode cX10_count 118 = .ok (.getfield 212, 3) := by decide +kernel
theorem dX10_count_121 : decode cX10_count 121 = .ok (.ireturn, 1) := by decide +kernel
theorem dX10_count_122 : decode cX10_count 122 = .ok (.aload_n 0, 1) := by decide +kernel
theorem dX10_count_123 : decode cX10_count 123 = .ok (.getfield 10, 3) := by decide +kernel
theorem dX10_count_126 : decode cX10_count 126 = .ok (.getfield 71, 3) := by decide +kernel
theorem dX10_count_129 : decode cX10_count 129 = .ok (.getfield 213, 3) := by decide +kernel
theorem dX10_count_132 : decode cX10_count 132 = .ok (.ireturn, 1) := by decide +kernel
theorem dX10_count_133 : decode cX10_count 133 = .ok (.aload_n 0, 1) := by decide +kernel
theorem dX10_count_134 : decode cX10_count 134 = .ok (.getfield 10, 3) := by decide +kernel
theorem dX10_count_137 : decode cX10_count 137 = .ok (.getfield 126, 3) := by decide +kernel
theorem dX10_count_140 : decode cX10_count 140 = .ok (.getfield 214, 3) := by decide +kernel
theorem dX10_count_143 : decode cX10_count 143 = .ok (.ireturn, 1) := by decide +kernel
theorem dX10_count_144 : decode cX10_count 144 = .ok (.aload_n 0, 1) := by decide +kernel
theorem dX10_count_145 : decode cX10_count 145 = .ok (.getfield 10, 3) := by decide +kernel
theorem dX10_count_148 : decode cX10_count 148 = .ok (.getfield 179, 3) := by decide +kernel
theorem dX10_count_151 : decode cX10_count 151 = .ok (.getfield 215, 3) := by decide +kernel
theorem dX10_count_154 : decode cX10_count 154 = .ok (.ireturn, 1) := by decide +kernel
theorem dX10_count_155 : decode cX10_count 155 = .ok (.aload_n 0, 1) := by decide +kernel
theorem dX10_count_156 : decode cX10_count 156 = .ok (.getfield 10, 3) := by decide +kernel
theorem dX10_count_159 : decode cX10_count 159 = .ok (.getfield 41, 3) := by decide +kernel
theorem dX10_count_162 : decode cX10_count 162 = .ok (.invokevirtual 216, 3) := by decide +kernel
theorem dX10_count_165 : decode cX10_count 165 = .ok (.ireturn, 1) := by decide +kernel
theorem dX10_count_166 : decode cX10_count 166 = .ok (.aload_n 0, 1) := by decide +kernel
theorem dX10_count_167 : decode cX10_count 167 = .ok (.getfield 10, 3) := by decide +kernel
theorem dX10_count_170 : decode cX10_count 170 = .ok (.getfield 55, 3) := by decide +kernel
theorem dX10_count_173 : decode cX10_count 173 = .ok (.invokevirtual 96, 3) := by decide +kernel
theorem dX10_count_176 : decode cX10_count 176 = .ok (.ireturn, 1) := by decide +kernel
theorem dX10_count_177 : decode cX10_count 177 = .ok (.aload_n 0, 1) := by decide +kernel
theorem dX10_count_178 : decode cX10_count 178 = .ok (.getfield 10, 3) := by decide +kernel
theorem dX10_count_181 : decode cX10_count 181 = .ok (.getfield 71, 3) := by decide +kernel
theorem dX10_count_184 : decode cX10_count 184 = .ok (.invokevirtual 217, 3) := by decide +kernel
theorem dX10_count_187 : decode cX10_count 187 = .ok (.ireturn, 1) := by decide +kernel
theorem dX10_count_188 : decode cX10_count 188 = .ok (.iconst (-1), 1) := by decide +kernel
theorem dX10_count_189 : decode cX10_count 189 = .ok (.ireturn, 1) := by decide +kernel
theorem dX10_image_0 : decode cX10_image 0 = .ok (.iload_n 1, 1) := by decide +kernel
theorem dX10_image_1 : decode cX10_image 1 = .ok (.ifCond .lt 8, 3) := by decide +kernel
theorem dX10_image_4 : decode cX10_image 4 = .ok (.iload_n 1, 1) := by decide +kernel
theorem dX10_image_5 : decode cX10_image 5 = .ok (.iconst 3, 1) := by decide +kernel
theorem dX10_image_6 : decode cX10_image 6 = .ok (.if_icmp .lt 5, 3) := by decide +kernel
theorem dX10_image_9 : decode cX10_image 9 = .ok (.iconst 0, 1) := by decide +kernel
theorem dX10_image_10 : decode cX10_image 10 = .ok (.ireturn, 1) := by decide +kernel
theorem dX10_image_11 : decode cX10_image 11 = .ok (.aload_n 0, 1) := by decide +kernel
theorem dX10_image_12 : decode cX10_image 12 = .ok (.getfield 16, 3) := by decide +kernel
theorem dX10_image_15 : decode cX10_image 15 = .ok (.iload_n 1, 1) := by decide +kernel
theorem dX10_image_16 : decode cX10_image 16 = .ok (.aaload, 1) := by decide +kernel
theorem dX10_image_17 : decode cX10_image 17 = .ok (.astore_n 2, 1) := by decide +kernel
theorem dX10_image_18 : decode cX10_image 18 = .ok (.aload_n 2, 1) := by decide +kernel
theorem dX10_image_19 : decode cX10_image 19 = .ok (.ifnonnull 18, 3) := by decide +kernel
theorem dX10_image_22 : decode cX10_image 22 = .ok (.new 7, 3) := by decide +kernel
theorem dX10_image_25 : decode cX10_image 25 = .ok (.dup, 1) := by decide +kernel
theorem dX10_image_26 : decode cX10_image 26 = .ok (.invokespecial 9, 3) := by decide +kernel
theorem dX10_image_29 : decode cX10_image 29 = .ok (.astore_n 2, 1) := by decide +kernel
theorem dX10_image_30 : decode cX10_image 30 = .ok (.aload_n 0, 1) := by decide +kernel
theorem dX10_image_31 : decode cX10_image 31 = .ok (.getfield 16, 3) := by decide +kernel
theorem dX10_image_34 : decode cX10_image 34 = .ok (.iload_n 1, 1) := by decide +kernel
theorem dX10_image_35 : decode cX10_image 35 = .ok (.aload_n 2, 1) := by decide +kernel
theorem dX10_image_36 : decode cX10_image 36 = .ok (.aastore, 1) := by decide +kernel
theorem dX10_image_37 : decode cX10_image 37 = .ok (.aload_n 2, 1) := by decide +kernel
theorem dX10_image_38 : decode cX10_image 38 = .ok (.aload_n 0, 1) := by decide +kernel
theorem dX10_image_39 : decode cX10_image 39 = .ok (.getfield 10, 3) := by decide +kernel
theorem dX10_image_42 : decode cX10_image 42 = .ok (.invokevirtual 220, 3) := by decide +kernel
theorem dX10_image_45 : decode cX10_image 45 = .ok (.iconst 1, 1) := by decide +kernel
theorem dX10_image_46 : decode cX10_image 46 = .ok (.ireturn, 1) := by decide +kernel
theorem dX10_again_0 : decode cX10_again 0 = .ok (.iload_n 1, 1) := by decide +kernel
theorem dX10_again_1 : decode cX10_again 1 = .ok (.ifCond .lt 8, 3) := by decide +kernel
theorem dX10_again_4 : decode cX10_again 4 = .ok (.iload_n 1, 1) := by decide +kernel
theorem dX10_again_5 : decode cX10_again 5 = .ok (.iconst 3, 1) := by decide +kernel
theorem dX10_again_6 : decode cX10_again 6 = .ok (.if_icmp .lt 5, 3) := by decide +kernel
theorem dX10_again_9 : decode cX10_again 9 = .ok (.iconst 0, 1) := by decide +kernel
theorem dX10_again_10 : decode cX10_again 10 = .ok (.ireturn, 1) := by decide +kernel
theorem dX10_again_11 : decode cX10_again 11 = .ok (.aload_n 0, 1) := by decide +kernel
theorem dX10_again_12 : decode cX10_again 12 = .ok (.getfield 16, 3) := by decide +kernel
theorem dX10_again_15 : decode cX10_again 15 = .ok (.iload_n 1, 1) := by decide +kernel
theorem dX10_again_16 : decode cX10_again 16 = .ok (.aaload, 1) := by decide +kernel
theorem dX10_again_17 : decode cX10_again 17 = .ok (.astore_n 2, 1) := by decide +kernel
theorem dX10_again_18 : decode cX10_again 18 = .ok (.aload_n 2, 1) := by decide +kernel
theorem dX10_again_19 : decode cX10_again 19 = .ok (.ifnonnull 5, 3) := by decide +kernel
theorem dX10_again_22 : decode cX10_again 22 = .ok (.iconst 0, 1) := by decide +kernel
theorem dX10_again_23 : decode cX10_again 23 = .ok (.ireturn, 1) := by decide +kernel
theorem dX10_again_24 : decode cX10_again 24 = .ok (.aload_n 0, 1) := by decide +kernel
theorem dX10_again_25 : decode cX10_again 25 = .ok (.getfield 10, 3) := by decide +kernel
theorem dX10_again_28 : decode cX10_again 28 = .ok (.aload_n 2, 1) := by decide +kernel
theorem dX10_again_29 : decode cX10_again 29 = .ok (.invokevirtual 220, 3) := by decide +kernel
theorem dX10_again_32 : decode cX10_again 32 = .ok (.aload_n 0, 1) := by decide +kernel
theorem dX10_again_33 : decode cX10_again 33 = .ok (.getfield 37, 3) := by decide +kernel
theorem dX10_again_36 : decode cX10_again 36 = .ok (.invokevirtual 68, 3) := by decide +kernel
theorem dX10_again_39 : decode cX10_again 39 = .ok (.iconst 1, 1) := by decide +kernel
theorem dX10_again_40 : decode cX10_again 40 = .ok (.ireturn, 1) := by decide +kernel
theorem dX10_timeOf_0 : decode cX10_timeOf 0 = .ok (.aload_n 0, 1) := by decide +kernel
theorem dX10_timeOf_1 : decode cX10_timeOf 1 = .ok (.getfield 10, 3) := by decide +kernel
theorem dX10_timeOf_4 : decode cX10_timeOf 4 = .ok (.getfield 71, 3) := by decide +kernel
theorem dX10_timeOf_7 : decode cX10_timeOf 7 = .ok (.iload_n 1, 1) := by decide +kernel
theorem dX10_timeOf_8 : decode cX10_timeOf 8 = .ok (.invokevirtual 139, 3) := by decide +kernel
theorem dX10_timeOf_11 : decode cX10_timeOf 11 = .ok (.ifCond .eq 17, 3) := by decide +kernel
theorem dX10_timeOf_14 : decode cX10_timeOf 14 = .ok (.aload_n 0, 1) := by decide +kernel
theorem dX10_timeOf_15 : decode cX10_timeOf 15 = .ok (.getfield 10, 3) := by decide +kernel
theorem dX10_timeOf_18 : decode cX10_timeOf 18 = .ok (.getfield 126, 3) := by decide +kernel
theorem dX10_timeOf_21 : decode cX10_timeOf 21 = .ok (.iload_n 2, 1) := by decide +kernel
theorem dX10_timeOf_22 : decode cX10_timeOf 22 = .ok (.invokevirtual 140, 3) := by decide +kernel
theorem dX10_timeOf_25 : decode cX10_timeOf 25 = .ok (.ifCond .ne 5, 3) := by decide +kernel
theorem dX10_timeOf_28 : decode cX10_timeOf 28 = .ok (.iconst (-1), 1) := by decide +kernel
theorem dX10_timeOf_29 : decode cX10_timeOf 29 = .ok (.ireturn, 1) := by decide +kernel
theorem dX10_timeOf_30 : decode cX10_timeOf 30 = .ok (.aload_n 0, 1) := by decide +kernel
theorem dX10_timeOf_31 : decode cX10_timeOf 31 = .ok (.getfield 10, 3) := by decide +kernel
theorem dX10_timeOf_34 : decode cX10_timeOf 34 = .ok (.getfield 71, 3) := by decide +kernel
theorem dX10_timeOf_37 : decode cX10_timeOf 37 = .ok (.iload_n 1, 1) := by decide +kernel
theorem dX10_timeOf_38 : decode cX10_timeOf 38 = .ok (.iconst 2, 1) := by decide +kernel
theorem dX10_timeOf_39 : decode cX10_timeOf 39 = .ok (.invokevirtual 119, 3) := by decide +kernel
theorem dX10_timeOf_42 : decode cX10_timeOf 42 = .ok (.istore_n 3, 1) := by decide +kernel
theorem dX10_timeOf_43 : decode cX10_timeOf 43 = .ok (.aload_n 0, 1) := by decide +kernel
theorem dX10_timeOf_44 : decode cX10_timeOf 44 = .ok (.getfield 23, 3) := by decide +kernel
theorem dX10_timeOf_47 : decode cX10_timeOf 47 = .ok (.aload_n 0, 1) := by decide +kernel
theorem dX10_timeOf_48 : decode cX10_timeOf 48 = .ok (.getfield 10, 3) := by decide +kernel
theorem dX10_timeOf_51 : decode cX10_timeOf 51 = .ok (.getfield 126, 3) := by decide +kernel
theorem dX10_timeOf_54 : decode cX10_timeOf 54 = .ok (.iload_n 2, 1) := by decide +kernel
theorem dX10_timeOf_55 : decode cX10_timeOf 55 = .ok (.invokevirtual 141, 3) := by decide +kernel
theorem dX10_timeOf_58 : decode cX10_timeOf 58 = .ok (.invokevirtual 144, 3) := by decide +kernel
theorem dX10_timeOf_61 : decode cX10_timeOf 61 = .ok (.iconst 1, 1) := by decide +kernel
theorem dX10_timeOf_62 : decode cX10_timeOf 62 = .ok (.istore 4, 2) := by decide +kernel
theorem dX10_timeOf_64 : decode cX10_timeOf 64 = .ok (.iload 4, 2) := by decide +kernel
theorem dX10_timeOf_66 : decode cX10_timeOf 66 = .ok (.sipush 400, 3) := by decide +kernel
theorem dX10_timeOf_69 : decode cX10_timeOf 69 = .ok (.if_icmp .gt 37, 3) := by decide +kernel
theorem dX10_timeOf_72 : decode cX10_timeOf 72 = .ok (.aload_n 0, 1) := by decide +kernel
theorem dX10_timeOf_73 : decode cX10_timeOf 73 = .ok (.getfield 23, 3) := by decide +kernel
theorem dX10_timeOf_76 : decode cX10_timeOf 76 = .ok (.invokevirtual 148, 3) := by decide +kernel
theorem dX10_timeOf_79 : decode cX10_timeOf 79 = .ok (.aload_n 0, 1) := by decide +kernel
theorem dX10_timeOf_80 : decode cX10_timeOf 80 = .ok (.getfield 23, 3) := by decide +kernel
theorem dX10_timeOf_83 : decode cX10_timeOf 83 = .ok (.aload_n 0, 1) := by decide +kernel
theorem dX10_timeOf_84 : decode cX10_timeOf 84 = .ok (.getfield 10, 3) := by decide +kernel
theorem dX10_timeOf_87 : decode cX10_timeOf 87 = .ok (.getfield 224, 3) := by decide +kernel
theorem dX10_timeOf_90 : decode cX10_timeOf 90 = .ok (.iload_n 3, 1) := by decide +kernel
theorem dX10_timeOf_91 : decode cX10_timeOf 91 = .ok (.invokevirtual 227, 3) := by decide +kernel
theorem dX10_timeOf_94 : decode cX10_timeOf 94 = .ok (.ifCond .eq 6, 3) := by decide +kernel
theorem dX10_timeOf_97 : decode cX10_timeOf 97 = .ok (.iload 4, 2) := by decide +kernel
theorem dX10_timeOf_99 : decode cX10_timeOf 99 = .ok (.ireturn, 1) := by decide +kernel
theorem dX10_timeOf_100 : decode cX10_timeOf 100 = .ok (.iinc 4 1, 3) := by decide +kernel
theorem dX10_timeOf_103 : decode cX10_timeOf 103 = .ok (.goto (-39), 3) := by decide +kernel
theorem dX10_timeOf_106 : decode cX10_timeOf 106 = .ok (.iconst (-1), 1) := by decide +kernel
theorem dX10_timeOf_107 : decode cX10_timeOf 107 = .ok (.ireturn, 1) := by decide +kernel
