theorem dX0_init_0 : decode cX0_init 0 = .ok (.aload_n 0, 1) := by decide +kernel
theorem dX0_init_1 : decode cX0_init 1 = .ok (.invokespecial 3, 3) := by decide +kernel
theorem dX0_init_4 : decode cX0_init 4 = .ok (.aload_n 0, 1) := by decide +kernel
theorem dX0_init_5 : decode cX0_init 5 = .ok (.iconst 0, 1) := by decide +kernel
theorem dX0_init_6 : decode cX0_init 6 = .ok (.putfield 9, 3) := by decide +kernel
theorem dX0_init_9 : decode cX0_init 9 = .ok (.aload_n 0, 1) := by decide +kernel
theorem dX0_init_10 : decode cX0_init 10 = .ok (.bipush 26, 2) := by decide +kernel
theorem dX0_init_12 : decode cX0_init 12 = .ok (.newarray .boolean, 2) := by decide +kernel
theorem dX0_init_14 : decode cX0_init 14 = .ok (.putfield 15, 3) := by decide +kernel
theorem dX0_init_17 : decode cX0_init 17 = .ok (.aload_n 0, 1) := by decide +kernel
theorem dX0_init_18 : decode cX0_init 18 = .ok (.bipush 26, 2) := by decide +kernel
theorem dX0_init_20 : decode cX0_init 20 = .ok (.newarray .int, 2) := by decide +kernel
theorem dX0_init_22 : decode cX0_init 22 = .ok (.putfield 19, 3) := by decide +kernel
theorem dX0_init_25 : decode cX0_init 25 = .ok (.aload_n 0, 1) := by decide +kernel
theorem dX0_init_26 : decode cX0_init 26 = .ok (.bipush 104, 2) := by decide +kernel
theorem dX0_init_28 : decode cX0_init 28 = .ok (.newarray .int, 2) := by decide +kernel
theorem dX0_init_30 : decode cX0_init 30 = .ok (.putfield 23, 3) := by decide +kernel
theorem dX0_init_33 : decode cX0_init 33 = .ok (.return_, 1) := by decide +kernel
theorem dX0_has_0 : decode cX0_has 0 = .ok (.iload_n 1, 1) := by decide +kernel
theorem dX0_has_1 : decode cX0_has 1 = .ok (.ifCond .lt 22, 3) := by decide +kernel
theorem dX0_has_4 : decode cX0_has 4 = .ok (.iload_n 1, 1) := by decide +kernel
theorem dX0_has_5 : decode cX0_has 5 = .ok (.bipush 26, 2) := by decide +kernel
theorem dX0_has_7 : decode cX0_has 7 = .ok (.if_icmp .ge 16, 3) := by decide +kernel
theorem dX0_has_10 : decode cX0_has 10 = .ok (.aload_n 0, 1) := by decide +kernel
theorem dX0_has_11 : decode cX0_has 11 = .ok (.getfield 15, 3) := by decide +kernel
theorem dX0_has_14 : decode cX0_has 14 = .ok (.iload_n 1, 1) := by decide +kernel
theorem dX0_has_15 : decode cX0_has 15 = .ok (.baload, 1) := by decide +kernel
theorem dX0_has_16 : decode cX0_has 16 = .ok (.ifCond .eq 7, 3) := by decide +kernel
theorem dX0_has_19 : decode cX0_has 19 = .ok (.iconst 1, 1) := by decide +kernel
theorem dX0_has_20 : decode cX0_has 20 = .ok (.goto 4, 3) := by decide +kernel
theorem dX0_has_23 : decode cX0_has 23 = .ok (.iconst 0, 1) := by decide +kernel
theorem dX0_has_24 : decode cX0_has 24 = .ok (.ireturn, 1) := by decide +kernel
theorem dX0_put_0 : decode cX0_put 0 = .ok (.iload_n 1, 1) := by decide +kernel
theorem dX0_put_1 : decode cX0_put 1 = .ok (.ifCond .lt 9, 3) := by decide +kernel
theorem dX0_put_4 : decode cX0_put 4 = .ok (.iload_n 1, 1) := by decide +kernel
theorem dX0_put_5 : decode cX0_put 5 = .ok (.bipush 26, 2) := by decide +kernel
theorem dX0_put_7 : decode cX0_put 7 = .ok (.if_icmp .lt 4, 3) := by decide +kernel
theorem dX0_put_10 : decode cX0_put 10 = .ok (.return_, 1) := by decide +kernel
theorem dX0_put_11 : decode cX0_put 11 = .ok (.aload_n 0, 1) := by decide +kernel
theorem dX0_put_12 : decode cX0_put 12 = .ok (.getfield 15, 3) := by decide +kernel
theorem dX0_put_15 : decode cX0_put 15 = .ok (.iload_n 1, 1) := by decide +kernel
theorem dX0_put_16 : decode cX0_put 16 = .ok (.baload, 1) := by decide +kernel
theorem dX0_put_17 : decode cX0_put 17 = .ok (.ifCond .ne 20, 3) := by decide +kernel
theorem dX0_put_20 : decode cX0_put 20 = .ok (.aload_n 0, 1) := by decide +kernel
theorem dX0_put_21 : decode cX0_put 21 = .ok (.getfield 15, 3) := by decide +kernel
theorem dX0_put_24 : decode cX0_put 24 = .ok (.iload_n 1, 1) := by decide +kernel
theorem dX0_put_25 : decode cX0_put 25 = .ok (.iconst 1, 1) := by decide +kernel
theorem dX0_put_26 : decode cX0_put 26 = .ok (.bastore, 1) := by decide +kernel
theorem dX0_put_27 : decode cX0_put 27 = .ok (.aload_n 0, 1) := by decide +kernel
theorem dX0_put_28 : decode cX0_put 28 = .ok (.dup, 1) := by decide +kernel
theorem dX0_put_29 : decode cX0_put 29 = .ok (.getfield 9, 3) := by decide +kernel
theorem dX0_put_32 : decode cX0_put 32 = .ok (.iconst 1, 1) := by decide +kernel
theorem dX0_put_33 : decode cX0_put 33 = .ok (.iadd, 1) := by decide +kernel
theorem dX0_put_34 : decode cX0_put 34 = .ok (.putfield 9, 3) := by decide +kernel
theorem dX0_put_37 : decode cX0_put 37 = .ok (.aload_n 0, 1) := by decide +kernel
theorem dX0_put_38 : decode cX0_put 38 = .ok (.getfield 19, 3) := by decide +kernel
theorem dX0_put_41 : decode cX0_put 41 = .ok (.iload_n 1, 1) := by decide +kernel
theorem dX0_put_42 : decode cX0_put 42 = .ok (.aload_n 2, 1) := by decide +kernel
theorem dX0_put_43 : decode cX0_put 43 = .ok (.getfield 26, 3) := by decide +kernel
theorem dX0_put_46 : decode cX0_put 46 = .ok (.iastore, 1) := by decide +kernel
theorem dX0_put_47 : decode cX0_put 47 = .ok (.aload_n 2, 1) := by decide +kernel
theorem dX0_put_48 : decode cX0_put 48 = .ok (.getfield 31, 3) := by decide +kernel
theorem dX0_put_51 : decode cX0_put 51 = .ok (.iconst 0, 1) := by decide +kernel
theorem dX0_put_52 : decode cX0_put 52 = .ok (.aload_n 0, 1) := by decide +kernel
theorem dX0_put_53 : decode cX0_put 53 = .ok (.getfield 23, 3) := by decide +kernel
theorem dX0_put_56 : decode cX0_put 56 = .ok (.iload_n 1, 1) := by decide +kernel
theorem dX0_put_57 : decode cX0_put 57 = .ok (.iconst 4, 1) := by decide +kernel
theorem dX0_put_58 : decode cX0_put 58 = .ok (.imul, 1) := by decide +kernel
theorem dX0_put_59 : decode cX0_put 59 = .ok (.iconst 4, 1) := by decide +kernel
theorem dX0_put_60 : decode cX0_put 60 = .ok (.invokestatic 34, 3) := by decide +kernel
theorem dX0_put_63 : decode cX0_put 63 = .ok (.return_, 1) := by decide +kernel
theorem dX0_suits_0 : decode cX0_suits 0 = .ok (.aload_n 0, 1) := by decide +kernel
theorem dX0_suits_1 : decode cX0_suits 1 = .ok (.iload_n 1, 1) := by decide +kernel
theorem dX0_suits_2 : decode cX0_suits 2 = .ok (.invokevirtual 40, 3) := by decide +kernel
theorem dX0_suits_5 : decode cX0_suits 5 = .ok (.ifCond .eq 16, 3) := by decide +kernel
theorem dX0_suits_8 : decode cX0_suits 8 = .ok (.aload_n 0, 1) := by decide +kernel
theorem dX0_suits_9 : decode cX0_suits 9 = .ok (.getfield 19, 3) := by decide +kernel
theorem dX0_suits_12 : decode cX0_suits 12 = .ok (.iload_n 1, 1) := by decide +kernel
theorem dX0_suits_13 : decode cX0_suits 13 = .ok (.iaload, 1) := by decide +kernel
theorem dX0_suits_14 : decode cX0_suits 14 = .ok (.aload_n 2, 1) := by decide +kernel
theorem dX0_suits_15 : decode cX0_suits 15 = .ok (.getfield 26, 3) := by decide +kernel
theorem dX0_suits_18 : decode cX0_suits 18 = .ok (.if_icmp .eq 5, 3) := by decide +kernel
theorem dX0_suits_21 : decode cX0_suits 21 = .ok (.iconst 0, 1) := by decide +kernel
theorem dX0_suits_22 : decode cX0_suits 22 = .ok (.ireturn, 1) := by decide +kernel
theorem dX0_suits_23 : decode cX0_suits 23 = .ok (.iconst 0, 1) := by decide +kernel
theorem dX0_suits_24 : decode cX0_suits 24 = .ok (.istore_n 3, 1) := by decide +kernel
theorem dX0_suits_25 : decode cX0_suits 25 = .ok (.iload_n 3, 1) := by decide +kernel
theorem dX0_suits_26 : decode cX0_suits 26 = .ok (.aload_n 2, 1) := by decide +kernel
theorem dX0_suits_27 : decode cX0_suits 27 = .ok (.getfield 26, 3) := by decide +kernel
theorem dX0_suits_30 : decode cX0_suits 30 = .ok (.if_icmp .ge 34, 3) := by decide +kernel
theorem dX0_suits_33 : decode cX0_suits 33 = .ok (.iload_n 3, 1) := by decide +kernel
theorem dX0_suits_34 : decode cX0_suits 34 = .ok (.iconst 4, 1) := by decide +kernel
theorem dX0_suits_35 : decode cX0_suits 35 = .ok (.if_icmp .ge 29, 3) := by decide +kernel
theorem dX0_suits_38 : decode cX0_suits 38 = .ok (.aload_n 2, 1) := by decide +kernel
theorem dX0_suits_39 : decode cX0_suits 39 = .ok (.iload_n 3, 1) := by decide +kernel
theorem dX0_suits_40 : decode cX0_suits 40 = .ok (.aload_n 0, 1) := by decide +kernel
theorem dX0_suits_41 : decode cX0_suits 41 = .ok (.getfield 23, 3) := by decide +kernel
theorem dX0_suits_44 : decode cX0_suits 44 = .ok (.iload_n 1, 1) := by decide +kernel
theorem dX0_suits_45 : decode cX0_suits 45 = .ok (.iconst 4, 1) := by decide +kernel
theorem dX0_suits_46 : decode cX0_suits 46 = .ok (.imul, 1) := by decide +kernel
theorem dX0_suits_47 : decode cX0_suits 47 = .ok (.iload_n 3, 1) := by decide +kernel
theorem dX0_suits_48 : decode cX0_suits 48 = .ok (.iadd, 1) := by decide +kernel
theorem dX0_suits_49 : decode cX0_suits 49 = .ok (.iaload, 1) := by decide +kernel
theorem dX0_suits_50 : decode cX0_suits 50 = .ok (.invokevirtual 44, 3) := by decide +kernel
theorem dX0_suits_53 : decode cX0_suits 53 = .ok (.ifCond .ne 5, 3) := by decide +kernel
theorem dX0_suits_56 : decode cX0_suits 56 = .ok (.iconst 0, 1) := by decide +kernel
theorem dX0_suits_57 : decode cX0_suits 57 = .ok (.ireturn, 1) := by decide +kernel
theorem dX0_suits_58 : decode cX0_suits 58 = .ok (.iinc 3 1, 3) := by decide +kernel
theorem dX0_suits_61 : decode cX0_suits 61 = .ok (.goto (-36), 3) := by decide +kernel
theorem dX0_suits_64 : decode cX0_suits 64 = .ok (.iconst 1, 1) := by decide +kernel
theorem dX0_suits_65 : decode cX0_suits 65 = .ok (.ireturn, 1) := by decide +kernel
theorem dX0_readValues_0 : decode cX0_readValues 0 = .ok (.aload_n 0, 1) := by decide +kernel
theorem dX0_readValues_1 : decode cX0_readValues 1 = .ok (.iload_n 1, 1) := by decide +kernel
theorem dX0_readValues_2 : decode cX0_readValues 2 = .ok (.invokevirtual 40, 3) := by decide +kernel
theorem dX0_readValues_5 : decode cX0_readValues 5 = .ok (.ifCond .eq 22, 3) := by decide +kernel
theorem dX0_readValues_8 : decode cX0_readValues 8 = .ok (.aload_n 2, 1) := by decide +kernel
theorem dX0_readValues_9 : decode cX0_readValues 9 = .ok (.arraylength, 1) := by decide +kernel
theorem dX0_readValues_10 : decode cX0_readValues 10 = .ok (.iconst 4, 1) := by decide +kernel
theorem dX0_readValues_11 : decode cX0_readValues 11 = .ok (.if_icmp .lt 16, 3) := by decide +kernel
theorem dX0_readValues_14 : decode cX0_readValues 14 = .ok (.aload_n 0, 1) := by decide +kernel
theorem dX0_readValues_15 : decode cX0_readValues 15 = .ok (.getfield 23, 3) := by decide +kernel
theorem dX0_readValues_18 : decode cX0_readValues 18 = .ok (.iload_n 1, 1) := by decide +kernel
theorem dX0_readValues_19 : decode cX0_readValues 19 = .ok (.iconst 4, 1) := by decide +kernel
theorem dX0_readValues_20 : decode cX0_readValues 20 = .ok (.imul, 1) := by decide +kernel
theorem dX0_readValues_21 : decode cX0_readValues 21 = .ok (.aload_n 2, 1) := by decide +kernel
theorem dX0_readValues_22 : decode cX0_readValues 22 = .ok (.iconst 0, 1) := by decide +kernel
theorem dX0_readValues_23 : decode cX0_readValues 23 = .ok (.iconst 4, 1) := by decide +kernel
theorem dX0_readValues_24 : decode cX0_readValues 24 = .ok (.invokestatic 34, 3) := by decide +kernel
theorem dX0_readValues_27 : decode cX0_readValues 27 = .ok (.return_, 1) := by decide +kernel
theorem dX1_init_0 : decode cX1_init 0 = .ok (.aload_n 0, 1) := by decide +kernel
theorem dX1_init_1 : decode cX1_init 1 = .ok (.invokespecial 3, 3) := by decide +kernel
theorem dX1_init_4 : decode cX1_init 4 = .ok (.aload_n 0, 1) := by decide +kernel
theorem dX1_init_5 : decode cX1_init 5 = .ok (.iconst 0, 1) := by decide +kernel
theorem dX1_init_6 : decode cX1_init 6 = .ok (.putfield 9, 3) := by decide +kernel
theorem dX1_init_9 : decode cX1_init 9 = .ok (.aload_n 0, 1) := by decide +kernel
theorem dX1_init_10 : decode cX1_init 10 = .ok (.iconst 0, 1) := by decide +kernel
theorem dX1_init_11 : decode cX1_init 11 = .ok (.putfield 15, 3) := by decide +kernel
theorem dX1_init_14 : decode cX1_init 14 = .ok (.aload_n 0, 1) := by decide +kernel
theorem dX1_init_15 : decode cX1_init 15 = .ok (.bipush 8, 2) := by decide +kernel
theorem dX1_init_17 : decode cX1_init 17 = .ok (.anewarray 18, 3) := by decide +kernel
theorem dX1_init_20 : decode cX1_init 20 = .ok (.putfield 20, 3) := by decide +kernel
theorem dX1_init_23 : decode cX1_init 23 = .ok (.iconst 0, 1) := by decide +kernel
theorem dX1_init_24 : decode cX1_init 24 = .ok (.istore_n 1, 1) := by decide +kernel
theorem dX1_init_25 : decode cX1_init 25 = .ok (.iload_n 1, 1) := by decide +kernel
theorem dX1_init_26 : decode cX1_init 26 = .ok (.bipush 8, 2) := by decide +kernel
theorem dX1_init_28 : decode cX1_init 28 = .ok (.if_icmp .ge 22, 3) := by decide +kernel
theorem dX1_init_31 : decode cX1_init 31 = .ok (.aload_n 0, 1) := by decide +kernel
theorem dX1_init_32 : decode cX1_init 32 = .ok (.getfield 20, 3) := by decide +kernel
theorem dX1_init_35 : decode cX1_init 35 = .ok (.iload_n 1, 1) := by decide +kernel
theorem dX1_init_36 : decode cX1_init 36 = .ok (.new 18, 3) := by decide +kernel
theorem dX1_init_39 : decode cX1_init 39 = .ok (.dup, 1) := by decide +kernel
theorem dX1_init_40 : decode cX1_init 40 = .ok (.invokespecial 24, 3) := by decide +kernel
theorem dX1_init_43 : decode cX1_init 43 = .ok (.aastore, 1) := by decide +kernel
theorem dX1_init_44 : decode cX1_init 44 = .ok (.iinc 1 1, 3) := by decide +kernel
theorem dX1_init_47 : decode cX1_init 47 = .ok (.goto (-22), 3) := by decide +kernel
theorem dX1_init_50 : decode cX1_init 50 = .ok (.return_, 1) := by decide +kernel
theorem dX1_forget_0 : decode cX1_forget 0 = .ok (.aload_n 0, 1) := by decide +kernel
theorem dX1_forget_1 : decode cX1_forget 1 = .ok (.iconst 0, 1) := by decide +kernel
theorem dX1_forget_2 : decode cX1_forget 2 = .ok (.putfield 9, 3) := by decide +kernel
theorem dX1_forget_5 : decode cX1_forget 5 = .ok (.return_, 1) := by decide +kernel
theorem dX1_remember_0 : decode cX1_remember 0 = .ok (.aload_n 0, 1) := by decide +kernel
theorem dX1_remember_1 : decode cX1_remember 1 = .ok (.getfield 20, 3) := by decide +kernel
theorem dX1_remember_4 : decode cX1_remember 4 = .ok (.aload_n 0, 1) := by decide +kernel
theorem dX1_remember_5 : decode cX1_remember 5 = .ok (.getfield 15, 3) := by decide +kernel
theorem dX1_remember_8 : decode cX1_remember 8 = .ok (.aload_n 0, 1) := by decide +kernel
theorem dX1_remember_9 : decode cX1_remember 9 = .ok (.getfield 9, 3) := by decide +kernel
theorem dX1_remember_12 : decode cX1_remember 12 = .ok (.iadd, 1) := by decide +kernel
theorem dX1_remember_13 : decode cX1_remember 13 = .ok (.bipush 7, 2) := by decide +kernel
theorem dX1_remember_15 : decode cX1_remember 15 = .ok (.iand, 1) := by decide +kernel
theorem dX1_remember_16 : decode cX1_remember 16 = .ok (.aaload, 1) := by decide +kernel
theorem dX1_remember_17 : decode cX1_remember 17 = .ok (.astore_n 2, 1) := by decide +kernel
theorem dX1_remember_18 : decode cX1_remember 18 = .ok (.aload_n 2, 1) := by decide +kernel
theorem dX1_remember_19 : decode cX1_remember 19 = .ok (.ifnull 8, 3) := by decide +kernel
theorem dX1_remember_22 : decode cX1_remember 22 = .ok (.aload_n 2, 1) := by decide +kernel
theorem dX1_remember_23 : decode cX1_remember 23 = .ok (.aload_n 1, 1) := by decide +kernel
theorem dX1_remember_24 : decode cX1_remember 24 = .ok (.invokevirtual 25, 3) := by decide +kernel
theorem dX1_remember_27 : decode cX1_remember 27 = .ok (.aload_n 0, 1) := by decide +kernel
theorem dX1_remember_28 : decode cX1_remember 28 = .ok (.getfield 9, 3) := by decide +kernel
theorem dX1_remember_31 : decode cX1_remember 31 = .ok (.bipush 8, 2) := by decide +kernel
theorem dX1_remember_33 : decode cX1_remember 33 = .ok (.if_icmp .ge 16, 3) := by decide +kernel
theorem dX1_remember_36 : decode cX1_remember 36 = .ok (.aload_n 0, 1) := by decide +kernel
theorem dX1_remember_37 : decode cX1_remember 37 = .ok (.dup, 1) := by decide +kernel
theorem dX1_remember_38 : decode cX1_remember 38 = .ok (.getfield 9, 3) := by decide +kernel
theorem dX1_remember_41 : decode cX1_remember 41 = .ok (.iconst 1, 1) := by decide +kernel
theorem dX1_remember_42 : decode cX1_remember 42 = .ok (.iadd, 1) := by decide +kernel
theorem dX1_remember_43 : decode cX1_remember 43 = .ok (.putfield 9, 3) := by decide +kernel
theorem dX1_remember_46 : decode cX1_remember 46 = .ok (.goto 16, 3) := by decide +kernel
theorem dX1_remember_49 : decode cX1_remember 49 = .ok (.aload_n 0, 1) := by decide +kernel
theorem dX1_remember_50 : decode cX1_remember 50 = .ok (.aload_n 0, 1) := by decide +kernel
theorem dX1_remember_51 : decode cX1_remember 51 = .ok (.getfield 15, 3) := by decide +kernel
theorem dX1_remember_54 : decode cX1_remember 54 = .ok (.iconst 1, 1) := by decide +kernel
theorem dX1_remember_55 : decode cX1_remember 55 = .ok (.iadd, 1) := by decide +kernel
theorem dX1_remember_56 : decode cX1_remember 56 = .ok (.bipush 7, 2) := by decide +kernel
theorem dX1_remember_58 : decode cX1_remember 58 = .ok (.iand, 1) := by decide +kernel
theorem dX1_remember_59 : decode cX1_remember 59 = .ok (.putfield 15, 3) := by decide +kernel
theorem dX1_remember_62 : decode cX1_remember 62 = .ok (.return_, 1) := by decide +kernel
theorem dX1_takeLatest_0 : decode cX1_takeLatest 0 = .ok (.aload_n 0, 1) := by decide +kernel
theorem dX1_takeLatest_1 : decode cX1_takeLatest 1 = .ok (.getfield 9, 3) := by decide +kernel
theorem dX1_takeLatest_4 : decode cX1_takeLatest 4 = .ok (.ifCond .le 34, 3) := by decide +kernel
theorem dX1_takeLatest_7 : decode cX1_takeLatest 7 = .ok (.aload_n 0, 1) := by decide +kernel
theorem dX1_takeLatest_8 : decode cX1_takeLatest 8 = .ok (.dup, 1) := by decide +kernel
theorem dX1_takeLatest_9 : decode cX1_takeLatest 9 = .ok (.getfield 9, 3) := by decide +kernel
theorem dX1_takeLatest_12 : decode cX1_takeLatest 12 = .ok (.iconst 1, 1) := by decide +kernel
theorem dX1_takeLatest_13 : decode cX1_takeLatest 13 = .ok (.isub, 1) := by decide +kernel
theorem dX1_takeLatest_14 : decode cX1_takeLatest 14 = .ok (.putfield 9, 3) := by decide +kernel
theorem dX1_takeLatest_17 : decode cX1_takeLatest 17 = .ok (.aload_n 1, 1) := by decide +kernel
theorem dX1_takeLatest_18 : decode cX1_takeLatest 18 = .ok (.aload_n 0, 1) := by decide +kernel
theorem dX1_takeLatest_19 : decode cX1_takeLatest 19 = .ok (.getfield 20, 3) := by decide +kernel
theorem dX1_takeLatest_22 : decode cX1_takeLatest 22 = .ok (.aload_n 0, 1) := by decide +kernel
theorem dX1_takeLatest_23 : decode cX1_takeLatest 23 = .ok (.getfield 15, 3) := by decide +kernel
theorem dX1_takeLatest_26 : decode cX1_takeLatest 26 = .ok (.aload_n 0, 1) := by decide +kernel
theorem dX1_takeLatest_27 : decode cX1_takeLatest 27 = .ok (.getfield 9, 3) := by decide +kernel
theorem dX1_takeLatest_30 : decode cX1_takeLatest 30 = .ok (.iadd, 1) := by decide +kernel
theorem dX1_takeLatest_31 : decode cX1_takeLatest 31 = .ok (.bipush 7, 2) := by decide +kernel
theorem dX1_takeLatest_33 : decode cX1_takeLatest 33 = .ok (.iand, 1) := by decide +kernel
theorem dX1_takeLatest_34 : decode cX1_takeLatest 34 = .ok (.aaload, 1) := by decide +kernel
theorem dX1_takeLatest_35 : decode cX1_takeLatest 35 = .ok (.invokevirtual 25, 3) := by decide +kernel
theorem dX1_takeLatest_38 : decode cX1_takeLatest 38 = .ok (.return_, 1) := by decide +kernel
theorem dX2_init_0 : decode cX2_init 0 = .ok (.aload_n 0, 1) := by decide +kernel
theorem dX2_init_1 : decode cX2_init 1 = .ok (.invokespecial 3, 3) := by decide +kernel
theorem dX2_init_4 : decode cX2_init 4 = .ok (.aload_n 0, 1) := by decide +kernel
theorem dX2_init_5 : decode cX2_init 5 = .ok (.iconst 0, 1) := by decide +kernel
theorem dX2_init_6 : decode cX2_init 6 = .ok (.putfield 9, 3) := by decide +kernel
theorem dX2_init_9 : decode cX2_init 9 = .ok (.aload_n 0, 1) := by decide +kernel
theorem dX2_init_10 : decode cX2_init 10 = .ok (.bipush 60, 2) := by decide +kernel
theorem dX2_init_12 : decode cX2_init 12 = .ok (.newarray .char, 2) := by decide +kernel
theorem dX2_init_14 : decode cX2_init 14 = .ok (.putfield 15, 3) := by decide +kernel
theorem dX2_init_17 : decode cX2_init 17 = .ok (.aload_n 0, 1) := by decide +kernel
theorem dX2_init_18 : decode cX2_init 18 = .ok (.iconst 3, 1) := by decide +kernel
theorem dX2_init_19 : decode cX2_init 19 = .ok (.newarray .int, 2) := by decide +kernel
theorem dX2_init_21 : decode cX2_init 21 = .ok (.putfield 19, 3) := by decide +kernel
theorem dX2_init_24 : decode cX2_init 24 = .ok (.return_, 1) := by decide +kernel
theorem dX2_put_0 : decode cX2_put 0 = .ok (.aload_n 0, 1) := by decide +kernel
theorem dX2_put_1 : decode cX2_put 1 = .ok (.getfield 9, 3) := by decide +kernel
theorem dX2_put_4 : decode cX2_put 4 = .ok (.ifCond .lt 32, 3) := by decide +kernel
theorem dX2_put_7 : decode cX2_put 7 = .ok (.aload_n 0, 1) := by decide +kernel
theorem dX2_put_8 : decode cX2_put 8 = .ok (.getfield 9, 3) := by decide +kernel
theorem dX2_put_11 : decode cX2_put 11 = .ok (.bipush 60, 2) := by decide +kernel
theorem dX2_put_13 : decode cX2_put 13 = .ok (.if_icmp .ge 23, 3) := by decide +kernel
theorem dX2_put_16 : decode cX2_put 16 = .ok (.aload_n 0, 1) := by decide +kernel
theorem dX2_put_17 : decode cX2_put 17 = .ok (.getfield 15, 3) := by decide +kernel
theorem dX2_put_20 : decode cX2_put 20 = .ok (.aload_n 0, 1) := by decide +kernel
theorem dX2_put_21 : decode cX2_put 21 = .ok (.getfield 9, 3) := by decide +kernel
theorem dX2_put_24 : decode cX2_put 24 = .ok (.iload_n 1, 1) := by decide +kernel
theorem dX2_put_25 : decode cX2_put 25 = .ok (.castore, 1) := by decide +kernel
theorem dX2_put_26 : decode cX2_put 26 = .ok (.aload_n 0, 1) := by decide +kernel
theorem dX2_put_27 : decode cX2_put 27 = .ok (.dup, 1) := by decide +kernel
theorem dX2_put_28 : decode cX2_put 28 = .ok (.getfield 9, 3) := by decide +kernel
theorem dX2_put_31 : decode cX2_put 31 = .ok (.iconst 1, 1) := by decide +kernel
theorem dX2_put_32 : decode cX2_put 32 = .ok (.iadd, 1) := by decide +kernel
theorem dX2_put_33 : decode cX2_put 33 = .ok (.putfield 9, 3) := by decide +kernel
theorem dX2_put_36 : decode cX2_put 36 = .ok (.return_, 1) := by decide +kernel
theorem dX2_signAt_0 : decode cX2_signAt 0 = .ok (.iload_n 1, 1) := by decide +kernel
theorem dX2_signAt_1 : decode cX2_signAt 1 = .ok (.ifCond .lt 26, 3) := by decide +kernel
theorem dX2_signAt_4 : decode cX2_signAt 4 = .ok (.iload_n 1, 1) := by decide +kernel
theorem dX2_signAt_5 : decode cX2_signAt 5 = .ok (.aload_n 0, 1) := by decide +kernel
theorem dX2_signAt_6 : decode cX2_signAt 6 = .ok (.getfield 9, 3) := by decide +kernel
theorem dX2_signAt_9 : decode cX2_signAt 9 = .ok (.if_icmp .ge 18, 3) := by decide +kernel
theorem dX2_signAt_12 : decode cX2_signAt 12 = .ok (.iload_n 1, 1) := by decide +kernel
theorem dX2_signAt_13 : decode cX2_signAt 13 = .ok (.bipush 60, 2) := by decide +kernel
theorem dX2_signAt_15 : decode cX2_signAt 15 = .ok (.if_icmp .ge 12, 3) := by decide +kernel
theorem dX2_signAt_18 : decode cX2_signAt 18 = .ok (.aload_n 0, 1) := by decide +kernel
theorem dX2_signAt_19 : decode cX2_signAt 19 = .ok (.getfield 15, 3) := by decide +kernel
theorem dX2_signAt_22 : decode cX2_signAt 22 = .ok (.iload_n 1, 1) := by decide +kernel
theorem dX2_signAt_23 : decode cX2_signAt 23 = .ok (.caload, 1) := by decide +kernel
theorem dX2_signAt_24 : decode cX2_signAt 24 = .ok (.goto 5, 3) := by decide +kernel
theorem dX2_signAt_27 : decode cX2_signAt 27 = .ok (.bipush 32, 2) := by decide +kernel
theorem dX2_signAt_29 : decode cX2_signAt 29 = .ok (.ireturn, 1) := by decide +kernel
theorem dX2_errorPlace_0 : decode cX2_errorPlace 0 = .ok (.iconst 0, 1) := by decide +kernel
theorem dX2_errorPlace_1 : decode cX2_errorPlace 1 = .ok (.istore_n 1, 1) := by decide +kernel
theorem dX2_errorPlace_2 : decode cX2_errorPlace 2 = .ok (.iconst 0, 1) := by decide +kernel
theorem dX2_errorPlace_3 : decode cX2_errorPlace 3 = .ok (.istore_n 2, 1) := by decide +kernel
theorem dX2_errorPlace_4 : decode cX2_errorPlace 4 = .ok (.iload_n 2, 1) := by decide +kernel
theorem dX2_errorPlace_5 : decode cX2_errorPlace 5 = .ok (.aload_n 0, 1) := by decide +kernel
theorem dX2_errorPlace_6 : decode cX2_errorPlace 6 = .ok (.getfield 9, 3) := by decide +kernel
theorem dX2_errorPlace_9 : decode cX2_errorPlace 9 = .ok (.if_icmp .ge 25, 3) := by decide +kernel
theorem dX2_errorPlace_12 : decode cX2_errorPlace 12 = .ok (.iload_n 1, 1) := by decide +kernel
theorem dX2_errorPlace_13 : decode cX2_errorPlace 13 = .ok (.aload_n 0, 1) := by decide +kernel
theorem dX2_errorPlace_14 : decode cX2_errorPlace 14 = .ok (.iload_n 2, 1) := by decide +kernel
theorem dX2_errorPlace_15 : decode cX2_errorPlace 15 = .ok (.invokevirtual 23, 3) := by decide +kernel
theorem dX2_errorPlace_18 : decode cX2_errorPlace 18 = .ok (.invokestatic 27, 3) := by decide +kernel
theorem dX2_errorPlace_21 : decode cX2_errorPlace 21 = .ok (.istore_n 1, 1) := by decide +kernel
theorem dX2_errorPlace_22 : decode cX2_errorPlace 22 = .ok (.iload_n 1, 1) := by decide +kernel
theorem dX2_errorPlace_23 : decode cX2_errorPlace 23 = .ok (.ifCond .ge 5, 3) := by decide +kernel
theorem dX2_errorPlace_26 : decode cX2_errorPlace 26 = .ok (.iload_n 2, 1) := by decide +kernel
theorem dX2_errorPlace_27 : decode cX2_errorPlace 27 = .ok (.ireturn, 1) := by decide +kernel
theorem dX2_errorPlace_28 : decode cX2_errorPlace 28 = .ok (.iinc 2 1, 3) := by decide +kernel
theorem dX2_errorPlace_31 : decode cX2_errorPlace 31 = .ok (.goto (-27), 3) := by decide +kernel
theorem dX2_errorPlace_34 : decode cX2_errorPlace 34 = .ok (.aload_n 0, 1) := by decide +kernel
theorem dX2_errorPlace_35 : decode cX2_errorPlace 35 = .ok (.getfield 9, 3) := by decide +kernel
theorem dX2_errorPlace_38 : decode cX2_errorPlace 38 = .ok (.ifCond .le 11, 3) := by decide +kernel
theorem dX2_errorPlace_41 : decode cX2_errorPlace 41 = .ok (.iload_n 1, 1) := by decide +kernel
theorem dX2_errorPlace_42 : decode cX2_errorPlace 42 = .ok (.ifCond .ne 7, 3) := by decide +kernel
theorem dX2_errorPlace_45 : decode cX2_errorPlace 45 = .ok (.iconst (-1), 1) := by decide +kernel
theorem dX2_errorPlace_46 : decode cX2_errorPlace 46 = .ok (.goto 7, 3) := by decide +kernel
theorem dX2_errorPlace_49 : decode cX2_errorPlace 49 = .ok (.aload_n 0, 1) := by decide +kernel
theorem dX2_errorPlace_50 : decode cX2_errorPlace 50 = .ok (.getfield 9, 3) := by decide +kernel
theorem dX2_errorPlace_53 : decode cX2_errorPlace 53 = .ok (.ireturn, 1) := by decide +kernel
theorem dX2_stateBehind_0 : decode cX2_stateBehind 0 = .ok (.iload_n 0, 1) := by decide +kernel
theorem dX2_stateBehind_1 : decode cX2_stateBehind 1 = .ok (.tableswitch 188 0 8 #[51, 74, 91, 103, 115, 132, 145, 163, 176], 51) := by decide +kernel
theorem dX2_stateBehind_52 : decode cX2_stateBehind 52 = .ok (.iload_n 1, 1) := by decide +kernel
theorem dX2_stateBehind_53 : decode cX2_stateBehind 53 = .ok (.bipush 76, 2) := by decide +kernel
theorem dX2_stateBehind_55 : decode cX2_stateBehind 55 = .ok (.if_icmp .ne 7, 3) := by decide +kernel
theorem dX2_stateBehind_58 : decode cX2_stateBehind 58 = .ok (.iconst 1, 1) := by decide +kernel
theorem dX2_stateBehind_59 : decode cX2_stateBehind 59 = .ok (.goto 15, 3) := by decide +kernel
theorem dX2_stateBehind_62 : decode cX2_stateBehind 62 = .ok (.iload_n 1, 1) := by decide +kernel
theorem dX2_stateBehind_63 : decode cX2_stateBehind 63 = .ok (.bipush 79, 2) := by decide +kernel
theorem dX2_stateBehind_65 : decode cX2_stateBehind 65 = .ok (.if_icmp .ne 8, 3) := by decide +kernel
theorem dX2_stateBehind_68 : decode cX2_stateBehind 68 = .ok (.bipush 9, 2) := by decide +kernel
theorem dX2_stateBehind_70 : decode cX2_stateBehind 70 = .ok (.goto 4, 3) := by decide +kernel
theorem dX2_stateBehind_73 : decode cX2_stateBehind 73 = .ok (.iconst (-1), 1) := by decide +kernel
theorem dX2_stateBehind_74 : decode cX2_stateBehind 74 = .ok (.ireturn, 1) := by decide +kernel
theorem dX2_stateBehind_75 : decode cX2_stateBehind 75 = .ok (.iload_n 1, 1) := by decide +kernel
theorem dX2_stateBehind_76 : decode cX2_stateBehind 76 = .ok (.bipush 49, 2) := by decide +kernel
theorem dX2_stateBehind_78 : decode cX2_stateBehind 78 = .ok (.bipush 53, 2) := by decide +kernel
theorem dX2_stateBehind_80 : decode cX2_stateBehind 80 = .ok (.invokestatic 31, 3) := by decide +kernel
theorem dX2_stateBehind_83 : decode cX2_stateBehind 83 = .ok (.ifCond .eq 7, 3) := by decide +kernel
theorem dX2_stateBehind_86 : decode cX2_stateBehind 86 = .ok (.iconst 2, 1) := by decide +kernel
theorem dX2_stateBehind_87 : decode cX2_stateBehind 87 = .ok (.goto 4, 3) := by decide +kernel
theorem dX2_stateBehind_90 : decode cX2_stateBehind 90 = .ok (.iconst (-1), 1) := by decide +kernel
theorem dX2_stateBehind_91 : decode cX2_stateBehind 91 = .ok (.ireturn, 1) := by decide +kernel
theorem dX2_stateBehind_92 : decode cX2_stateBehind 92 = .ok (.iload_n 1, 1) := by decide +kernel
theorem dX2_stateBehind_93 : decode cX2_stateBehind 93 = .ok (.bipush 40, 2) := by decide +kernel
theorem dX2_stateBehind_95 : decode cX2_stateBehind 95 = .ok (.if_icmp .ne 7, 3) := by decide +kernel
theorem dX2_stateBehind_98 : decode cX2_stateBehind 98 = .ok (.iconst 3, 1) := by decide +kernel
theorem dX2_stateBehind_99 : decode cX2_stateBehind 99 = .ok (.goto 4, 3) := by decide +kernel
theorem dX2_stateBehind_102 : decode cX2_stateBehind 102 = .ok (.iconst (-1), 1) := by decide +kernel
theorem dX2_stateBehind_103 : decode cX2_stateBehind 103 = .ok (.ireturn, 1) := by decide +kernel
theorem dX2_stateBehind_104 : decode cX2_stateBehind 104 = .ok (.iload_n 1, 1) := by decide +kernel
theorem dX2_stateBehind_105 : decode cX2_stateBehind 105 = .ok (.bipush 45, 2) := by decide +kernel
theorem dX2_stateBehind_107 : decode cX2_stateBehind 107 = .ok (.if_icmp .ne 7, 3) := by decide +kernel
theorem dX2_stateBehind_110 : decode cX2_stateBehind 110 = .ok (.iconst 4, 1) := by decide +kernel
theorem dX2_stateBehind_111 : decode cX2_stateBehind 111 = .ok (.goto 4, 3) := by decide +kernel
theorem dX2_stateBehind_114 : decode cX2_stateBehind 114 = .ok (.iconst (-1), 1) := by decide +kernel
theorem dX2_stateBehind_115 : decode cX2_stateBehind 115 = .ok (.ireturn, 1) := by decide +kernel
theorem dX2_stateBehind_116 : decode cX2_stateBehind 116 = .ok (.iload_n 1, 1) := by decide +kernel
theorem dX2_stateBehind_117 : decode cX2_stateBehind 117 = .ok (.bipush 48, 2) := by decide +kernel
theorem dX2_stateBehind_119 : decode cX2_stateBehind 119 = .ok (.bipush 56, 2) := by decide +kernel
theorem dX2_stateBehind_121 : decode cX2_stateBehind 121 = .ok (.invokestatic 31, 3) := by decide +kernel
theorem dX2_stateBehind_124 : decode cX2_stateBehind 124 = .ok (.ifCond .eq 7, 3) := by decide +kernel
theorem dX2_stateBehind_127 : decode cX2_stateBehind 127 = .ok (.iconst 5, 1) := by decide +kernel
theorem dX2_stateBehind_128 : decode cX2_stateBehind 128 = .ok (.goto 4, 3) := by decide +kernel
theorem dX2_stateBehind_131 : decode cX2_stateBehind 131 = .ok (.iconst (-1), 1) := by decide +kernel
theorem dX2_stateBehind_132 : decode cX2_stateBehind 132 = .ok (.ireturn, 1) := by decide +kernel
theorem dX2_stateBehind_133 : decode cX2_stateBehind 133 = .ok (.iload_n 1, 1) := by decide +kernel
theorem dX2_stateBehind_134 : decode cX2_stateBehind 134 = .ok (.bipush 44, 2) := by decide +kernel
theorem dX2_stateBehind_136 : decode cX2_stateBehind 136 = .ok (.if_icmp .ne 8, 3) := by decide +kernel
theorem dX2_stateBehind_139 : decode cX2_stateBehind 139 = .ok (.bipush 6, 2) := by decide +kernel
theorem dX2_stateBehind_141 : decode cX2_stateBehind 141 = .ok (.goto 4, 3) := by decide +kernel
theorem dX2_stateBehind_144 : decode cX2_stateBehind 144 = .ok (.iconst (-1), 1) := by decide +kernel
theorem dX2_stateBehind_145 : decode cX2_stateBehind 145 = .ok (.ireturn, 1) := by decide +kernel
theorem dX2_stateBehind_146 : decode cX2_stateBehind 146 = .ok (.iload_n 1, 1) := by decide +kernel
theorem dX2_stateBehind_147 : decode cX2_stateBehind 147 = .ok (.bipush 48, 2) := by decide +kernel
theorem dX2_stateBehind_149 : decode cX2_stateBehind 149 = .ok (.bipush 56, 2) := by decide +kernel
theorem dX2_stateBehind_151 : decode cX2_stateBehind 151 = .ok (.invokestatic 31, 3) := by decide +kernel
theorem dX2_stateBehind_154 : decode cX2_stateBehind 154 = .ok (.ifCond .eq 8, 3) := by decide +kernel
theorem dX2_stateBehind_157 : decode cX2_stateBehind 157 = .ok (.bipush 7, 2) := by decide +kernel
theorem dX2_stateBehind_159 : decode cX2_stateBehind 159 = .ok (.goto 4, 3) := by decide +kernel
theorem dX2_stateBehind_162 : decode cX2_stateBehind 162 = .ok (.iconst (-1), 1) := by decide +kernel
theorem dX2_stateBehind_163 : decode cX2_stateBehind 163 = .ok (.ireturn, 1) := by decide +kernel
theorem dX2_stateBehind_164 : decode cX2_stateBehind 164 = .ok (.iload_n 1, 1) := by decide +kernel
theorem dX2_stateBehind_165 : decode cX2_stateBehind 165 = .ok (.bipush 41, 2) := by decide +kernel
theorem dX2_stateBehind_167 : decode cX2_stateBehind 167 = .ok (.if_icmp .ne 8, 3) := by decide +kernel
theorem dX2_stateBehind_170 : decode cX2_stateBehind 170 = .ok (.bipush 8, 2) := by decide +kernel
theorem dX2_stateBehind_172 : decode cX2_stateBehind 172 = .ok (.goto 4, 3) := by decide +kernel
theorem dX2_stateBehind_175 : decode cX2_stateBehind 175 = .ok (.iconst (-1), 1) := by decide +kernel
theorem dX2_stateBehind_176 : decode cX2_stateBehind 176 = .ok (.ireturn, 1) := by decide +kernel
theorem dX2_stateBehind_177 : decode cX2_stateBehind 177 = .ok (.iload_n 1, 1) := by decide +kernel
theorem dX2_stateBehind_178 : decode cX2_stateBehind 178 = .ok (.bipush 59, 2) := by decide +kernel
theorem dX2_stateBehind_180 : decode cX2_stateBehind 180 = .ok (.if_icmp .ne 7, 3) := by decide +kernel
theorem dX2_stateBehind_183 : decode cX2_stateBehind 183 = .ok (.iconst 0, 1) := by decide +kernel
theorem dX2_stateBehind_184 : decode cX2_stateBehind 184 = .ok (.goto 4, 3) := by decide +kernel
theorem dX2_stateBehind_187 : decode cX2_stateBehind 187 = .ok (.iconst (-1), 1) := by decide +kernel
theorem dX2_stateBehind_188 : decode cX2_stateBehind 188 = .ok (.ireturn, 1) := by decide +kernel
theorem dX2_stateBehind_189 : decode cX2_stateBehind 189 = .ok (.iload_n 0, 1) := by decide +kernel
theorem dX2_stateBehind_190 : decode cX2_stateBehind 190 = .ok (.iload_n 1, 1) := by decide +kernel
theorem dX2_stateBehind_191 : decode cX2_stateBehind 191 = .ok (.invokestatic 35, 3) := by decide +kernel
theorem dX2_stateBehind_194 : decode cX2_stateBehind 194 = .ok (.ireturn, 1) := by decide +kernel
theorem dX2_stateInObstacle_0 : decode cX2_stateInObstacle 0 = .ok (.iload_n 0, 1) := by decide +kernel
theorem dX2_stateInObstacle_1 : decode cX2_stateInObstacle 1 = .ok (.bipush 13, 2) := by decide +kernel
theorem dX2_stateInObstacle_3 : decode cX2_stateInObstacle 3 = .ok (.if_icmp .ge 8, 3) := by decide +kernel
theorem dX2_stateInObstacle_6 : decode cX2_stateInObstacle 6 = .ok (.bipush 9, 2) := by decide +kernel
theorem dX2_stateInObstacle_8 : decode cX2_stateInObstacle 8 = .ok (.goto 5, 3) := by decide +kernel
theorem dX2_stateInObstacle_11 : decode cX2_stateInObstacle 11 = .ok (.bipush 13, 2) := by decide +kernel
theorem dX2_stateInObstacle_13 : decode cX2_stateInObstacle 13 = .ok (.istore_n 2, 1) := by decide +kernel
theorem dX2_stateInObstacle_14 : decode cX2_stateInObstacle 14 = .ok (.iload_n 0, 1) := by decide +kernel
theorem dX2_stateInObstacle_15 : decode cX2_stateInObstacle 15 = .ok (.iload_n 2, 1) := by decide +kernel
theorem dX2_stateInObstacle_16 : decode cX2_stateInObstacle 16 = .ok (.isub, 1) := by decide +kernel
theorem dX2_stateInObstacle_17 : decode cX2_stateInObstacle 17 = .ok (.istore_n 3, 1) := by decide +kernel
theorem dX2_stateInObstacle_18 : decode cX2_stateInObstacle 18 = .ok (.iload_n 3, 1) := by decide +kernel
theorem dX2_stateInObstacle_19 : decode cX2_stateInObstacle 19 = .ok (.ifCond .lt 8, 3) := by decide +kernel
theorem dX2_stateInObstacle_22 : decode cX2_stateInObstacle 22 = .ok (.iload_n 3, 1) := by decide +kernel
theorem dX2_stateInObstacle_23 : decode cX2_stateInObstacle 23 = .ok (.iconst 3, 1) := by decide +kernel
theorem dX2_stateInObstacle_24 : decode cX2_stateInObstacle 24 = .ok (.if_icmp .le 5, 3) := by decide +kernel
theorem dX2_stateInObstacle_27 : decode cX2_stateInObstacle 27 = .ok (.iconst (-1), 1) := by decide +kernel
theorem dX2_stateInObstacle_28 : decode cX2_stateInObstacle 28 = .ok (.ireturn, 1) := by decide +kernel
theorem dX2_stateInObstacle_29 : decode cX2_stateInObstacle 29 = .ok (.iload_n 3, 1) := by decide +kernel
theorem dX2_stateInObstacle_30 : decode cX2_stateInObstacle 30 = .ok (.ifCond .ne 13, 3) := by decide +kernel
theorem dX2_stateInObstacle_33 : decode cX2_stateInObstacle 33 = .ok (.iload_n 1, 1) := by decide +kernel
theorem dX2_stateInObstacle_34 : decode cX2_stateInObstacle 34 = .ok (.bipush 45, 2) := by decide +kernel
theorem dX2_stateInObstacle_36 : decode cX2_stateInObstacle 36 = .ok (.if_icmp .ne 7, 3) := by decide +kernel
theorem dX2_stateInObstacle_39 : decode cX2_stateInObstacle 39 = .ok (.iload_n 2, 1) := by decide +kernel
theorem dX2_stateInObstacle_40 : decode cX2_stateInObstacle 40 = .ok (.iconst 1, 1) := by decide +kernel
theorem dX2_stateInObstacle_41 : decode cX2_stateInObstacle 41 = .ok (.iadd, 1) := by decide +kernel
theorem dX2_stateInObstacle_42 : decode cX2_stateInObstacle 42 = .ok (.ireturn, 1) := by decide +kernel
theorem dX2_stateInObstacle_43 : decode cX2_stateInObstacle 43 = .ok (.iload_n 3, 1) := by decide +kernel
theorem dX2_stateInObstacle_44 : decode cX2_stateInObstacle 44 = .ok (.iconst 1, 1) := by decide +kernel
theorem dX2_stateInObstacle_45 : decode cX2_stateInObstacle 45 = .ok (.if_icmp .gt 34, 3) := by decide +kernel
theorem dX2_stateInObstacle_48 : decode cX2_stateInObstacle 48 = .ok (.iload_n 1, 1) := by decide +kernel
theorem dX2_stateInObstacle_49 : decode cX2_stateInObstacle 49 = .ok (.bipush 49, 2) := by decide +kernel
theorem dX2_stateInObstacle_51 : decode cX2_stateInObstacle 51 = .ok (.if_icmp .ne 9, 3) := by decide +kernel
theorem dX2_stateInObstacle_54 : decode cX2_stateInObstacle 54 = .ok (.iload_n 2, 1) := by decide +kernel
theorem dX2_stateInObstacle_55 : decode cX2_stateInObstacle 55 = .ok (.iconst 2, 1) := by decide +kernel
theorem dX2_stateInObstacle_56 : decode cX2_stateInObstacle 56 = .ok (.iadd, 1) := by decide +kernel
theorem dX2_stateInObstacle_57 : decode cX2_stateInObstacle 57 = .ok (.goto 21, 3) := by decide +kernel
theorem dX2_stateInObstacle_60 : decode cX2_stateInObstacle 60 = .ok (.iload_n 1, 1) := by decide +kernel
theorem dX2_stateInObstacle_61 : decode cX2_stateInObstacle 61 = .ok (.bipush 48, 2) := by decide +kernel
theorem dX2_stateInObstacle_63 : decode cX2_stateInObstacle 63 = .ok (.bipush 57, 2) := by decide +kernel
theorem dX2_stateInObstacle_65 : decode cX2_stateInObstacle 65 = .ok (.invokestatic 31, 3) := by decide +kernel
theorem dX2_stateInObstacle_68 : decode cX2_stateInObstacle 68 = .ok (.ifCond .eq 9, 3) := by decide +kernel
theorem dX2_stateInObstacle_71 : decode cX2_stateInObstacle 71 = .ok (.iload_n 2, 1) := by decide +kernel
theorem dX2_stateInObstacle_72 : decode cX2_stateInObstacle 72 = .ok (.iconst 3, 1) := by decide +kernel
theorem dX2_stateInObstacle_73 : decode cX2_stateInObstacle 73 = .ok (.iadd, 1) := by decide +kernel
theorem dX2_stateInObstacle_74 : decode cX2_stateInObstacle 74 = .ok (.goto 4, 3) := by decide +kernel
theorem dX2_stateInObstacle_77 : decode cX2_stateInObstacle 77 = .ok (.iconst (-1), 1) := by decide +kernel
theorem dX2_stateInObstacle_78 : decode cX2_stateInObstacle 78 = .ok (.ireturn, 1) := by decide +kernel
theorem dX2_stateInObstacle_79 : decode cX2_stateInObstacle 79 = .ok (.iload_n 3, 1) := by decide +kernel
theorem dX2_stateInObstacle_80 : decode cX2_stateInObstacle 80 = .ok (.iconst 2, 1) := by decide +kernel
theorem dX2_stateInObstacle_81 : decode cX2_stateInObstacle 81 = .ok (.if_icmp .ne 13, 3) := by decide +kernel
theorem dX2_stateInObstacle_84 : decode cX2_stateInObstacle 84 = .ok (.iload_n 1, 1) := by decide +kernel
theorem dX2_stateInObstacle_85 : decode cX2_stateInObstacle 85 = .ok (.bipush 48, 2) := by decide +kernel
theorem dX2_stateInObstacle_87 : decode cX2_stateInObstacle 87 = .ok (.if_icmp .ne 7, 3) := by decide +kernel
theorem dX2_stateInObstacle_90 : decode cX2_stateInObstacle 90 = .ok (.iload_n 2, 1) := by decide +kernel
theorem dX2_stateInObstacle_91 : decode cX2_stateInObstacle 91 = .ok (.iconst 3, 1) := by decide +kernel
theorem dX2_stateInObstacle_92 : decode cX2_stateInObstacle 92 = .ok (.iadd, 1) := by decide +kernel
theorem dX2_stateInObstacle_93 : decode cX2_stateInObstacle 93 = .ok (.ireturn, 1) := by decide +kernel
theorem dX2_stateInObstacle_94 : decode cX2_stateInObstacle 94 = .ok (.iload_n 2, 1) := by decide +kernel
theorem dX2_stateInObstacle_95 : decode cX2_stateInObstacle 95 = .ok (.bipush 9, 2) := by decide +kernel
theorem dX2_stateInObstacle_97 : decode cX2_stateInObstacle 97 = .ok (.if_icmp .ne 16, 3) := by decide +kernel
theorem dX2_stateInObstacle_100 : decode cX2_stateInObstacle 100 = .ok (.iload_n 1, 1) := by decide +kernel
theorem dX2_stateInObstacle_101 : decode cX2_stateInObstacle 101 = .ok (.bipush 44, 2) := by decide +kernel
theorem dX2_stateInObstacle_103 : decode cX2_stateInObstacle 103 = .ok (.if_icmp .ne 8, 3) := by decide +kernel
theorem dX2_stateInObstacle_106 : decode cX2_stateInObstacle 106 = .ok (.bipush 13, 2) := by decide +kernel
theorem dX2_stateInObstacle_108 : decode cX2_stateInObstacle 108 = .ok (.goto 4, 3) := by decide +kernel
theorem dX2_stateInObstacle_111 : decode cX2_stateInObstacle 111 = .ok (.iconst (-1), 1) := by decide +kernel
theorem dX2_stateInObstacle_112 : decode cX2_stateInObstacle 112 = .ok (.ireturn, 1) := by decide +kernel
theorem dX2_stateInObstacle_113 : decode cX2_stateInObstacle 113 = .ok (.iload_n 1, 1) := by decide +kernel
theorem dX2_stateInObstacle_114 : decode cX2_stateInObstacle 114 = .ok (.bipush 59, 2) := by decide +kernel
theorem dX2_stateInObstacle_116 : decode cX2_stateInObstacle 116 = .ok (.if_icmp .ne 7, 3) := by decide +kernel
theorem dX2_stateInObstacle_119 : decode cX2_stateInObstacle 119 = .ok (.iconst 0, 1) := by decide +kernel
theorem dX2_stateInObstacle_120 : decode cX2_stateInObstacle 120 = .ok (.goto 4, 3) := by decide +kernel
theorem dX2_stateInObstacle_123 : decode cX2_stateInObstacle 123 = .ok (.iconst (-1), 1) := by decide +kernel
theorem dX2_stateInObstacle_124 : decode cX2_stateInObstacle 124 = .ok (.ireturn, 1) := by decide +kernel
theorem dX2_isDigit_0 : decode cX2_isDigit 0 = .ok (.iload_n 0, 1) := by decide +kernel
theorem dX2_isDigit_1 : decode cX2_isDigit 1 = .ok (.iload_n 1, 1) := by decide +kernel
theorem dX2_isDigit_2 : decode cX2_isDigit 2 = .ok (.if_icmp .lt 12, 3) := by decide +kernel
theorem dX2_isDigit_5 : decode cX2_isDigit 5 = .ok (.iload_n 0, 1) := by decide +kernel
theorem dX2_isDigit_6 : decode cX2_isDigit 6 = .ok (.iload_n 2, 1) := by decide +kernel
theorem dX2_isDigit_7 : decode cX2_isDigit 7 = .ok (.if_icmp .gt 7, 3) := by decide +kernel
theorem dX2_isDigit_10 : decode cX2_isDigit 10 = .ok (.iconst 1, 1) := by decide +kernel
theorem dX2_isDigit_11 : decode cX2_isDigit 11 = .ok (.goto 4, 3) := by decide +kernel
theorem dX2_isDigit_14 : decode cX2_isDigit 14 = .ok (.iconst 0, 1) := by decide +kernel
theorem dX2_isDigit_15 : decode cX2_isDigit 15 = .ok (.ireturn, 1) := by decide +kernel
theorem dX2_enter_0 : decode cX2_enter 0 = .ok (.iconst 0, 1) := by decide +kernel
theorem dX2_enter_1 : decode cX2_enter 1 = .ok (.istore_n 2, 1) := by decide +kernel
theorem dX2_enter_2 : decode cX2_enter 2 = .ok (.iconst 0, 1) := by decide +kernel
theorem dX2_enter_3 : decode cX2_enter 3 = .ok (.istore_n 3, 1) := by decide +kernel
theorem dX2_enter_4 : decode cX2_enter 4 = .ok (.iconst 0, 1) := by decide +kernel
theorem dX2_enter_5 : decode cX2_enter 5 = .ok (.istore 4, 2) := by decide +kernel
theorem dX2_enter_7 : decode cX2_enter 7 = .ok (.iload 4, 2) := by decide +kernel
theorem dX2_enter_9 : decode cX2_enter 9 = .ok (.aload_n 0, 1) := by decide +kernel
theorem dX2_enter_10 : decode cX2_enter 10 = .ok (.getfield 9, 3) := by decide +kernel
theorem dX2_enter_13 : decode cX2_enter 13 = .ok (.if_icmp .ge 98, 3) := by decide +kernel
theorem dX2_enter_16 : decode cX2_enter 16 = .ok (.aload_n 0, 1) := by decide +kernel
theorem dX2_enter_17 : decode cX2_enter 17 = .ok (.iload 4, 2) := by decide +kernel
theorem dX2_enter_19 : decode cX2_enter 19 = .ok (.invokevirtual 23, 3) := by decide +kernel
theorem dX2_enter_22 : decode cX2_enter 22 = .ok (.bipush 59, 2) := by decide +kernel
theorem dX2_enter_24 : decode cX2_enter 24 = .ok (.if_icmp .ne 81, 3) := by decide +kernel
theorem dX2_enter_27 : decode cX2_enter 27 = .ok (.aload_n 0, 1) := by decide +kernel
theorem dX2_enter_28 : decode cX2_enter 28 = .ok (.iload_n 3, 1) := by decide +kernel
theorem dX2_enter_29 : decode cX2_enter 29 = .ok (.iconst 1, 1) := by decide +kernel
theorem dX2_enter_30 : decode cX2_enter 30 = .ok (.iadd, 1) := by decide +kernel
theorem dX2_enter_31 : decode cX2_enter 31 = .ok (.iload 4, 2) := by decide +kernel
theorem dX2_enter_33 : decode cX2_enter 33 = .ok (.invokevirtual 38, 3) := by decide +kernel
theorem dX2_enter_36 : decode cX2_enter 36 = .ok (.aload_n 0, 1) := by decide +kernel
theorem dX2_enter_37 : decode cX2_enter 37 = .ok (.iload_n 3, 1) := by decide +kernel
theorem dX2_enter_38 : decode cX2_enter 38 = .ok (.invokevirtual 23, 3) := by decide +kernel
theorem dX2_enter_41 : decode cX2_enter 41 = .ok (.bipush 76, 2) := by decide +kernel
theorem dX2_enter_43 : decode cX2_enter 43 = .ok (.if_icmp .ne 29, 3) := by decide +kernel
theorem dX2_enter_46 : decode cX2_enter 46 = .ok (.aload_n 1, 1) := by decide +kernel
theorem dX2_enter_47 : decode cX2_enter 47 = .ok (.aload_n 0, 1) := by decide +kernel
theorem dX2_enter_48 : decode cX2_enter 48 = .ok (.getfield 19, 3) := by decide +kernel
theorem dX2_enter_51 : decode cX2_enter 51 = .ok (.iconst 0, 1) := by decide +kernel
theorem dX2_enter_52 : decode cX2_enter 52 = .ok (.iaload, 1) := by decide +kernel
theorem dX2_enter_53 : decode cX2_enter 53 = .ok (.aload_n 0, 1) := by decide +kernel
theorem dX2_enter_54 : decode cX2_enter 54 = .ok (.getfield 19, 3) := by decide +kernel
theorem dX2_enter_57 : decode cX2_enter 57 = .ok (.iconst 1, 1) := by decide +kernel
theorem dX2_enter_58 : decode cX2_enter 58 = .ok (.iaload, 1) := by decide +kernel
theorem dX2_enter_59 : decode cX2_enter 59 = .ok (.ineg, 1) := by decide +kernel
theorem dX2_enter_60 : decode cX2_enter 60 = .ok (.aload_n 0, 1) := by decide +kernel
theorem dX2_enter_61 : decode cX2_enter 61 = .ok (.getfield 19, 3) := by decide +kernel
theorem dX2_enter_64 : decode cX2_enter 64 = .ok (.iconst 2, 1) := by decide +kernel
theorem dX2_enter_65 : decode cX2_enter 65 = .ok (.iaload, 1) := by decide +kernel
theorem dX2_enter_66 : decode cX2_enter 66 = .ok (.invokevirtual 42, 3) := by decide +kernel
theorem dX2_enter_69 : decode cX2_enter 69 = .ok (.goto 19, 3) := by decide +kernel
theorem dX2_enter_72 : decode cX2_enter 72 = .ok (.aload_n 1, 1) := by decide +kernel
theorem dX2_enter_73 : decode cX2_enter 73 = .ok (.aload_n 0, 1) := by decide +kernel
theorem dX2_enter_74 : decode cX2_enter 74 = .ok (.getfield 19, 3) := by decide +kernel
theorem dX2_enter_77 : decode cX2_enter 77 = .ok (.iconst 0, 1) := by decide +kernel
theorem dX2_enter_78 : decode cX2_enter 78 = .ok (.iaload, 1) := by decide +kernel
theorem dX2_enter_79 : decode cX2_enter 79 = .ok (.aload_n 0, 1) := by decide +kernel
theorem dX2_enter_80 : decode cX2_enter 80 = .ok (.getfield 19, 3) := by decide +kernel
theorem dX2_enter_83 : decode cX2_enter 83 = .ok (.iconst 1, 1) := by decide +kernel
theorem dX2_enter_84 : decode cX2_enter 84 = .ok (.iaload, 1) := by decide +kernel
theorem dX2_enter_85 : decode cX2_enter 85 = .ok (.invokevirtual 48, 3) := by decide +kernel
theorem dX2_enter_88 : decode cX2_enter 88 = .ok (.istore 5, 2) := by decide +kernel
theorem dX2_enter_90 : decode cX2_enter 90 = .ok (.iload 5, 2) := by decide +kernel
theorem dX2_enter_92 : decode cX2_enter 92 = .ok (.ifCond .ne 5, 3) := by decide +kernel
theorem dX2_enter_95 : decode cX2_enter 95 = .ok (.iconst (-1), 1) := by decide +kernel
theorem dX2_enter_96 : decode cX2_enter 96 = .ok (.ireturn, 1) := by decide +kernel
theorem dX2_enter_97 : decode cX2_enter 97 = .ok (.iinc 2 1, 3) := by decide +kernel
theorem dX2_enter_100 : decode cX2_enter 100 = .ok (.iload 4, 2) := by decide +kernel
theorem dX2_enter_102 : decode cX2_enter 102 = .ok (.iconst 1, 1) := by decide +kernel
theorem dX2_enter_103 : decode cX2_enter 103 = .ok (.iadd, 1) := by decide +kernel
theorem dX2_enter_104 : decode cX2_enter 104 = .ok (.istore_n 3, 1) := by decide +kernel
theorem dX2_enter_105 : decode cX2_enter 105 = .ok (.iinc 4 1, 3) := by decide +kernel
theorem dX2_enter_108 : decode cX2_enter 108 = .ok (.goto (-101), 3) := by decide +kernel
theorem dX2_enter_111 : decode cX2_enter 111 = .ok (.iload_n 2, 1) := by decide +kernel
theorem dX2_enter_112 : decode cX2_enter 112 = .ok (.ireturn, 1) := by decide +kernel
theorem dX2_readNumbers_0 : decode cX2_readNumbers 0 = .ok (.aload_n 0, 1) := by decide +kernel
theorem dX2_readNumbers_1 : decode cX2_readNumbers 1 = .ok (.getfield 19, 3) := by decide +kernel
theorem dX2_readNumbers_4 : decode cX2_readNumbers 4 = .ok (.iconst 0, 1) := by decide +kernel
theorem dX2_readNumbers_5 : decode cX2_readNumbers 5 = .ok (.invokestatic 52, 3) := by decide +kernel
theorem dX2_readNumbers_8 : decode cX2_readNumbers 8 = .ok (.iconst 0, 1) := by decide +kernel
theorem dX2_readNumbers_9 : decode cX2_readNumbers 9 = .ok (.istore_n 3, 1) := by decide +kernel
theorem dX2_readNumbers_10 : decode cX2_readNumbers 10 = .ok (.iconst 1, 1) := by decide +kernel
theorem dX2_readNumbers_11 : decode cX2_readNumbers 11 = .ok (.istore 4, 2) := by decide +kernel
theorem dX2_readNumbers_13 : decode cX2_readNumbers 13 = .ok (.iload_n 1, 1) := by decide +kernel
theorem dX2_readNumbers_14 : decode cX2_readNumbers 14 = .ok (.istore 5, 2) := by decide +kernel
theorem dX2_readNumbers_16 : decode cX2_readNumbers 16 = .ok (.iload 5, 2) := by decide +kernel
theorem dX2_readNumbers_18 : decode cX2_readNumbers 18 = .ok (.iload_n 2, 1) := by decide +kernel
theorem dX2_readNumbers_19 : decode cX2_readNumbers 19 = .ok (.if_icmp .ge 102, 3) := by decide +kernel
theorem dX2_readNumbers_22 : decode cX2_readNumbers 22 = .ok (.aload_n 0, 1) := by decide +kernel
theorem dX2_readNumbers_23 : decode cX2_readNumbers 23 = .ok (.iload 5, 2) := by decide +kernel
theorem dX2_readNumbers_25 : decode cX2_readNumbers 25 = .ok (.invokevirtual 23, 3) := by decide +kernel
theorem dX2_readNumbers_28 : decode cX2_readNumbers 28 = .ok (.istore 6, 2) := by decide +kernel
theorem dX2_readNumbers_30 : decode cX2_readNumbers 30 = .ok (.iload 6, 2) := by decide +kernel
theorem dX2_readNumbers_32 : decode cX2_readNumbers 32 = .ok (.bipush 45, 2) := by decide +kernel
theorem dX2_readNumbers_34 : decode cX2_readNumbers 34 = .ok (.if_icmp .ne 9, 3) := by decide +kernel
theorem dX2_readNumbers_37 : decode cX2_readNumbers 37 = .ok (.iconst (-1), 1) := by decide +kernel
theorem dX2_readNumbers_38 : decode cX2_readNumbers 38 = .ok (.istore 4, 2) := by decide +kernel
theorem dX2_readNumbers_40 : decode cX2_readNumbers 40 = .ok (.goto 75, 3) := by decide +kernel
theorem dX2_readNumbers_43 : decode cX2_readNumbers 43 = .ok (.iload 6, 2) := by decide +kernel
theorem dX2_readNumbers_45 : decode cX2_readNumbers 45 = .ok (.bipush 48, 2) := by decide +kernel
theorem dX2_readNumbers_47 : decode cX2_readNumbers 47 = .ok (.bipush 57, 2) := by decide +kernel
theorem dX2_readNumbers_49 : decode cX2_readNumbers 49 = .ok (.invokestatic 31, 3) := by decide +kernel
theorem dX2_readNumbers_52 : decode cX2_readNumbers 52 = .ok (.ifCond .eq 39, 3) := by decide +kernel
theorem dX2_readNumbers_55 : decode cX2_readNumbers 55 = .ok (.iload_n 3, 1) := by decide +kernel
theorem dX2_readNumbers_56 : decode cX2_readNumbers 56 = .ok (.aload_n 0, 1) := by decide +kernel
theorem dX2_readNumbers_57 : decode cX2_readNumbers 57 = .ok (.getfield 19, 3) := by decide +kernel
theorem dX2_readNumbers_60 : decode cX2_readNumbers 60 = .ok (.arraylength, 1) := by decide +kernel
theorem dX2_readNumbers_61 : decode cX2_readNumbers 61 = .ok (.if_icmp .ge 54, 3) := by decide +kernel
theorem dX2_readNumbers_64 : decode cX2_readNumbers 64 = .ok (.aload_n 0, 1) := by decide +kernel
theorem dX2_readNumbers_65 : decode cX2_readNumbers 65 = .ok (.getfield 19, 3) := by decide +kernel
theorem dX2_readNumbers_68 : decode cX2_readNumbers 68 = .ok (.iload_n 3, 1) := by decide +kernel
theorem dX2_readNumbers_69 : decode cX2_readNumbers 69 = .ok (.aload_n 0, 1) := by decide +kernel
theorem dX2_readNumbers_70 : decode cX2_readNumbers 70 = .ok (.getfield 19, 3) := by decide +kernel
theorem dX2_readNumbers_73 : decode cX2_readNumbers 73 = .ok (.iload_n 3, 1) := by decide +kernel
theorem dX2_readNumbers_74 : decode cX2_readNumbers 74 = .ok (.iaload, 1) := by decide +kernel
theorem dX2_readNumbers_75 : decode cX2_readNumbers 75 = .ok (.bipush 10, 2) := by decide +kernel
theorem dX2_readNumbers_77 : decode cX2_readNumbers 77 = .ok (.imul, 1) := by decide +kernel
theorem dX2_readNumbers_78 : decode cX2_readNumbers 78 = .ok (.iload 4, 2) := by decide +kernel
theorem dX2_readNumbers_80 : decode cX2_readNumbers 80 = .ok (.iload 6, 2) := by decide +kernel
theorem dX2_readNumbers_82 : decode cX2_readNumbers 82 = .ok (.bipush 48, 2) := by decide +kernel
theorem dX2_readNumbers_84 : decode cX2_readNumbers 84 = .ok (.isub, 1) := by decide +kernel
theorem dX2_readNumbers_85 : decode cX2_readNumbers 85 = .ok (.imul, 1) := by decide +kernel
theorem dX2_readNumbers_86 : decode cX2_readNumbers 86 = .ok (.iadd, 1) := by decide +kernel
theorem dX2_readNumbers_87 : decode cX2_readNumbers 87 = .ok (.iastore, 1) := by decide +kernel
theorem dX2_readNumbers_88 : decode cX2_readNumbers 88 = .ok (.goto 27, 3) := by decide +kernel
theorem dX2_readNumbers_91 : decode cX2_readNumbers 91 = .ok (.aload_n 0, 1) := by decide +kernel
theorem dX2_readNumbers_92 : decode cX2_readNumbers 92 = .ok (.iload 5, 2) := by decide +kernel
theorem dX2_readNumbers_94 : decode cX2_readNumbers 94 = .ok (.iconst 1, 1) := by decide +kernel
theorem dX2_readNumbers_95 : decode cX2_readNumbers 95 = .ok (.isub, 1) := by decide +kernel
theorem dX2_readNumbers_96 : decode cX2_readNumbers 96 = .ok (.invokevirtual 23, 3) := by decide +kernel
theorem dX2_readNumbers_99 : decode cX2_readNumbers 99 = .ok (.bipush 48, 2) := by decide +kernel
theorem dX2_readNumbers_101 : decode cX2_readNumbers 101 = .ok (.bipush 57, 2) := by decide +kernel
theorem dX2_readNumbers_103 : decode cX2_readNumbers 103 = .ok (.invokestatic 31, 3) := by decide +kernel
theorem dX2_readNumbers_106 : decode cX2_readNumbers 106 = .ok (.ifCond .eq 9, 3) := by decide +kernel
theorem dX2_readNumbers_109 : decode cX2_readNumbers 109 = .ok (.iinc 3 1, 3) := by decide +kernel
theorem dX2_readNumbers_112 : decode cX2_readNumbers 112 = .ok (.iconst 1, 1) := by decide +kernel
theorem dX2_readNumbers_113 : decode cX2_readNumbers 113 = .ok (.istore 4, 2) := by decide +kernel
theorem dX2_readNumbers_115 : decode cX2_readNumbers 115 = .ok (.iinc 5 1, 3) := by decide +kernel
theorem dX2_readNumbers_118 : decode cX2_readNumbers 118 = .ok (.goto (-102), 3) := by decide +kernel
theorem dX2_readNumbers_121 : decode cX2_readNumbers 121 = .ok (.return_, 1) := by decide +kernel
theorem dX3_init_0 : decode cX3_init 0 = .ok (.aload_n 0, 1) := by decide +kernel
theorem dX3_init_1 : decode cX3_init 1 = .ok (.invokespecial 3, 3) := by decide +kernel
theorem dX3_init_4 : decode cX3_init 4 = .ok (.aload_n 0, 1) := by decide +kernel
theorem dX3_init_5 : decode cX3_init 5 = .ok (.iconst 0, 1) := by decide +kernel
theorem dX3_init_6 : decode cX3_init 6 = .ok (.putfield 9, 3) := by decide +kernel
theorem dX3_init_9 : decode cX3_init 9 = .ok (.aload_n 0, 1) := by decide +kernel
theorem dX3_init_10 : decode cX3_init 10 = .ok (.iconst 0, 1) := by decide +kernel
theorem dX3_init_11 : decode cX3_init 11 = .ok (.putfield 15, 3) := by decide +kernel
theorem dX3_init_14 : decode cX3_init 14 = .ok (.aload_n 0, 1) := by decide +kernel
theorem dX3_init_15 : decode cX3_init 15 = .ok (.iconst 0, 1) := by decide +kernel
theorem dX3_init_16 : decode cX3_init 16 = .ok (.putfield 19, 3) := by decide +kernel
theorem dX3_init_19 : decode cX3_init 19 = .ok (.aload_n 0, 1) := by decide +kernel
theorem dX3_init_20 : decode cX3_init 20 = .ok (.iconst 0, 1) := by decide +kernel
theorem dX3_init_21 : decode cX3_init 21 = .ok (.putfield 22, 3) := by decide +kernel
theorem dX3_init_24 : decode cX3_init 24 = .ok (.aload_n 0, 1) := by decide +kernel
theorem dX3_init_25 : decode cX3_init 25 = .ok (.sipush 5000, 3) := by decide +kernel
theorem dX3_init_28 : decode cX3_init 28 = .ok (.newarray .int, 2) := by decide +kernel
theorem dX3_init_30 : decode cX3_init 30 = .ok (.putfield 25, 3) := by decide +kernel
theorem dX3_init_33 : decode cX3_init 33 = .ok (.return_, 1) := by decide +kernel
theorem dX3_begin_0 : decode cX3_begin 0 = .ok (.aload_n 0, 1) := by decide +kernel
theorem dX3_begin_1 : decode cX3_begin 1 = .ok (.iconst 1, 1) := by decide +kernel
theorem dX3_begin_2 : decode cX3_begin 2 = .ok (.putfield 9, 3) := by decide +kernel
theorem dX3_begin_5 : decode cX3_begin 5 = .ok (.aload_n 0, 1) := by decide +kernel
theorem dX3_begin_6 : decode cX3_begin 6 = .ok (.iload_n 1, 1) := by decide +kernel
theorem dX3_begin_7 : decode cX3_begin 7 = .ok (.putfield 15, 3) := by decide +kernel
theorem dX3_begin_10 : decode cX3_begin 10 = .ok (.aload_n 0, 1) := by decide +kernel
theorem dX3_begin_11 : decode cX3_begin 11 = .ok (.iconst 0, 1) := by decide +kernel
theorem dX3_begin_12 : decode cX3_begin 12 = .ok (.putfield 19, 3) := by decide +kernel
theorem dX3_begin_15 : decode cX3_begin 15 = .ok (.aload_n 0, 1) := by decide +kernel
theorem dX3_begin_16 : decode cX3_begin 16 = .ok (.iconst 0, 1) := by decide +kernel
theorem dX3_begin_17 : decode cX3_begin 17 = .ok (.putfield 22, 3) := by decide +kernel
theorem dX3_begin_20 : decode cX3_begin 20 = .ok (.return_, 1) := by decide +kernel
theorem dX3_add_0 : decode cX3_add 0 = .ok (.aload_n 0, 1) := by decide +kernel
theorem dX3_add_1 : decode cX3_add 1 = .ok (.getfield 19, 3) := by decide +kernel
theorem dX3_add_4 : decode cX3_add 4 = .ok (.ifCond .lt 33, 3) := by decide +kernel
theorem dX3_add_7 : decode cX3_add 7 = .ok (.aload_n 0, 1) := by decide +kernel
theorem dX3_add_8 : decode cX3_add 8 = .ok (.getfield 19, 3) := by decide +kernel
theorem dX3_add_11 : decode cX3_add 11 = .ok (.sipush 5000, 3) := by decide +kernel
theorem dX3_add_14 : decode cX3_add 14 = .ok (.if_icmp .ge 23, 3) := by decide +kernel
theorem dX3_add_17 : decode cX3_add 17 = .ok (.aload_n 0, 1) := by decide +kernel
theorem dX3_add_18 : decode cX3_add 18 = .ok (.getfield 25, 3) := by decide +kernel
theorem dX3_add_21 : decode cX3_add 21 = .ok (.aload_n 0, 1) := by decide +kernel
theorem dX3_add_22 : decode cX3_add 22 = .ok (.getfield 19, 3) := by decide +kernel
theorem dX3_add_25 : decode cX3_add 25 = .ok (.iload_n 1, 1) := by decide +kernel
theorem dX3_add_26 : decode cX3_add 26 = .ok (.iastore, 1) := by decide +kernel
theorem dX3_add_27 : decode cX3_add 27 = .ok (.aload_n 0, 1) := by decide +kernel
theorem dX3_add_28 : decode cX3_add 28 = .ok (.dup, 1) := by decide +kernel
theorem dX3_add_29 : decode cX3_add 29 = .ok (.getfield 19, 3) := by decide +kernel
theorem dX3_add_32 : decode cX3_add 32 = .ok (.iconst 1, 1) := by decide +kernel
theorem dX3_add_33 : decode cX3_add 33 = .ok (.iadd, 1) := by decide +kernel
theorem dX3_add_34 : decode cX3_add 34 = .ok (.putfield 19, 3) := by decide +kernel
theorem dX3_add_37 : decode cX3_add 37 = .ok (.return_, 1) := by decide +kernel
theorem dX3_stepAt_0 : decode cX3_stepAt 0 = .ok (.iload_n 1, 1) := by decide +kernel
theorem dX3_stepAt_1 : decode cX3_stepAt 1 = .ok (.ifCond .lt 27, 3) := by decide +kernel
theorem dX3_stepAt_4 : decode cX3_stepAt 4 = .ok (.iload_n 1, 1) := by decide +kernel
theorem dX3_stepAt_5 : decode cX3_stepAt 5 = .ok (.aload_n 0, 1) := by decide +kernel
theorem dX3_stepAt_6 : decode cX3_stepAt 6 = .ok (.getfield 19, 3) := by decide +kernel
theorem dX3_stepAt_9 : decode cX3_stepAt 9 = .ok (.if_icmp .ge 19, 3) := by decide +kernel
theorem dX3_stepAt_12 : decode cX3_stepAt 12 = .ok (.iload_n 1, 1) := by decide +kernel
theorem dX3_stepAt_13 : decode cX3_stepAt 13 = .ok (.sipush 5000, 3) := by decide +kernel
theorem dX3_stepAt_16 : decode cX3_stepAt 16 = .ok (.if_icmp .ge 12, 3) := by decide +kernel
theorem dX3_stepAt_19 : decode cX3_stepAt 19 = .ok (.aload_n 0, 1) := by decide +kernel
theorem dX3_stepAt_20 : decode cX3_stepAt 20 = .ok (.getfield 25, 3) := by decide +kernel
theorem dX3_stepAt_23 : decode cX3_stepAt 23 = .ok (.iload_n 1, 1) := by decide +kernel
theorem dX3_stepAt_24 : decode cX3_stepAt 24 = .ok (.iaload, 1) := by decide +kernel
theorem dX3_stepAt_25 : decode cX3_stepAt 25 = .ok (.goto 4, 3) := by decide +kernel
theorem dX3_stepAt_28 : decode cX3_stepAt 28 = .ok (.iconst (-1), 1) := by decide +kernel
theorem dX3_stepAt_29 : decode cX3_stepAt 29 = .ok (.ireturn, 1) := by decide +kernel
theorem dX3_changes_0 : decode cX3_changes 0 = .ok (.iconst 0, 1) := by decide +kernel
theorem dX3_changes_1 : decode cX3_changes 1 = .ok (.istore_n 1, 1) := by decide +kernel
theorem dX3_changes_2 : decode cX3_changes 2 = .ok (.iconst 1, 1) := by decide +kernel
theorem dX3_changes_3 : decode cX3_changes 3 = .ok (.istore_n 2, 1) := by decide +kernel
theorem dX3_changes_4 : decode cX3_changes 4 = .ok (.iload_n 2, 1) := by decide +kernel
theorem dX3_changes_5 : decode cX3_changes 5 = .ok (.aload_n 0, 1) := by decide +kernel
theorem dX3_changes_6 : decode cX3_changes 6 = .ok (.getfield 19, 3) := by decide +kernel
theorem dX3_changes_9 : decode cX3_changes 9 = .ok (.if_icmp .ge 27, 3) := by decide +kernel
theorem dX3_changes_12 : decode cX3_changes 12 = .ok (.aload_n 0, 1) := by decide +kernel
theorem dX3_changes_13 : decode cX3_changes 13 = .ok (.iload_n 2, 1) := by decide +kernel
theorem dX3_changes_14 : decode cX3_changes 14 = .ok (.invokevirtual 29, 3) := by decide +kernel
theorem dX3_changes_17 : decode cX3_changes 17 = .ok (.aload_n 0, 1) := by decide +kernel
theorem dX3_changes_18 : decode cX3_changes 18 = .ok (.iload_n 2, 1) := by decide +kernel
theorem dX3_changes_19 : decode cX3_changes 19 = .ok (.iconst 1, 1) := by decide +kernel
theorem dX3_changes_20 : decode cX3_changes 20 = .ok (.isub, 1) := by decide +kernel
theorem dX3_changes_21 : decode cX3_changes 21 = .ok (.invokevirtual 29, 3) := by decide +kernel
theorem dX3_changes_24 : decode cX3_changes 24 = .ok (.if_icmp .eq 6, 3) := by decide +kernel
theorem dX3_changes_27 : decode cX3_changes 27 = .ok (.iinc 1 1, 3) := by decide +kernel
theorem dX3_changes_30 : decode cX3_changes 30 = .ok (.iinc 2 1, 3) := by decide +kernel
theorem dX3_changes_33 : decode cX3_changes 33 = .ok (.goto (-29), 3) := by decide +kernel
theorem dX3_changes_36 : decode cX3_changes 36 = .ok (.iload_n 1, 1) := by decide +kernel
theorem dX3_changes_37 : decode cX3_changes 37 = .ok (.ireturn, 1) := by decide +kernel
theorem dX4_init_0 : decode cX4_init 0 = .ok (.aload_n 0, 1) := by decide +kernel
theorem dX4_init_1 : decode cX4_init 1 = .ok (.invokespecial 3, 3) := by decide +kernel
theorem dX4_init_4 : decode cX4_init 4 = .ok (.aload_n 0, 1) := by decide +kernel
theorem dX4_init_5 : decode cX4_init 5 = .ok (.iconst 0, 1) := by decide +kernel
theorem dX4_init_6 : decode cX4_init 6 = .ok (.putfield 9, 3) := by decide +kernel
theorem dX4_init_9 : decode cX4_init 9 = .ok (.aload_n 0, 1) := by decide +kernel
theorem dX4_init_10 : decode cX4_init 10 = .ok (.iconst 4, 1) := by decide +kernel
theorem dX4_init_11 : decode cX4_init 11 = .ok (.newarray .int, 2) := by decide +kernel
theorem dX4_init_13 : decode cX4_init 13 = .ok (.putfield 15, 3) := by decide +kernel
theorem dX4_init_16 : decode cX4_init 16 = .ok (.aload_n 0, 1) := by decide +kernel
theorem dX4_init_17 : decode cX4_init 17 = .ok (.iconst 4, 1) := by decide +kernel
theorem dX4_init_18 : decode cX4_init 18 = .ok (.newarray .int, 2) := by decide +kernel
theorem dX4_init_20 : decode cX4_init 20 = .ok (.putfield 19, 3) := by decide +kernel
theorem dX4_init_23 : decode cX4_init 23 = .ok (.aload_n 0, 1) := by decide +kernel
theorem dX4_init_24 : decode cX4_init 24 = .ok (.iconst 4, 1) := by decide +kernel
theorem dX4_init_25 : decode cX4_init 25 = .ok (.newarray .int, 2) := by decide +kernel
theorem dX4_init_27 : decode cX4_init 27 = .ok (.putfield 22, 3) := by decide +kernel
theorem dX4_init_30 : decode cX4_init 30 = .ok (.aload_n 0, 1) := by decide +kernel
theorem dX4_init_31 : decode cX4_init 31 = .ok (.iconst 4, 1) := by decide +kernel
theorem dX4_init_32 : decode cX4_init 32 = .ok (.newarray .int, 2) := by decide +kernel
theorem dX4_init_34 : decode cX4_init 34 = .ok (.putfield 25, 3) := by decide +kernel
theorem dX4_init_37 : decode cX4_init 37 = .ok (.aload_n 0, 1) := by decide +kernel
theorem dX4_init_38 : decode cX4_init 38 = .ok (.iconst 0, 1) := by decide +kernel
theorem dX4_init_39 : decode cX4_init 39 = .ok (.putfield 28, 3) := by decide +kernel
theorem dX4_init_42 : decode cX4_init 42 = .ok (.aload_n 0, 1) := by decide +kernel
theorem dX4_init_43 : decode cX4_init 43 = .ok (.bipush 60, 2) := by decide +kernel
theorem dX4_init_45 : decode cX4_init 45 = .ok (.newarray .int, 2) := by decide +kernel
theorem dX4_init_47 : decode cX4_init 47 = .ok (.putfield 31, 3) := by decide +kernel
theorem dX4_init_50 : decode cX4_init 50 = .ok (.aload_n 0, 1) := by decide +kernel
theorem dX4_init_51 : decode cX4_init 51 = .ok (.bipush 60, 2) := by decide +kernel
theorem dX4_init_53 : decode cX4_init 53 = .ok (.newarray .int, 2) := by decide +kernel
theorem dX4_init_55 : decode cX4_init 55 = .ok (.putfield 34, 3) := by decide +kernel
theorem dX4_init_58 : decode cX4_init 58 = .ok (.aload_n 0, 1) := by decide +kernel
theorem dX4_init_59 : decode cX4_init 59 = .ok (.bipush 21, 2) := by decide +kernel
theorem dX4_init_61 : decode cX4_init 61 = .ok (.newarray .int, 2) := by decide +kernel
theorem dX4_init_63 : decode cX4_init 63 = .ok (.putfield 37, 3) := by decide +kernel
theorem dX4_init_66 : decode cX4_init 66 = .ok (.return_, 1) := by decide +kernel
theorem dX4_copyFrom_0 : decode cX4_copyFrom 0 = .ok (.aload_n 1, 1) := by decide +kernel
theorem dX4_copyFrom_1 : decode cX4_copyFrom 1 = .ok (.ifnonnull 4, 3) := by decide +kernel
theorem dX4_copyFrom_4 : decode cX4_copyFrom 4 = .ok (.return_, 1) := by decide +kernel
theorem dX4_copyFrom_5 : decode cX4_copyFrom 5 = .ok (.aload_n 0, 1) := by decide +kernel
theorem dX4_copyFrom_6 : decode cX4_copyFrom 6 = .ok (.aload_n 1, 1) := by decide +kernel
theorem dX4_copyFrom_7 : decode cX4_copyFrom 7 = .ok (.getfield 9, 3) := by decide +kernel
theorem dX4_copyFrom_10 : decode cX4_copyFrom 10 = .ok (.putfield 9, 3) := by decide +kernel
theorem dX4_copyFrom_13 : decode cX4_copyFrom 13 = .ok (.aload_n 1, 1) := by decide +kernel
theorem dX4_copyFrom_14 : decode cX4_copyFrom 14 = .ok (.getfield 15, 3) := by decide +kernel
theorem dX4_copyFrom_17 : decode cX4_copyFrom 17 = .ok (.iconst 0, 1) := by decide +kernel
theorem dX4_copyFrom_18 : decode cX4_copyFrom 18 = .ok (.aload_n 0, 1) := by decide +kernel
theorem dX4_copyFrom_19 : decode cX4_copyFrom 19 = .ok (.getfield 15, 3) := by decide +kernel
theorem dX4_copyFrom_22 : decode cX4_copyFrom 22 = .ok (.iconst 0, 1) := by decide +kernel
theorem dX4_copyFrom_23 : decode cX4_copyFrom 23 = .ok (.iconst 4, 1) := by decide +kernel
theorem dX4_copyFrom_24 : decode cX4_copyFrom 24 = .ok (.invokestatic 40, 3) := by decide +kernel
theorem dX4_copyFrom_27 : decode cX4_copyFrom 27 = .ok (.aload_n 1, 1) := by decide +kernel
theorem dX4_copyFrom_28 : decode cX4_copyFrom 28 = .ok (.getfield 19, 3) := by decide +kernel
theorem dX4_copyFrom_31 : decode cX4_copyFrom 31 = .ok (.iconst 0, 1) := by decide +kernel
theorem dX4_copyFrom_32 : decode cX4_copyFrom 32 = .ok (.aload_n 0, 1) := by decide +kernel
theorem dX4_copyFrom_33 : decode cX4_copyFrom 33 = .ok (.getfield 19, 3) := by decide +kernel
theorem dX4_copyFrom_36 : decode cX4_copyFrom 36 = .ok (.iconst 0, 1) := by decide +kernel
theorem dX4_copyFrom_37 : decode cX4_copyFrom 37 = .ok (.iconst 4, 1) := by decide +kernel
theorem dX4_copyFrom_38 : decode cX4_copyFrom 38 = .ok (.invokestatic 40, 3) := by decide +kernel
theorem dX4_copyFrom_41 : decode cX4_copyFrom 41 = .ok (.aload_n 1, 1) := by decide +kernel
theorem dX4_copyFrom_42 : decode cX4_copyFrom 42 = .ok (.getfield 22, 3) := by decide +kernel
theorem dX4_copyFrom_45 : decode cX4_copyFrom 45 = .ok (.iconst 0, 1) := by decide +kernel
theorem dX4_copyFrom_46 : decode cX4_copyFrom 46 = .ok (.aload_n 0, 1) := by decide +kernel
theorem dX4_copyFrom_47 : decode cX4_copyFrom 47 = .ok (.getfield 22, 3) := by decide +kernel
theorem dX4_copyFrom_50 : decode cX4_copyFrom 50 = .ok (.iconst 0, 1) := by decide +kernel
theorem dX4_copyFrom_51 : decode cX4_copyFrom 51 = .ok (.iconst 4, 1) := by decide +kernel
theorem dX4_copyFrom_52 : decode cX4_copyFrom 52 = .ok (.invokestatic 40, 3) := by decide +kernel
theorem dX4_copyFrom_55 : decode cX4_copyFrom 55 = .ok (.aload_n 1, 1) := by decide +kernel
theorem dX4_copyFrom_56 : decode cX4_copyFrom 56 = .ok (.getfield 25, 3) := by decide +kernel
theorem dX4_copyFrom_59 : decode cX4_copyFrom 59 = .ok (.iconst 0, 1) := by decide +kernel
theorem dX4_copyFrom_60 : decode cX4_copyFrom 60 = .ok (.aload_n 0, 1) := by decide +kernel
theorem dX4_copyFrom_61 : decode cX4_copyFrom 61 = .ok (.getfield 25, 3) := by decide +kernel
theorem dX4_copyFrom_64 : decode cX4_copyFrom 64 = .ok (.iconst 0, 1) := by decide +kernel
theorem dX4_copyFrom_65 : decode cX4_copyFrom 65 = .ok (.iconst 4, 1) := by decide +kernel
theorem dX4_copyFrom_66 : decode cX4_copyFrom 66 = .ok (.invokestatic 40, 3) := by decide +kernel
theorem dX4_copyFrom_69 : decode cX4_copyFrom 69 = .ok (.aload_n 0, 1) := by decide +kernel
theorem dX4_copyFrom_70 : decode cX4_copyFrom 70 = .ok (.aload_n 1, 1) := by decide +kernel
theorem dX4_copyFrom_71 : decode cX4_copyFrom 71 = .ok (.getfield 28, 3) := by decide +kernel
theorem dX4_copyFrom_74 : decode cX4_copyFrom 74 = .ok (.putfield 28, 3) := by decide +kernel
theorem dX4_copyFrom_77 : decode cX4_copyFrom 77 = .ok (.aload_n 1, 1) := by decide +kernel
theorem dX4_copyFrom_78 : decode cX4_copyFrom 78 = .ok (.getfield 31, 3) := by decide +kernel
theorem dX4_copyFrom_81 : decode cX4_copyFrom 81 = .ok (.iconst 0, 1) := by decide +kernel
theorem dX4_copyFrom_82 : decode cX4_copyFrom 82 = .ok (.aload_n 0, 1) := by decide +kernel
theorem dX4_copyFrom_83 : decode cX4_copyFrom 83 = .ok (.getfield 31, 3) := by decide +kernel
theorem dX4_copyFrom_86 : decode cX4_copyFrom 86 = .ok (.iconst 0, 1) := by decide +kernel
theorem dX4_copyFrom_87 : decode cX4_copyFrom 87 = .ok (.bipush 60, 2) := by decide +kernel
theorem dX4_copyFrom_89 : decode cX4_copyFrom 89 = .ok (.invokestatic 40, 3) := by decide +kernel
theorem dX4_copyFrom_92 : decode cX4_copyFrom 92 = .ok (.aload_n 1, 1) := by decide +kernel
theorem dX4_copyFrom_93 : decode cX4_copyFrom 93 = .ok (.getfield 34, 3) := by decide +kernel
theorem dX4_copyFrom_96 : decode cX4_copyFrom 96 = .ok (.iconst 0, 1) := by decide +kernel
theorem dX4_copyFrom_97 : decode cX4_copyFrom 97 = .ok (.aload_n 0, 1) := by decide +kernel
theorem dX4_copyFrom_98 : decode cX4_copyFrom 98 = .ok (.getfield 34, 3) := by decide +kernel
theorem dX4_copyFrom_101 : decode cX4_copyFrom 101 = .ok (.iconst 0, 1) := by decide +kernel
theorem dX4_copyFrom_102 : decode cX4_copyFrom 102 = .ok (.bipush 60, 2) := by decide +kernel
theorem dX4_copyFrom_104 : decode cX4_copyFrom 104 = .ok (.invokestatic 40, 3) := by decide +kernel
theorem dX4_copyFrom_107 : decode cX4_copyFrom 107 = .ok (.aload_n 1, 1) := by decide +kernel
theorem dX4_copyFrom_108 : decode cX4_copyFrom 108 = .ok (.getfield 37, 3) := by decide +kernel
theorem dX4_copyFrom_111 : decode cX4_copyFrom 111 = .ok (.iconst 0, 1) := by decide +kernel
theorem dX4_copyFrom_112 : decode cX4_copyFrom 112 = .ok (.aload_n 0, 1) := by decide +kernel
theorem dX4_copyFrom_113 : decode cX4_copyFrom 113 = .ok (.getfield 37, 3) := by decide +kernel
theorem dX4_copyFrom_116 : decode cX4_copyFrom 116 = .ok (.iconst 0, 1) := by decide +kernel
theorem dX4_copyFrom_117 : decode cX4_copyFrom 117 = .ok (.bipush 21, 2) := by decide +kernel
theorem dX4_copyFrom_119 : decode cX4_copyFrom 119 = .ok (.invokestatic 40, 3) := by decide +kernel
theorem dX4_copyFrom_122 : decode cX4_copyFrom 122 = .ok (.return_, 1) := by decide +kernel
theorem dX4_empty_0 : decode cX4_empty 0 = .ok (.aload_n 0, 1) := by decide +kernel
theorem dX4_empty_1 : decode cX4_empty 1 = .ok (.iconst 0, 1) := by decide +kernel
theorem dX4_empty_2 : decode cX4_empty 2 = .ok (.putfield 9, 3) := by decide +kernel
theorem dX4_empty_5 : decode cX4_empty 5 = .ok (.aload_n 0, 1) := by decide +kernel
theorem dX4_empty_6 : decode cX4_empty 6 = .ok (.iconst 0, 1) := by decide +kernel
theorem dX4_empty_7 : decode cX4_empty 7 = .ok (.putfield 28, 3) := by decide +kernel
theorem dX4_empty_10 : decode cX4_empty 10 = .ok (.aload_n 0, 1) := by decide +kernel
theorem dX4_empty_11 : decode cX4_empty 11 = .ok (.getfield 37, 3) := by decide +kernel
theorem dX4_empty_14 : decode cX4_empty 14 = .ok (.iconst 0, 1) := by decide +kernel
theorem dX4_empty_15 : decode cX4_empty 15 = .ok (.invokestatic 46, 3) := by decide +kernel
theorem dX4_empty_18 : decode cX4_empty 18 = .ok (.return_, 1) := by decide +kernel
theorem dX4_hasLink_0 : decode cX4_hasLink 0 = .ok (.iload_n 1, 1) := by decide +kernel
theorem dX4_hasLink_1 : decode cX4_hasLink 1 = .ok (.ifCond .lt 20, 3) := by decide +kernel
theorem dX4_hasLink_4 : decode cX4_hasLink 4 = .ok (.iload_n 1, 1) := by decide +kernel
theorem dX4_hasLink_5 : decode cX4_hasLink 5 = .ok (.aload_n 0, 1) := by decide +kernel
theorem dX4_hasLink_6 : decode cX4_hasLink 6 = .ok (.getfield 9, 3) := by decide +kernel
theorem dX4_hasLink_9 : decode cX4_hasLink 9 = .ok (.if_icmp .ge 12, 3) := by decide +kernel
theorem dX4_hasLink_12 : decode cX4_hasLink 12 = .ok (.iload_n 1, 1) := by decide +kernel
theorem dX4_hasLink_13 : decode cX4_hasLink 13 = .ok (.iconst 4, 1) := by decide +kernel
theorem dX4_hasLink_14 : decode cX4_hasLink 14 = .ok (.if_icmp .ge 7, 3) := by decide +kernel
theorem dX4_hasLink_17 : decode cX4_hasLink 17 = .ok (.iconst 1, 1) := by decide +kernel
theorem dX4_hasLink_18 : decode cX4_hasLink 18 = .ok (.goto 4, 3) := by decide +kernel
theorem dX4_hasLink_21 : decode cX4_hasLink 21 = .ok (.iconst 0, 1) := by decide +kernel
theorem dX4_hasLink_22 : decode cX4_hasLink 22 = .ok (.ireturn, 1) := by decide +kernel
theorem dX4_attach_0 : decode cX4_attach 0 = .ok (.aload_n 0, 1) := by decide +kernel
theorem dX4_attach_1 : decode cX4_attach 1 = .ok (.getfield 9, 3) := by decide +kernel
theorem dX4_attach_4 : decode cX4_attach 4 = .ok (.ifCond .lt 11, 3) := by decide +kernel
theorem dX4_attach_7 : decode cX4_attach 7 = .ok (.aload_n 0, 1) := by decide +kernel
theorem dX4_attach_8 : decode cX4_attach 8 = .ok (.getfield 9, 3) := by decide +kernel
theorem dX4_attach_11 : decode cX4_attach 11 = .ok (.iconst 4, 1) := by decide +kernel
theorem dX4_attach_12 : decode cX4_attach 12 = .ok (.if_icmp .lt 5, 3) := by decide +kernel
theorem dX4_attach_15 : decode cX4_attach 15 = .ok (.iconst 0, 1) := by decide +kernel
theorem dX4_attach_16 : decode cX4_attach 16 = .ok (.ireturn, 1) := by decide +kernel
theorem dX4_attach_17 : decode cX4_attach 17 = .ok (.aload_n 0, 1) := by decide +kernel
theorem dX4_attach_18 : decode cX4_attach 18 = .ok (.getfield 15, 3) := by decide +kernel
theorem dX4_attach_21 : decode cX4_attach 21 = .ok (.aload_n 0, 1) := by decide +kernel
theorem dX4_attach_22 : decode cX4_attach 22 = .ok (.getfield 9, 3) := by decide +kernel
theorem dX4_attach_25 : decode cX4_attach 25 = .ok (.iload_n 1, 1) := by decide +kernel
theorem dX4_attach_26 : decode cX4_attach 26 = .ok (.iastore, 1) := by decide +kernel
theorem dX4_attach_27 : decode cX4_attach 27 = .ok (.aload_n 0, 1) := by decide +kernel
theorem dX4_attach_28 : decode cX4_attach 28 = .ok (.getfield 19, 3) := by decide +kernel
theorem dX4_attach_31 : decode cX4_attach 31 = .ok (.aload_n 0, 1) := by decide +kernel
theorem dX4_attach_32 : decode cX4_attach 32 = .ok (.getfield 9, 3) := by decide +kernel
theorem dX4_attach_35 : decode cX4_attach 35 = .ok (.iload_n 2, 1) := by decide +kernel
theorem dX4_attach_36 : decode cX4_attach 36 = .ok (.ineg, 1) := by decide +kernel
theorem dX4_attach_37 : decode cX4_attach 37 = .ok (.iastore, 1) := by decide +kernel
theorem dX4_attach_38 : decode cX4_attach 38 = .ok (.aload_n 0, 1) := by decide +kernel
theorem dX4_attach_39 : decode cX4_attach 39 = .ok (.getfield 22, 3) := by decide +kernel
theorem dX4_attach_42 : decode cX4_attach 42 = .ok (.aload_n 0, 1) := by decide +kernel
theorem dX4_attach_43 : decode cX4_attach 43 = .ok (.getfield 9, 3) := by decide +kernel
theorem dX4_attach_46 : decode cX4_attach 46 = .ok (.iload_n 3, 1) := by decide +kernel
theorem dX4_attach_47 : decode cX4_attach 47 = .ok (.iastore, 1) := by decide +kernel
theorem dX4_attach_48 : decode cX4_attach 48 = .ok (.aload_n 0, 1) := by decide +kernel
theorem dX4_attach_49 : decode cX4_attach 49 = .ok (.getfield 25, 3) := by decide +kernel
theorem dX4_attach_52 : decode cX4_attach 52 = .ok (.aload_n 0, 1) := by decide +kernel
theorem dX4_attach_53 : decode cX4_attach 53 = .ok (.getfield 9, 3) := by decide +kernel
theorem dX4_attach_56 : decode cX4_attach 56 = .ok (.iconst 0, 1) := by decide +kernel
theorem dX4_attach_57 : decode cX4_attach 57 = .ok (.iastore, 1) := by decide +kernel
theorem dX4_attach_58 : decode cX4_attach 58 = .ok (.aload_n 0, 1) := by decide +kernel
theorem dX4_attach_59 : decode cX4_attach 59 = .ok (.dup, 1) := by decide +kernel
theorem dX4_attach_60 : decode cX4_attach 60 = .ok (.getfield 9, 3) := by decide +kernel
theorem dX4_attach_63 : decode cX4_attach 63 = .ok (.iconst 1, 1) := by decide +kernel
theorem dX4_attach_64 : decode cX4_attach 64 = .ok (.iadd, 1) := by decide +kernel
theorem dX4_attach_65 : decode cX4_attach 65 = .ok (.putfield 9, 3) := by decide +kernel
theorem dX4_attach_68 : decode cX4_attach 68 = .ok (.iconst 1, 1) := by decide +kernel
theorem dX4_attach_69 : decode cX4_attach 69 = .ok (.ireturn, 1) := by decide +kernel
theorem dX4_detach_0 : decode cX4_detach 0 = .ok (.aload_n 0, 1) := by decide +kernel
theorem dX4_detach_1 : decode cX4_detach 1 = .ok (.getfield 9, 3) := by decide +kernel
theorem dX4_detach_4 : decode cX4_detach 4 = .ok (.ifCond .le 13, 3) := by decide +kernel
theorem dX4_detach_7 : decode cX4_detach 7 = .ok (.aload_n 0, 1) := by decide +kernel
theorem dX4_detach_8 : decode cX4_detach 8 = .ok (.dup, 1) := by decide +kernel
theorem dX4_detach_9 : decode cX4_detach 9 = .ok (.getfield 9, 3) := by decide +kernel
theorem dX4_detach_12 : decode cX4_detach 12 = .ok (.iconst 1, 1) := by decide +kernel
theorem dX4_detach_13 : decode cX4_detach 13 = .ok (.isub, 1) := by decide +kernel
theorem dX4_detach_14 : decode cX4_detach 14 = .ok (.putfield 9, 3) := by decide +kernel
theorem dX4_detach_17 : decode cX4_detach 17 = .ok (.return_, 1) := by decide +kernel
theorem dX4_limit_0 : decode cX4_limit 0 = .ok (.aload_n 0, 1) := by decide +kernel
theorem dX4_limit_1 : decode cX4_limit 1 = .ok (.iload_n 1, 1) := by decide +kernel
theorem dX4_limit_2 : decode cX4_limit 2 = .ok (.invokevirtual 52, 3) := by decide +kernel
theorem dX4_limit_5 : decode cX4_limit 5 = .ok (.ifCond .eq 8, 3) := by decide +kernel
theorem dX4_limit_8 : decode cX4_limit 8 = .ok (.iload_n 1, 1) := by decide +kernel
theorem dX4_limit_9 : decode cX4_limit 9 = .ok (.iconst 4, 1) := by decide +kernel
theorem dX4_limit_10 : decode cX4_limit 10 = .ok (.if_icmp .lt 4, 3) := by decide +kernel
theorem dX4_limit_13 : decode cX4_limit 13 = .ok (.return_, 1) := by decide +kernel
theorem dX4_limit_14 : decode cX4_limit 14 = .ok (.aload_n 0, 1) := by decide +kernel
theorem dX4_limit_15 : decode cX4_limit 15 = .ok (.getfield 19, 3) := by decide +kernel
theorem dX4_limit_18 : decode cX4_limit 18 = .ok (.iload_n 1, 1) := by decide +kernel
theorem dX4_limit_19 : decode cX4_limit 19 = .ok (.iload_n 2, 1) := by decide +kernel
theorem dX4_limit_20 : decode cX4_limit 20 = .ok (.ineg, 1) := by decide +kernel
theorem dX4_limit_21 : decode cX4_limit 21 = .ok (.iastore, 1) := by decide +kernel
theorem dX4_limit_22 : decode cX4_limit 22 = .ok (.aload_n 0, 1) := by decide +kernel
theorem dX4_limit_23 : decode cX4_limit 23 = .ok (.getfield 22, 3) := by decide +kernel
theorem dX4_limit_26 : decode cX4_limit 26 = .ok (.iload_n 1, 1) := by decide +kernel
theorem dX4_limit_27 : decode cX4_limit 27 = .ok (.iload_n 3, 1) := by decide +kernel
theorem dX4_limit_28 : decode cX4_limit 28 = .ok (.iastore, 1) := by decide +kernel
theorem dX4_limit_29 : decode cX4_limit 29 = .ok (.aload_n 0, 1) := by decide +kernel
theorem dX4_limit_30 : decode cX4_limit 30 = .ok (.getfield 25, 3) := by decide +kernel
theorem dX4_limit_33 : decode cX4_limit 33 = .ok (.iload_n 1, 1) := by decide +kernel
theorem dX4_limit_34 : decode cX4_limit 34 = .ok (.iload_n 2, 1) := by decide +kernel
theorem dX4_limit_35 : decode cX4_limit 35 = .ok (.ineg, 1) := by decide +kernel
theorem dX4_limit_36 : decode cX4_limit 36 = .ok (.iload_n 3, 1) := by decide +kernel
theorem dX4_limit_37 : decode cX4_limit 37 = .ok (.aload_n 0, 1) := by decide +kernel
theorem dX4_limit_38 : decode cX4_limit 38 = .ok (.getfield 25, 3) := by decide +kernel
theorem dX4_limit_41 : decode cX4_limit 41 = .ok (.iload_n 1, 1) := by decide +kernel
theorem dX4_limit_42 : decode cX4_limit 42 = .ok (.iaload, 1) := by decide +kernel
theorem dX4_limit_43 : decode cX4_limit 43 = .ok (.invokestatic 56, 3) := by decide +kernel
theorem dX4_limit_46 : decode cX4_limit 46 = .ok (.invokestatic 62, 3) := by decide +kernel
theorem dX4_limit_49 : decode cX4_limit 49 = .ok (.iastore, 1) := by decide +kernel
theorem dX4_limit_50 : decode cX4_limit 50 = .ok (.return_, 1) := by decide +kernel
theorem dX4_valueOf_0 : decode cX4_valueOf 0 = .ok (.iload_n 1, 1) := by decide +kernel
theorem dX4_valueOf_1 : decode cX4_valueOf 1 = .ok (.ifCond .lt 17, 3) := by decide +kernel
theorem dX4_valueOf_4 : decode cX4_valueOf 4 = .ok (.iload_n 1, 1) := by decide +kernel
theorem dX4_valueOf_5 : decode cX4_valueOf 5 = .ok (.iconst 4, 1) := by decide +kernel
theorem dX4_valueOf_6 : decode cX4_valueOf 6 = .ok (.if_icmp .ge 12, 3) := by decide +kernel
theorem dX4_valueOf_9 : decode cX4_valueOf 9 = .ok (.aload_n 0, 1) := by decide +kernel
theorem dX4_valueOf_10 : decode cX4_valueOf 10 = .ok (.getfield 25, 3) := by decide +kernel
theorem dX4_valueOf_13 : decode cX4_valueOf 13 = .ok (.iload_n 1, 1) := by decide +kernel
theorem dX4_valueOf_14 : decode cX4_valueOf 14 = .ok (.iaload, 1) := by decide +kernel
theorem dX4_valueOf_15 : decode cX4_valueOf 15 = .ok (.goto 4, 3) := by decide +kernel
theorem dX4_valueOf_18 : decode cX4_valueOf 18 = .ok (.iconst 0, 1) := by decide +kernel
theorem dX4_valueOf_19 : decode cX4_valueOf 19 = .ok (.ireturn, 1) := by decide +kernel
theorem dX4_allows_0 : decode cX4_allows 0 = .ok (.aload_n 0, 1) := by decide +kernel
theorem dX4_allows_1 : decode cX4_allows 1 = .ok (.iload_n 1, 1) := by decide +kernel
theorem dX4_allows_2 : decode cX4_allows 2 = .ok (.invokevirtual 52, 3) := by decide +kernel
theorem dX4_allows_5 : decode cX4_allows 5 = .ok (.ifCond .eq 27, 3) := by decide +kernel
theorem dX4_allows_8 : decode cX4_allows 8 = .ok (.iload_n 2, 1) := by decide +kernel
theorem dX4_allows_9 : decode cX4_allows 9 = .ok (.aload_n 0, 1) := by decide +kernel
theorem dX4_allows_10 : decode cX4_allows 10 = .ok (.getfield 19, 3) := by decide +kernel
theorem dX4_allows_13 : decode cX4_allows 13 = .ok (.iload_n 1, 1) := by decide +kernel
theorem dX4_allows_14 : decode cX4_allows 14 = .ok (.iaload, 1) := by decide +kernel
theorem dX4_allows_15 : decode cX4_allows 15 = .ok (.if_icmp .lt 17, 3) := by decide +kernel
theorem dX4_allows_18 : decode cX4_allows 18 = .ok (.iload_n 2, 1) := by decide +kernel
theorem dX4_allows_19 : decode cX4_allows 19 = .ok (.aload_n 0, 1) := by decide +kernel
theorem dX4_allows_20 : decode cX4_allows 20 = .ok (.getfield 22, 3) := by decide +kernel
theorem dX4_allows_23 : decode cX4_allows 23 = .ok (.iload_n 1, 1) := by decide +kernel
theorem dX4_allows_24 : decode cX4_allows 24 = .ok (.iaload, 1) := by decide +kernel
theorem dX4_allows_25 : decode cX4_allows 25 = .ok (.if_icmp .gt 7, 3) := by decide +kernel
theorem dX4_allows_28 : decode cX4_allows 28 = .ok (.iconst 1, 1) := by decide +kernel
theorem dX4_allows_29 : decode cX4_allows 29 = .ok (.goto 4, 3) := by decide +kernel
theorem dX4_allows_32 : decode cX4_allows 32 = .ok (.iconst 0, 1) := by decide +kernel
theorem dX4_allows_33 : decode cX4_allows 33 = .ok (.ireturn, 1) := by decide +kernel
theorem dX4_turnTo_0 : decode cX4_turnTo 0 = .ok (.aload_n 0, 1) := by decide +kernel
theorem dX4_turnTo_1 : decode cX4_turnTo 1 = .ok (.iload_n 1, 1) := by decide +kernel
theorem dX4_turnTo_2 : decode cX4_turnTo 2 = .ok (.invokevirtual 52, 3) := by decide +kernel
theorem dX4_turnTo_5 : decode cX4_turnTo 5 = .ok (.ifCond .eq 10, 3) := by decide +kernel
theorem dX4_turnTo_8 : decode cX4_turnTo 8 = .ok (.aload_n 0, 1) := by decide +kernel
theorem dX4_turnTo_9 : decode cX4_turnTo 9 = .ok (.getfield 25, 3) := by decide +kernel
theorem dX4_turnTo_12 : decode cX4_turnTo 12 = .ok (.iload_n 1, 1) := by decide +kernel
theorem dX4_turnTo_13 : decode cX4_turnTo 13 = .ok (.iload_n 2, 1) := by decide +kernel
theorem dX4_turnTo_14 : decode cX4_turnTo 14 = .ok (.iastore, 1) := by decide +kernel
theorem dX4_turnTo_15 : decode cX4_turnTo 15 = .ok (.return_, 1) := by decide +kernel
theorem dX4_turnBy_0 : decode cX4_turnBy 0 = .ok (.aload_n 0, 1) := by decide +kernel
theorem dX4_turnBy_1 : decode cX4_turnBy 1 = .ok (.iload_n 1, 1) := by decide +kernel
theorem dX4_turnBy_2 : decode cX4_turnBy 2 = .ok (.invokevirtual 52, 3) := by decide +kernel
theorem dX4_turnBy_5 : decode cX4_turnBy 5 = .ok (.ifCond .eq 13, 3) := by decide +kernel
theorem dX4_turnBy_8 : decode cX4_turnBy 8 = .ok (.aload_n 0, 1) := by decide +kernel
theorem dX4_turnBy_9 : decode cX4_turnBy 9 = .ok (.getfield 25, 3) := by decide +kernel
theorem dX4_turnBy_12 : decode cX4_turnBy 12 = .ok (.iload_n 1, 1) := by decide +kernel
theorem dX4_turnBy_13 : decode cX4_turnBy 13 = .ok (.dup2, 1) := by decide +kernel
theorem dX4_turnBy_14 : decode cX4_turnBy 14 = .ok (.iaload, 1) := by decide +kernel
theorem dX4_turnBy_15 : decode cX4_turnBy 15 = .ok (.iload_n 2, 1) := by decide +kernel
theorem dX4_turnBy_16 : decode cX4_turnBy 16 = .ok (.iadd, 1) := by decide +kernel
theorem dX4_turnBy_17 : decode cX4_turnBy 17 = .ok (.iastore, 1) := by decide +kernel
theorem dX4_turnBy_18 : decode cX4_turnBy 18 = .ok (.return_, 1) := by decide +kernel
theorem dX4_isBlocked_0 : decode cX4_isBlocked 0 = .ok (.iload_n 1, 1) := by decide +kernel
theorem dX4_isBlocked_1 : decode cX4_isBlocked 1 = .ok (.iload_n 2, 1) := by decide +kernel
theorem dX4_isBlocked_2 : decode cX4_isBlocked 2 = .ok (.invokestatic 65, 3) := by decide +kernel
theorem dX4_isBlocked_5 : decode cX4_isBlocked 5 = .ok (.ifCond .eq 26, 3) := by decide +kernel
theorem dX4_isBlocked_8 : decode cX4_isBlocked 8 = .ok (.aload_n 0, 1) := by decide +kernel
theorem dX4_isBlocked_9 : decode cX4_isBlocked 9 = .ok (.getfield 37, 3) := by decide +kernel
theorem dX4_isBlocked_12 : decode cX4_isBlocked 12 = .ok (.iload_n 2, 1) := by decide +kernel
theorem dX4_isBlocked_13 : decode cX4_isBlocked 13 = .ok (.bipush 10, 2) := by decide +kernel
theorem dX4_isBlocked_15 : decode cX4_isBlocked 15 = .ok (.iadd, 1) := by decide +kernel
theorem dX4_isBlocked_16 : decode cX4_isBlocked 16 = .ok (.iaload, 1) := by decide +kernel
theorem dX4_isBlocked_17 : decode cX4_isBlocked 17 = .ok (.iload_n 1, 1) := by decide +kernel
theorem dX4_isBlocked_18 : decode cX4_isBlocked 18 = .ok (.bipush 10, 2) := by decide +kernel
theorem dX4_isBlocked_20 : decode cX4_isBlocked 20 = .ok (.iadd, 1) := by decide +kernel
theorem dX4_isBlocked_21 : decode cX4_isBlocked 21 = .ok (.ishr, 1) := by decide +kernel
theorem dX4_isBlocked_22 : decode cX4_isBlocked 22 = .ok (.iconst 1, 1) := by decide +kernel
theorem dX4_isBlocked_23 : decode cX4_isBlocked 23 = .ok (.iand, 1) := by decide +kernel
theorem dX4_isBlocked_24 : decode cX4_isBlocked 24 = .ok (.ifCond .eq 7, 3) := by decide +kernel
theorem dX4_isBlocked_27 : decode cX4_isBlocked 27 = .ok (.iconst 1, 1) := by decide +kernel
theorem dX4_isBlocked_28 : decode cX4_isBlocked 28 = .ok (.goto 4, 3) := by decide +kernel
theorem dX4_isBlocked_31 : decode cX4_isBlocked 31 = .ok (.iconst 0, 1) := by decide +kernel
theorem dX4_isBlocked_32 : decode cX4_isBlocked 32 = .ok (.ireturn, 1) := by decide +kernel
theorem dX4_block_0 : decode cX4_block 0 = .ok (.iload_n 1, 1) := by decide +kernel
theorem dX4_block_1 : decode cX4_block 1 = .ok (.iload_n 2, 1) := by decide +kernel
theorem dX4_block_2 : decode cX4_block 2 = .ok (.invokestatic 65, 3) := by decide +kernel
theorem dX4_block_5 : decode cX4_block 5 = .ok (.ifCond .eq 36, 3) := by decide +kernel
theorem dX4_block_8 : decode cX4_block 8 = .ok (.iload_n 1, 1) := by decide +kernel
theorem dX4_block_9 : decode cX4_block 9 = .ok (.ifCond .ne 7, 3) := by decide +kernel
theorem dX4_block_12 : decode cX4_block 12 = .ok (.iload_n 2, 1) := by decide +kernel
theorem dX4_block_13 : decode cX4_block 13 = .ok (.ifCond .eq 28, 3) := by decide +kernel
theorem dX4_block_16 : decode cX4_block 16 = .ok (.aload_n 0, 1) := by decide +kernel
theorem dX4_block_17 : decode cX4_block 17 = .ok (.iload_n 1, 1) := by decide +kernel
theorem dX4_block_18 : decode cX4_block 18 = .ok (.iload_n 2, 1) := by decide +kernel
theorem dX4_block_19 : decode cX4_block 19 = .ok (.invokevirtual 69, 3) := by decide +kernel
theorem dX4_block_22 : decode cX4_block 22 = .ok (.ifCond .ne 19, 3) := by decide +kernel
theorem dX4_block_25 : decode cX4_block 25 = .ok (.aload_n 0, 1) := by decide +kernel
theorem dX4_block_26 : decode cX4_block 26 = .ok (.getfield 28, 3) := by decide +kernel
theorem dX4_block_29 : decode cX4_block 29 = .ok (.ifCond .lt 12, 3) := by decide +kernel
theorem dX4_block_32 : decode cX4_block 32 = .ok (.aload_n 0, 1) := by decide +kernel
theorem dX4_block_33 : decode cX4_block 33 = .ok (.getfield 28, 3) := by decide +kernel
theorem dX4_block_36 : decode cX4_block 36 = .ok (.bipush 60, 2) := by decide +kernel
theorem dX4_block_38 : decode cX4_block 38 = .ok (.if_icmp .lt 5, 3) := by decide +kernel
theorem dX4_block_41 : decode cX4_block 41 = .ok (.iconst 0, 1) := by decide +kernel
theorem dX4_block_42 : decode cX4_block 42 = .ok (.ireturn, 1) := by decide +kernel
theorem dX4_block_43 : decode cX4_block 43 = .ok (.aload_n 0, 1) := by decide +kernel
theorem dX4_block_44 : decode cX4_block 44 = .ok (.getfield 31, 3) := by decide +kernel
theorem dX4_block_47 : decode cX4_block 47 = .ok (.aload_n 0, 1) := by decide +kernel
theorem dX4_block_48 : decode cX4_block 48 = .ok (.getfield 28, 3) := by decide +kernel
theorem dX4_block_51 : decode cX4_block 51 = .ok (.iload_n 1, 1) := by decide +kernel
theorem dX4_block_52 : decode cX4_block 52 = .ok (.iastore, 1) := by decide +kernel
theorem dX4_block_53 : decode cX4_block 53 = .ok (.aload_n 0, 1) := by decide +kernel
theorem dX4_block_54 : decode cX4_block 54 = .ok (.getfield 34, 3) := by decide +kernel
theorem dX4_block_57 : decode cX4_block 57 = .ok (.aload_n 0, 1) := by decide +kernel
theorem dX4_block_58 : decode cX4_block 58 = .ok (.getfield 28, 3) := by decide +kernel
theorem dX4_block_61 : decode cX4_block 61 = .ok (.iload_n 2, 1) := by decide +kernel
theorem dX4_block_62 : decode cX4_block 62 = .ok (.iastore, 1) := by decide +kernel
theorem dX4_block_63 : decode cX4_block 63 = .ok (.aload_n 0, 1) := by decide +kernel
theorem dX4_block_64 : decode cX4_block 64 = .ok (.dup, 1) := by decide +kernel
theorem dX4_block_65 : decode cX4_block 65 = .ok (.getfield 28, 3) := by decide +kernel
theorem dX4_block_68 : decode cX4_block 68 = .ok (.iconst 1, 1) := by decide +kernel
theorem dX4_block_69 : decode cX4_block 69 = .ok (.iadd, 1) := by decide +kernel
theorem dX4_block_70 : decode cX4_block 70 = .ok (.putfield 28, 3) := by decide +kernel
theorem dX4_block_73 : decode cX4_block 73 = .ok (.aload_n 0, 1) := by decide +kernel
theorem dX4_block_74 : decode cX4_block 74 = .ok (.getfield 37, 3) := by decide +kernel
theorem dX4_block_77 : decode cX4_block 77 = .ok (.iload_n 2, 1) := by decide +kernel
theorem dX4_block_78 : decode cX4_block 78 = .ok (.bipush 10, 2) := by decide +kernel
theorem dX4_block_80 : decode cX4_block 80 = .ok (.iadd, 1) := by decide +kernel
theorem dX4_block_81 : decode cX4_block 81 = .ok (.dup2, 1) := by decide +kernel
theorem dX4_block_82 : decode cX4_block 82 = .ok (.iaload, 1) := by decide +kernel
theorem dX4_block_83 : decode cX4_block 83 = .ok (.iconst 1, 1) := by decide +kernel
theorem dX4_block_84 : decode cX4_block 84 = .ok (.iload_n 1, 1) := by decide +kernel
theorem dX4_block_85 : decode cX4_block 85 = .ok (.bipush 10, 2) := by decide +kernel
theorem dX4_block_87 : decode cX4_block 87 = .ok (.iadd, 1) := by decide +kernel
theorem dX4_block_88 : decode cX4_block 88 = .ok (.ishl, 1) := by decide +kernel
theorem dX4_block_89 : decode cX4_block 89 = .ok (.ior, 1) := by decide +kernel
theorem dX4_block_90 : decode cX4_block 90 = .ok (.iastore, 1) := by decide +kernel
theorem dX4_block_91 : decode cX4_block 91 = .ok (.iconst 1, 1) := by decide +kernel
theorem dX4_block_92 : decode cX4_block 92 = .ok (.ireturn, 1) := by decide +kernel
theorem dX4_unblock_0 : decode cX4_unblock 0 = .ok (.aload_n 0, 1) := by decide +kernel
theorem dX4_unblock_1 : decode cX4_unblock 1 = .ok (.iload_n 1, 1) := by decide +kernel
theorem dX4_unblock_2 : decode cX4_unblock 2 = .ok (.iload_n 2, 1) := by decide +kernel
theorem dX4_unblock_3 : decode cX4_unblock 3 = .ok (.invokevirtual 69, 3) := by decide +kernel
theorem dX4_unblock_6 : decode cX4_unblock 6 = .ok (.ifCond .ne 4, 3) := by decide +kernel
theorem dX4_unblock_9 : decode cX4_unblock 9 = .ok (.return_, 1) := by decide +kernel
theorem dX4_unblock_10 : decode cX4_unblock 10 = .ok (.aload_n 0, 1) := by decide +kernel
theorem dX4_unblock_11 : decode cX4_unblock 11 = .ok (.getfield 37, 3) := by decide +kernel
theorem dX4_unblock_14 : decode cX4_unblock 14 = .ok (.iload_n 2, 1) := by decide +kernel
theorem dX4_unblock_15 : decode cX4_unblock 15 = .ok (.bipush 10, 2) := by decide +kernel
theorem dX4_unblock_17 : decode cX4_unblock 17 = .ok (.iadd, 1) := by decide +kernel
theorem dX4_unblock_18 : decode cX4_unblock 18 = .ok (.dup2, 1) := by decide +kernel
theorem dX4_unblock_19 : decode cX4_unblock 19 = .ok (.iaload, 1) := by decide +kernel
theorem dX4_unblock_20 : decode cX4_unblock 20 = .ok (.iconst 1, 1) := by decide +kernel
theorem dX4_unblock_21 : decode cX4_unblock 21 = .ok (.iload_n 1, 1) := by decide +kernel
theorem dX4_unblock_22 : decode cX4_unblock 22 = .ok (.bipush 10, 2) := by decide +kernel
theorem dX4_unblock_24 : decode cX4_unblock 24 = .ok (.iadd, 1) := by decide +kernel
theorem dX4_unblock_25 : decode cX4_unblock 25 = .ok (.ishl, 1) := by decide +kernel
theorem dX4_unblock_26 : decode cX4_unblock 26 = .ok (.iconst (-1), 1) := by decide +kernel
theorem dX4_unblock_27 : decode cX4_unblock 27 = .ok (.ixor, 1) := by decide +kernel
theorem dX4_unblock_28 : decode cX4_unblock 28 = .ok (.iand, 1) := by decide +kernel
theorem dX4_unblock_29 : decode cX4_unblock 29 = .ok (.iastore, 1) := by decide +kernel
theorem dX4_unblock_30 : decode cX4_unblock 30 = .ok (.iconst 0, 1) := by decide +kernel
theorem dX4_unblock_31 : decode cX4_unblock 31 = .ok (.istore_n 3, 1) := by decide +kernel
theorem dX4_unblock_32 : decode cX4_unblock 32 = .ok (.iconst 0, 1) := by decide +kernel
theorem dX4_unblock_33 : decode cX4_unblock 33 = .ok (.istore 4, 2) := by decide +kernel
theorem dX4_unblock_35 : decode cX4_unblock 35 = .ok (.iload 4, 2) := by decide +kernel
theorem dX4_unblock_37 : decode cX4_unblock 37 = .ok (.aload_n 0, 1) := by decide +kernel
theorem dX4_unblock_38 : decode cX4_unblock 38 = .ok (.getfield 28, 3) := by decide +kernel
theorem dX4_unblock_41 : decode cX4_unblock 41 = .ok (.if_icmp .ge 67, 3) := by decide +kernel
theorem dX4_unblock_44 : decode cX4_unblock 44 = .ok (.iload 4, 2) := by decide +kernel
theorem dX4_unblock_46 : decode cX4_unblock 46 = .ok (.bipush 60, 2) := by decide +kernel
theorem dX4_unblock_48 : decode cX4_unblock 48 = .ok (.if_icmp .ge 60, 3) := by decide +kernel
theorem dX4_unblock_51 : decode cX4_unblock 51 = .ok (.aload_n 0, 1) := by decide +kernel
theorem dX4_unblock_52 : decode cX4_unblock 52 = .ok (.getfield 31, 3) := by decide +kernel
theorem dX4_unblock_55 : decode cX4_unblock 55 = .ok (.iload 4, 2) := by decide +kernel
theorem dX4_unblock_57 : decode cX4_unblock 57 = .ok (.iaload, 1) := by decide +kernel
theorem dX4_unblock_58 : decode cX4_unblock 58 = .ok (.iload_n 1, 1) := by decide +kernel
theorem dX4_unblock_59 : decode cX4_unblock 59 = .ok (.if_icmp .ne 14, 3) := by decide +kernel
theorem dX4_unblock_62 : decode cX4_unblock 62 = .ok (.aload_n 0, 1) := by decide +kernel
theorem dX4_unblock_63 : decode cX4_unblock 63 = .ok (.getfield 34, 3) := by decide +kernel
theorem dX4_unblock_66 : decode cX4_unblock 66 = .ok (.iload 4, 2) := by decide +kernel
theorem dX4_unblock_68 : decode cX4_unblock 68 = .ok (.iaload, 1) := by decide +kernel
theorem dX4_unblock_69 : decode cX4_unblock 69 = .ok (.iload_n 2, 1) := by decide +kernel
theorem dX4_unblock_70 : decode cX4_unblock 70 = .ok (.if_icmp .eq 32, 3) := by decide +kernel
theorem dX4_unblock_73 : decode cX4_unblock 73 = .ok (.aload_n 0, 1) := by decide +kernel
theorem dX4_unblock_74 : decode cX4_unblock 74 = .ok (.getfield 31, 3) := by decide +kernel
theorem dX4_unblock_77 : decode cX4_unblock 77 = .ok (.iload_n 3, 1) := by decide +kernel
theorem dX4_unblock_78 : decode cX4_unblock 78 = .ok (.aload_n 0, 1) := by decide +kernel
theorem dX4_unblock_79 : decode cX4_unblock 79 = .ok (.getfield 31, 3) := by decide +kernel
theorem dX4_unblock_82 : decode cX4_unblock 82 = .ok (.iload 4, 2) := by decide +kernel
theorem dX4_unblock_84 : decode cX4_unblock 84 = .ok (.iaload, 1) := by decide +kernel
theorem dX4_unblock_85 : decode cX4_unblock 85 = .ok (.iastore, 1) := by decide +kernel
theorem dX4_unblock_86 : decode cX4_unblock 86 = .ok (.aload_n 0, 1) := by decide +kernel
theorem dX4_unblock_87 : decode cX4_unblock 87 = .ok (.getfield 34, 3) := by decide +kernel
theorem dX4_unblock_90 : decode cX4_unblock 90 = .ok (.iload_n 3, 1) := by decide +kernel
theorem dX4_unblock_91 : decode cX4_unblock 91 = .ok (.aload_n 0, 1) := by decide +kernel
theorem dX4_unblock_92 : decode cX4_unblock 92 = .ok (.getfield 34, 3) := by decide +kernel
theorem dX4_unblock_95 : decode cX4_unblock 95 = .ok (.iload 4, 2) := by decide +kernel
theorem dX4_unblock_97 : decode cX4_unblock 97 = .ok (.iaload, 1) := by decide +kernel
theorem dX4_unblock_98 : decode cX4_unblock 98 = .ok (.iastore, 1) := by decide +kernel
theorem dX4_unblock_99 : decode cX4_unblock 99 = .ok (.iinc 3 1, 3) := by decide +kernel
theorem dX4_unblock_102 : decode cX4_unblock 102 = .ok (.iinc 4 1, 3) := by decide +kernel
theorem dX4_unblock_105 : decode cX4_unblock 105 = .ok (.goto (-70), 3) := by decide +kernel
theorem dX4_unblock_108 : decode cX4_unblock 108 = .ok (.aload_n 0, 1) := by decide +kernel
theorem dX4_unblock_109 : decode cX4_unblock 109 = .ok (.iload_n 3, 1) := by decide +kernel
theorem dX4_unblock_110 : decode cX4_unblock 110 = .ok (.putfield 28, 3) := by decide +kernel
theorem dX4_unblock_113 : decode cX4_unblock 113 = .ok (.return_, 1) := by decide +kernel
theorem dX4_wholeLength_0 : decode cX4_wholeLength 0 = .ok (.iconst 0, 1) := by decide +kernel
theorem dX4_wholeLength_1 : decode cX4_wholeLength 1 = .ok (.istore_n 1, 1) := by decide +kernel
theorem dX4_wholeLength_2 : decode cX4_wholeLength 2 = .ok (.iconst 0, 1) := by decide +kernel
theorem dX4_wholeLength_3 : decode cX4_wholeLength 3 = .ok (.istore_n 2, 1) := by decide +kernel
theorem dX4_wholeLength_4 : decode cX4_wholeLength 4 = .ok (.iload_n 2, 1) := by decide +kernel
theorem dX4_wholeLength_5 : decode cX4_wholeLength 5 = .ok (.aload_n 0, 1) := by decide +kernel
theorem dX4_wholeLength_6 : decode cX4_wholeLength 6 = .ok (.getfield 9, 3) := by decide +kernel
theorem dX4_wholeLength_9 : decode cX4_wholeLength 9 = .ok (.if_icmp .ge 23, 3) := by decide +kernel
theorem dX4_wholeLength_12 : decode cX4_wholeLength 12 = .ok (.iload_n 2, 1) := by decide +kernel
theorem dX4_wholeLength_13 : decode cX4_wholeLength 13 = .ok (.iconst 4, 1) := by decide +kernel
theorem dX4_wholeLength_14 : decode cX4_wholeLength 14 = .ok (.if_icmp .ge 18, 3) := by decide +kernel
theorem dX4_wholeLength_17 : decode cX4_wholeLength 17 = .ok (.iload_n 1, 1) := by decide +kernel
theorem dX4_wholeLength_18 : decode cX4_wholeLength 18 = .ok (.aload_n 0, 1) := by decide +kernel
theorem dX4_wholeLength_19 : decode cX4_wholeLength 19 = .ok (.getfield 15, 3) := by decide +kernel
theorem dX4_wholeLength_22 : decode cX4_wholeLength 22 = .ok (.iload_n 2, 1) := by decide +kernel
theorem dX4_wholeLength_23 : decode cX4_wholeLength 23 = .ok (.iaload, 1) := by decide +kernel
theorem dX4_wholeLength_24 : decode cX4_wholeLength 24 = .ok (.iadd, 1) := by decide +kernel
theorem dX4_wholeLength_25 : decode cX4_wholeLength 25 = .ok (.istore_n 1, 1) := by decide +kernel
theorem dX4_wholeLength_26 : decode cX4_wholeLength 26 = .ok (.iinc 2 1, 3) := by decide +kernel
theorem dX4_wholeLength_29 : decode cX4_wholeLength 29 = .ok (.goto (-25), 3) := by decide +kernel
theorem dX4_wholeLength_32 : decode cX4_wholeLength 32 = .ok (.iload_n 1, 1) := by decide +kernel
theorem dX4_wholeLength_33 : decode cX4_wholeLength 33 = .ok (.ireturn, 1) := by decide +kernel
theorem dX4_span_0 : decode cX4_span 0 = .ok (.aload_n 0, 1) := by decide +kernel
theorem dX4_span_1 : decode cX4_span 1 = .ok (.iload_n 1, 1) := by decide +kernel
theorem dX4_span_2 : decode cX4_span 2 = .ok (.invokevirtual 52, 3) := by decide +kernel
theorem dX4_span_5 : decode cX4_span 5 = .ok (.ifCond .eq 25, 3) := by decide +kernel
theorem dX4_span_8 : decode cX4_span 8 = .ok (.iconst 1, 1) := by decide +kernel
theorem dX4_span_9 : decode cX4_span 9 = .ok (.aload_n 0, 1) := by decide +kernel
theorem dX4_span_10 : decode cX4_span 10 = .ok (.getfield 22, 3) := by decide +kernel
theorem dX4_span_13 : decode cX4_span 13 = .ok (.iload_n 1, 1) := by decide +kernel
theorem dX4_span_14 : decode cX4_span 14 = .ok (.iaload, 1) := by decide +kernel
theorem dX4_span_15 : decode cX4_span 15 = .ok (.aload_n 0, 1) := by decide +kernel
theorem dX4_span_16 : decode cX4_span 16 = .ok (.getfield 19, 3) := by decide +kernel
theorem dX4_span_19 : decode cX4_span 19 = .ok (.iload_n 1, 1) := by decide +kernel
theorem dX4_span_20 : decode cX4_span 20 = .ok (.iaload, 1) := by decide +kernel
theorem dX4_span_21 : decode cX4_span 21 = .ok (.isub, 1) := by decide +kernel
theorem dX4_span_22 : decode cX4_span 22 = .ok (.iconst 1, 1) := by decide +kernel
theorem dX4_span_23 : decode cX4_span 23 = .ok (.iadd, 1) := by decide +kernel
theorem dX4_span_24 : decode cX4_span 24 = .ok (.invokestatic 62, 3) := by decide +kernel
theorem dX4_span_27 : decode cX4_span 27 = .ok (.goto 4, 3) := by decide +kernel
theorem dX4_span_30 : decode cX4_span 30 = .ok (.iconst 1, 1) := by decide +kernel
theorem dX4_span_31 : decode cX4_span 31 = .ok (.ireturn, 1) := by decide +kernel
theorem dX4_poses_0 : decode cX4_poses 0 = .ok (.iconst 1, 1) := by decide +kernel
theorem dX4_poses_1 : decode cX4_poses 1 = .ok (.istore_n 1, 1) := by decide +kernel
theorem dX4_poses_2 : decode cX4_poses 2 = .ok (.iconst 0, 1) := by decide +kernel
theorem dX4_poses_3 : decode cX4_poses 3 = .ok (.istore_n 2, 1) := by decide +kernel
theorem dX4_poses_4 : decode cX4_poses 4 = .ok (.iload_n 2, 1) := by decide +kernel
theorem dX4_poses_5 : decode cX4_poses 5 = .ok (.aload_n 0, 1) := by decide +kernel
theorem dX4_poses_6 : decode cX4_poses 6 = .ok (.getfield 9, 3) := by decide +kernel
theorem dX4_poses_9 : decode cX4_poses 9 = .ok (.if_icmp .ge 22, 3) := by decide +kernel
theorem dX4_poses_12 : decode cX4_poses 12 = .ok (.iload_n 2, 1) := by decide +kernel
theorem dX4_poses_13 : decode cX4_poses 13 = .ok (.iconst 4, 1) := by decide +kernel
theorem dX4_poses_14 : decode cX4_poses 14 = .ok (.if_icmp .ge 17, 3) := by decide +kernel
theorem dX4_poses_17 : decode cX4_poses 17 = .ok (.iload_n 1, 1) := by decide +kernel
theorem dX4_poses_18 : decode cX4_poses 18 = .ok (.aload_n 0, 1) := by decide +kernel
theorem dX4_poses_19 : decode cX4_poses 19 = .ok (.iload_n 2, 1) := by decide +kernel
theorem dX4_poses_20 : decode cX4_poses 20 = .ok (.invokevirtual 72, 3) := by decide +kernel
theorem dX4_poses_23 : decode cX4_poses 23 = .ok (.imul, 1) := by decide +kernel
theorem dX4_poses_24 : decode cX4_poses 24 = .ok (.istore_n 1, 1) := by decide +kernel
theorem dX4_poses_25 : decode cX4_poses 25 = .ok (.iinc 2 1, 3) := by decide +kernel
theorem dX4_poses_28 : decode cX4_poses 28 = .ok (.goto (-24), 3) := by decide +kernel
theorem dX4_poses_31 : decode cX4_poses 31 = .ok (.iload_n 1, 1) := by decide +kernel
theorem dX4_poses_32 : decode cX4_poses 32 = .ok (.ireturn, 1) := by decide +kernel
theorem dX4_numberOf_0 : decode cX4_numberOf 0 = .ok (.iconst 0, 1) := by decide +kernel
theorem dX4_numberOf_1 : decode cX4_numberOf 1 = .ok (.istore_n 2, 1) := by decide +kernel
theorem dX4_numberOf_2 : decode cX4_numberOf 2 = .ok (.iconst 0, 1) := by decide +kernel
theorem dX4_numberOf_3 : decode cX4_numberOf 3 = .ok (.istore_n 3, 1) := by decide +kernel
theorem dX4_numberOf_4 : decode cX4_numberOf 4 = .ok (.iload_n 3, 1) := by decide +kernel
theorem dX4_numberOf_5 : decode cX4_numberOf 5 = .ok (.aload_n 0, 1) := by decide +kernel
theorem dX4_numberOf_6 : decode cX4_numberOf 6 = .ok (.getfield 9, 3) := by decide +kernel
theorem dX4_numberOf_9 : decode cX4_numberOf 9 = .ok (.if_icmp .ge 39, 3) := by decide +kernel
theorem dX4_numberOf_12 : decode cX4_numberOf 12 = .ok (.iload_n 3, 1) := by decide +kernel
theorem dX4_numberOf_13 : decode cX4_numberOf 13 = .ok (.iconst 4, 1) := by decide +kernel
theorem dX4_numberOf_14 : decode cX4_numberOf 14 = .ok (.if_icmp .ge 34, 3) := by decide +kernel
theorem dX4_numberOf_17 : decode cX4_numberOf 17 = .ok (.iload_n 3, 1) := by decide +kernel
theorem dX4_numberOf_18 : decode cX4_numberOf 18 = .ok (.aload_n 1, 1) := by decide +kernel
theorem dX4_numberOf_19 : decode cX4_numberOf 19 = .ok (.arraylength, 1) := by decide +kernel
theorem dX4_numberOf_20 : decode cX4_numberOf 20 = .ok (.if_icmp .ge 28, 3) := by decide +kernel
theorem dX4_numberOf_23 : decode cX4_numberOf 23 = .ok (.iload_n 2, 1) := by decide +kernel
theorem dX4_numberOf_24 : decode cX4_numberOf 24 = .ok (.aload_n 0, 1) := by decide +kernel
theorem dX4_numberOf_25 : decode cX4_numberOf 25 = .ok (.iload_n 3, 1) := by decide +kernel
theorem dX4_numberOf_26 : decode cX4_numberOf 26 = .ok (.invokevirtual 72, 3) := by decide +kernel
theorem dX4_numberOf_29 : decode cX4_numberOf 29 = .ok (.imul, 1) := by decide +kernel
theorem dX4_numberOf_30 : decode cX4_numberOf 30 = .ok (.aload_n 1, 1) := by decide +kernel
theorem dX4_numberOf_31 : decode cX4_numberOf 31 = .ok (.iload_n 3, 1) := by decide +kernel
theorem dX4_numberOf_32 : decode cX4_numberOf 32 = .ok (.iaload, 1) := by decide +kernel
theorem dX4_numberOf_33 : decode cX4_numberOf 33 = .ok (.iadd, 1) := by decide +kernel
theorem dX4_numberOf_34 : decode cX4_numberOf 34 = .ok (.aload_n 0, 1) := by decide +kernel
theorem dX4_numberOf_35 : decode cX4_numberOf 35 = .ok (.getfield 19, 3) := by decide +kernel
theorem dX4_numberOf_38 : decode cX4_numberOf 38 = .ok (.iload_n 3, 1) := by decide +kernel
theorem dX4_numberOf_39 : decode cX4_numberOf 39 = .ok (.iaload, 1) := by decide +kernel
theorem dX4_numberOf_40 : decode cX4_numberOf 40 = .ok (.isub, 1) := by decide +kernel
theorem dX4_numberOf_41 : decode cX4_numberOf 41 = .ok (.istore_n 2, 1) := by decide +kernel
theorem dX4_numberOf_42 : decode cX4_numberOf 42 = .ok (.iinc 3 1, 3) := by decide +kernel
theorem dX4_numberOf_45 : decode cX4_numberOf 45 = .ok (.goto (-41), 3) := by decide +kernel
theorem dX4_numberOf_48 : decode cX4_numberOf 48 = .ok (.iload_n 2, 1) := by decide +kernel
theorem dX4_numberOf_49 : decode cX4_numberOf 49 = .ok (.ireturn, 1) := by decide +kernel
theorem dX4_readPose_0 : decode cX4_readPose 0 = .ok (.iload_n 1, 1) := by decide +kernel
theorem dX4_readPose_1 : decode cX4_readPose 1 = .ok (.istore_n 3, 1) := by decide +kernel
theorem dX4_readPose_2 : decode cX4_readPose 2 = .ok (.aload_n 0, 1) := by decide +kernel
theorem dX4_readPose_3 : decode cX4_readPose 3 = .ok (.getfield 9, 3) := by decide +kernel
theorem dX4_readPose_6 : decode cX4_readPose 6 = .ok (.iconst 4, 1) := by decide +kernel
theorem dX4_readPose_7 : decode cX4_readPose 7 = .ok (.invokestatic 56, 3) := by decide +kernel
theorem dX4_readPose_10 : decode cX4_readPose 10 = .ok (.iconst 1, 1) := by decide +kernel
theorem dX4_readPose_11 : decode cX4_readPose 11 = .ok (.isub, 1) := by decide +kernel
theorem dX4_readPose_12 : decode cX4_readPose 12 = .ok (.istore 4, 2) := by decide +kernel
theorem dX4_readPose_14 : decode cX4_readPose 14 = .ok (.iload 4, 2) := by decide +kernel
theorem dX4_readPose_16 : decode cX4_readPose 16 = .ok (.ifCond .lt 50, 3) := by decide +kernel
theorem dX4_readPose_19 : decode cX4_readPose 19 = .ok (.aload_n 0, 1) := by decide +kernel
theorem dX4_readPose_20 : decode cX4_readPose 20 = .ok (.iload 4, 2) := by decide +kernel
theorem dX4_readPose_22 : decode cX4_readPose 22 = .ok (.invokevirtual 72, 3) := by decide +kernel
theorem dX4_readPose_25 : decode cX4_readPose 25 = .ok (.istore 5, 2) := by decide +kernel
theorem dX4_readPose_27 : decode cX4_readPose 27 = .ok (.iload 5, 2) := by decide +kernel
theorem dX4_readPose_29 : decode cX4_readPose 29 = .ok (.ifCond .le 31, 3) := by decide +kernel
theorem dX4_readPose_32 : decode cX4_readPose 32 = .ok (.iload 4, 2) := by decide +kernel
theorem dX4_readPose_34 : decode cX4_readPose 34 = .ok (.aload_n 2, 1) := by decide +kernel
theorem dX4_readPose_35 : decode cX4_readPose 35 = .ok (.arraylength, 1) := by decide +kernel
theorem dX4_readPose_36 : decode cX4_readPose 36 = .ok (.if_icmp .ge 24, 3) := by decide +kernel
theorem dX4_readPose_39 : decode cX4_readPose 39 = .ok (.aload_n 2, 1) := by decide +kernel
theorem dX4_readPose_40 : decode cX4_readPose 40 = .ok (.iload 4, 2) := by decide +kernel
theorem dX4_readPose_42 : decode cX4_readPose 42 = .ok (.aload_n 0, 1) := by decide +kernel
theorem dX4_readPose_43 : decode cX4_readPose 43 = .ok (.getfield 19, 3) := by decide +kernel
theorem dX4_readPose_46 : decode cX4_readPose 46 = .ok (.iload 4, 2) := by decide +kernel
theorem dX4_readPose_48 : decode cX4_readPose 48 = .ok (.iaload, 1) := by decide +kernel
theorem dX4_readPose_49 : decode cX4_readPose 49 = .ok (.iload_n 3, 1) := by decide +kernel
theorem dX4_readPose_50 : decode cX4_readPose 50 = .ok (.iload 5, 2) := by decide +kernel
theorem dX4_readPose_52 : decode cX4_readPose 52 = .ok (.irem, 1) := by decide +kernel
theorem dX4_readPose_53 : decode cX4_readPose 53 = .ok (.iadd, 1) := by decide +kernel
theorem dX4_readPose_54 : decode cX4_readPose 54 = .ok (.iastore, 1) := by decide +kernel
theorem dX4_readPose_55 : decode cX4_readPose 55 = .ok (.iload_n 3, 1) := by decide +kernel
theorem dX4_readPose_56 : decode cX4_readPose 56 = .ok (.iload 5, 2) := by decide +kernel
theorem dX4_readPose_58 : decode cX4_readPose 58 = .ok (.idiv, 1) := by decide +kernel
theorem dX4_readPose_59 : decode cX4_readPose 59 = .ok (.istore_n 3, 1) := by decide +kernel
theorem dX4_readPose_60 : decode cX4_readPose 60 = .ok (.iinc 4 (-1), 3) := by decide +kernel
theorem dX4_readPose_63 : decode cX4_readPose 63 = .ok (.goto (-49), 3) := by decide +kernel
theorem dX4_readPose_66 : decode cX4_readPose 66 = .ok (.return_, 1) := by decide +kernel
theorem dX5_init_0 : decode cX5_init 0 = .ok (.aload_n 0, 1) := by decide +kernel
theorem dX5_init_1 : decode cX5_init 1 = .ok (.invokespecial 3, 3) := by decide +kernel
theorem dX5_init_4 : decode cX5_init 4 = .ok (.aload_n 0, 1) := by decide +kernel
theorem dX5_init_5 : decode cX5_init 5 = .ok (.iconst 0, 1) := by decide +kernel
theorem dX5_init_6 : decode cX5_init 6 = .ok (.putfield 9, 3) := by decide +kernel
theorem dX5_init_9 : decode cX5_init 9 = .ok (.aload_n 0, 1) := by decide +kernel
theorem dX5_init_10 : decode cX5_init 10 = .ok (.iconst 0, 1) := by decide +kernel
theorem dX5_init_11 : decode cX5_init 11 = .ok (.putfield 15, 3) := by decide +kernel
theorem dX5_init_14 : decode cX5_init 14 = .ok (.aload_n 0, 1) := by decide +kernel
theorem dX5_init_15 : decode cX5_init 15 = .ok (.iconst 0, 1) := by decide +kernel
theorem dX5_init_16 : decode cX5_init 16 = .ok (.putfield 19, 3) := by decide +kernel
theorem dX5_init_19 : decode cX5_init 19 = .ok (.aload_n 0, 1) := by decide +kernel
theorem dX5_init_20 : decode cX5_init 20 = .ok (.iconst 4, 1) := by decide +kernel
theorem dX5_init_21 : decode cX5_init 21 = .ok (.newarray .int, 2) := by decide +kernel
theorem dX5_init_23 : decode cX5_init 23 = .ok (.putfield 22, 3) := by decide +kernel
theorem dX5_init_26 : decode cX5_init 26 = .ok (.aload_n 0, 1) := by decide +kernel
theorem dX5_init_27 : decode cX5_init 27 = .ok (.iconst 4, 1) := by decide +kernel
theorem dX5_init_28 : decode cX5_init 28 = .ok (.newarray .int, 2) := by decide +kernel
theorem dX5_init_30 : decode cX5_init 30 = .ok (.putfield 26, 3) := by decide +kernel
theorem dX5_init_33 : decode cX5_init 33 = .ok (.aload_n 0, 1) := by decide +kernel
theorem dX5_init_34 : decode cX5_init 34 = .ok (.sipush 5000, 3) := by decide +kernel
theorem dX5_init_37 : decode cX5_init 37 = .ok (.newarray .int, 2) := by decide +kernel
theorem dX5_init_39 : decode cX5_init 39 = .ok (.putfield 29, 3) := by decide +kernel
theorem dX5_init_42 : decode cX5_init 42 = .ok (.aload_n 0, 1) := by decide +kernel
theorem dX5_init_43 : decode cX5_init 43 = .ok (.sipush 5000, 3) := by decide +kernel
theorem dX5_init_46 : decode cX5_init 46 = .ok (.newarray .int, 2) := by decide +kernel
theorem dX5_init_48 : decode cX5_init 48 = .ok (.putfield 32, 3) := by decide +kernel
theorem dX5_init_51 : decode cX5_init 51 = .ok (.aload_n 0, 1) := by decide +kernel
theorem dX5_init_52 : decode cX5_init 52 = .ok (.sipush 5000, 3) := by decide +kernel
theorem dX5_init_55 : decode cX5_init 55 = .ok (.newarray .int, 2) := by decide +kernel
theorem dX5_init_57 : decode cX5_init 57 = .ok (.putfield 35, 3) := by decide +kernel
theorem dX5_init_60 : decode cX5_init 60 = .ok (.aload_n 0, 1) := by decide +kernel
theorem dX5_init_61 : decode cX5_init 61 = .ok (.iconst 0, 1) := by decide +kernel
theorem dX5_init_62 : decode cX5_init 62 = .ok (.putfield 38, 3) := by decide +kernel
theorem dX5_init_65 : decode cX5_init 65 = .ok (.aload_n 0, 1) := by decide +kernel
theorem dX5_init_66 : decode cX5_init 66 = .ok (.ldc 41, 2) := by decide +kernel
theorem dX5_init_68 : decode cX5_init 68 = .ok (.newarray .int, 2) := by decide +kernel
theorem dX5_init_70 : decode cX5_init 70 = .ok (.putfield 42, 3) := by decide +kernel
theorem dX5_init_73 : decode cX5_init 73 = .ok (.aload_n 0, 1) := by decide +kernel
theorem dX5_init_74 : decode cX5_init 74 = .ok (.new 45, 3) := by decide +kernel
theorem dX5_init_77 : decode cX5_init 77 = .ok (.dup, 1) := by decide +kernel
theorem dX5_init_78 : decode cX5_init 78 = .ok (.invokespecial 47, 3) := by decide +kernel
theorem dX5_init_81 : decode cX5_init 81 = .ok (.putfield 48, 3) := by decide +kernel
theorem dX5_init_84 : decode cX5_init 84 = .ok (.aload_n 0, 1) := by decide +kernel
theorem dX5_init_85 : decode cX5_init 85 = .ok (.iconst 4, 1) := by decide +kernel
theorem dX5_init_86 : decode cX5_init 86 = .ok (.newarray .int, 2) := by decide +kernel
theorem dX5_init_88 : decode cX5_init 88 = .ok (.putfield 52, 3) := by decide +kernel
theorem dX5_init_91 : decode cX5_init 91 = .ok (.return_, 1) := by decide +kernel
theorem dX5_survey_0 : decode cX5_survey 0 = .ok (.aload_n 0, 1) := by decide +kernel
theorem dX5_survey_1 : decode cX5_survey 1 = .ok (.getfield 9, 3) := by decide +kernel
theorem dX5_survey_4 : decode cX5_survey 4 = .ok (.ifCond .eq 4, 3) := by decide +kernel
theorem dX5_survey_7 : decode cX5_survey 7 = .ok (.return_, 1) := by decide +kernel
theorem dX5_survey_8 : decode cX5_survey 8 = .ok (.aload_n 0, 1) := by decide +kernel
theorem dX5_survey_9 : decode cX5_survey 9 = .ok (.aload_n 1, 1) := by decide +kernel
theorem dX5_survey_10 : decode cX5_survey 10 = .ok (.getfield 55, 3) := by decide +kernel
theorem dX5_survey_13 : decode cX5_survey 13 = .ok (.iconst 4, 1) := by decide +kernel
theorem dX5_survey_14 : decode cX5_survey 14 = .ok (.invokestatic 58, 3) := by decide +kernel
theorem dX5_survey_17 : decode cX5_survey 17 = .ok (.putfield 19, 3) := by decide +kernel
theorem dX5_survey_20 : decode cX5_survey 20 = .ok (.aload_n 0, 1) := by decide +kernel
theorem dX5_survey_21 : decode cX5_survey 21 = .ok (.aload_n 1, 1) := by decide +kernel
theorem dX5_survey_22 : decode cX5_survey 22 = .ok (.invokevirtual 64, 3) := by decide +kernel
theorem dX5_survey_25 : decode cX5_survey 25 = .ok (.sipush 5000, 3) := by decide +kernel
theorem dX5_survey_28 : decode cX5_survey 28 = .ok (.invokestatic 58, 3) := by decide +kernel
theorem dX5_survey_31 : decode cX5_survey 31 = .ok (.putfield 15, 3) := by decide +kernel
theorem dX5_survey_34 : decode cX5_survey 34 = .ok (.iconst 1, 1) := by decide +kernel
theorem dX5_survey_35 : decode cX5_survey 35 = .ok (.istore_n 2, 1) := by decide +kernel
theorem dX5_survey_36 : decode cX5_survey 36 = .ok (.aload_n 0, 1) := by decide +kernel
theorem dX5_survey_37 : decode cX5_survey 37 = .ok (.getfield 19, 3) := by decide +kernel
theorem dX5_survey_40 : decode cX5_survey 40 = .ok (.iconst 1, 1) := by decide +kernel
theorem dX5_survey_41 : decode cX5_survey 41 = .ok (.isub, 1) := by decide +kernel
theorem dX5_survey_42 : decode cX5_survey 42 = .ok (.istore_n 3, 1) := by decide +kernel
theorem dX5_survey_43 : decode cX5_survey 43 = .ok (.iload_n 3, 1) := by decide +kernel
theorem dX5_survey_44 : decode cX5_survey 44 = .ok (.ifCond .lt 35, 3) := by decide +kernel
theorem dX5_survey_47 : decode cX5_survey 47 = .ok (.aload_n 0, 1) := by decide +kernel
theorem dX5_survey_48 : decode cX5_survey 48 = .ok (.getfield 22, 3) := by decide +kernel
theorem dX5_survey_51 : decode cX5_survey 51 = .ok (.iload_n 3, 1) := by decide +kernel
theorem dX5_survey_52 : decode cX5_survey 52 = .ok (.aload_n 1, 1) := by decide +kernel
theorem dX5_survey_53 : decode cX5_survey 53 = .ok (.iload_n 3, 1) := by decide +kernel
theorem dX5_survey_54 : decode cX5_survey 54 = .ok (.invokevirtual 67, 3) := by decide +kernel
theorem dX5_survey_57 : decode cX5_survey 57 = .ok (.iastore, 1) := by decide +kernel
theorem dX5_survey_58 : decode cX5_survey 58 = .ok (.aload_n 0, 1) := by decide +kernel
theorem dX5_survey_59 : decode cX5_survey 59 = .ok (.getfield 26, 3) := by decide +kernel
theorem dX5_survey_62 : decode cX5_survey 62 = .ok (.iload_n 3, 1) := by decide +kernel
theorem dX5_survey_63 : decode cX5_survey 63 = .ok (.iload_n 2, 1) := by decide +kernel
theorem dX5_survey_64 : decode cX5_survey 64 = .ok (.iastore, 1) := by decide +kernel
theorem dX5_survey_65 : decode cX5_survey 65 = .ok (.iload_n 2, 1) := by decide +kernel
theorem dX5_survey_66 : decode cX5_survey 66 = .ok (.aload_n 1, 1) := by decide +kernel
theorem dX5_survey_67 : decode cX5_survey 67 = .ok (.iload_n 3, 1) := by decide +kernel
theorem dX5_survey_68 : decode cX5_survey 68 = .ok (.invokevirtual 67, 3) := by decide +kernel
theorem dX5_survey_71 : decode cX5_survey 71 = .ok (.imul, 1) := by decide +kernel
theorem dX5_survey_72 : decode cX5_survey 72 = .ok (.istore_n 2, 1) := by decide +kernel
theorem dX5_survey_73 : decode cX5_survey 73 = .ok (.iinc 3 (-1), 3) := by decide +kernel
theorem dX5_survey_76 : decode cX5_survey 76 = .ok (.goto (-33), 3) := by decide +kernel
theorem dX5_survey_79 : decode cX5_survey 79 = .ok (.iconst 0, 1) := by decide +kernel
theorem dX5_survey_80 : decode cX5_survey 80 = .ok (.istore_n 3, 1) := by decide +kernel
theorem dX5_survey_81 : decode cX5_survey 81 = .ok (.iload_n 3, 1) := by decide +kernel
theorem dX5_survey_82 : decode cX5_survey 82 = .ok (.aload_n 0, 1) := by decide +kernel
theorem dX5_survey_83 : decode cX5_survey 83 = .ok (.getfield 15, 3) := by decide +kernel
theorem dX5_survey_86 : decode cX5_survey 86 = .ok (.if_icmp .ge 67, 3) := by decide +kernel
theorem dX5_survey_89 : decode cX5_survey 89 = .ok (.aload_n 1, 1) := by decide +kernel
theorem dX5_survey_90 : decode cX5_survey 90 = .ok (.iload_n 3, 1) := by decide +kernel
theorem dX5_survey_91 : decode cX5_survey 91 = .ok (.aload_n 0, 1) := by decide +kernel
theorem dX5_survey_92 : decode cX5_survey 92 = .ok (.getfield 52, 3) := by decide +kernel
theorem dX5_survey_95 : decode cX5_survey 95 = .ok (.invokevirtual 70, 3) := by decide +kernel
theorem dX5_survey_98 : decode cX5_survey 98 = .ok (.aload_n 0, 1) := by decide +kernel
theorem dX5_survey_99 : decode cX5_survey 99 = .ok (.getfield 48, 3) := by decide +kernel
theorem dX5_survey_102 : decode cX5_survey 102 = .ok (.aload_n 1, 1) := by decide +kernel
theorem dX5_survey_103 : decode cX5_survey 103 = .ok (.aload_n 0, 1) := by decide +kernel
theorem dX5_survey_104 : decode cX5_survey 104 = .ok (.getfield 52, 3) := by decide +kernel
theorem dX5_survey_107 : decode cX5_survey 107 = .ok (.invokevirtual 74, 3) := by decide +kernel
theorem dX5_survey_110 : decode cX5_survey 110 = .ok (.aload_n 0, 1) := by decide +kernel
theorem dX5_survey_111 : decode cX5_survey 111 = .ok (.getfield 29, 3) := by decide +kernel
theorem dX5_survey_114 : decode cX5_survey 114 = .ok (.iload_n 3, 1) := by decide +kernel
theorem dX5_survey_115 : decode cX5_survey 115 = .ok (.aload_n 0, 1) := by decide +kernel
theorem dX5_survey_116 : decode cX5_survey 116 = .ok (.getfield 48, 3) := by decide +kernel
theorem dX5_survey_119 : decode cX5_survey 119 = .ok (.getfield 78, 3) := by decide +kernel
theorem dX5_survey_122 : decode cX5_survey 122 = .ok (.ifCond .ne 23, 3) := by decide +kernel
theorem dX5_survey_125 : decode cX5_survey 125 = .ok (.aload_n 0, 1) := by decide +kernel
theorem dX5_survey_126 : decode cX5_survey 126 = .ok (.getfield 48, 3) := by decide +kernel
theorem dX5_survey_129 : decode cX5_survey 129 = .ok (.getfield 81, 3) := by decide +kernel
theorem dX5_survey_132 : decode cX5_survey 132 = .ok (.aload_n 0, 1) := by decide +kernel
theorem dX5_survey_133 : decode cX5_survey 133 = .ok (.getfield 48, 3) := by decide +kernel
theorem dX5_survey_136 : decode cX5_survey 136 = .ok (.getfield 84, 3) := by decide +kernel
theorem dX5_survey_139 : decode cX5_survey 139 = .ok (.invokestatic 87, 3) := by decide +kernel
theorem dX5_survey_142 : decode cX5_survey 142 = .ok (.goto 4, 3) := by decide +kernel
theorem dX5_survey_145 : decode cX5_survey 145 = .ok (.iconst (-1), 1) := by decide +kernel
theorem dX5_survey_146 : decode cX5_survey 146 = .ok (.iastore, 1) := by decide +kernel
theorem dX5_survey_147 : decode cX5_survey 147 = .ok (.iinc 3 1, 3) := by decide +kernel
theorem dX5_survey_150 : decode cX5_survey 150 = .ok (.goto (-69), 3) := by decide +kernel
theorem dX5_survey_153 : decode cX5_survey 153 = .ok (.aload_n 0, 1) := by decide +kernel
theorem dX5_survey_154 : decode cX5_survey 154 = .ok (.iconst 1, 1) := by decide +kernel
theorem dX5_survey_155 : decode cX5_survey 155 = .ok (.putfield 9, 3) := by decide +kernel
theorem dX5_survey_158 : decode cX5_survey 158 = .ok (.return_, 1) := by decide +kernel
theorem dX5_isPose_0 : decode cX5_isPose 0 = .ok (.iload_n 1, 1) := by decide +kernel
theorem dX5_isPose_1 : decode cX5_isPose 1 = .ok (.ifCond .lt 22, 3) := by decide +kernel
theorem dX5_isPose_4 : decode cX5_isPose 4 = .ok (.iload_n 1, 1) := by decide +kernel
theorem dX5_isPose_5 : decode cX5_isPose 5 = .ok (.aload_n 0, 1) := by decide +kernel
theorem dX5_isPose_6 : decode cX5_isPose 6 = .ok (.getfield 15, 3) := by decide +kernel
theorem dX5_isPose_9 : decode cX5_isPose 9 = .ok (.if_icmp .ge 14, 3) := by decide +kernel
theorem dX5_isPose_12 : decode cX5_isPose 12 = .ok (.iload_n 1, 1) := by decide +kernel
theorem dX5_isPose_13 : decode cX5_isPose 13 = .ok (.sipush 5000, 3) := by decide +kernel
theorem dX5_isPose_16 : decode cX5_isPose 16 = .ok (.if_icmp .ge 7, 3) := by decide +kernel
theorem dX5_isPose_19 : decode cX5_isPose 19 = .ok (.iconst 1, 1) := by decide +kernel
theorem dX5_isPose_20 : decode cX5_isPose 20 = .ok (.goto 4, 3) := by decide +kernel
theorem dX5_isPose_23 : decode cX5_isPose 23 = .ok (.iconst 0, 1) := by decide +kernel
theorem dX5_isPose_24 : decode cX5_isPose 24 = .ok (.ireturn, 1) := by decide +kernel
theorem dX5_tipOf_0 : decode cX5_tipOf 0 = .ok (.aload_n 0, 1) := by decide +kernel
theorem dX5_tipOf_1 : decode cX5_tipOf 1 = .ok (.iload_n 1, 1) := by decide +kernel
theorem dX5_tipOf_2 : decode cX5_tipOf 2 = .ok (.invokevirtual 90, 3) := by decide +kernel
theorem dX5_tipOf_5 : decode cX5_tipOf 5 = .ok (.ifCond .eq 12, 3) := by decide +kernel
theorem dX5_tipOf_8 : decode cX5_tipOf 8 = .ok (.aload_n 0, 1) := by decide +kernel
theorem dX5_tipOf_9 : decode cX5_tipOf 9 = .ok (.getfield 29, 3) := by decide +kernel
theorem dX5_tipOf_12 : decode cX5_tipOf 12 = .ok (.iload_n 1, 1) := by decide +kernel
theorem dX5_tipOf_13 : decode cX5_tipOf 13 = .ok (.iaload, 1) := by decide +kernel
theorem dX5_tipOf_14 : decode cX5_tipOf 14 = .ok (.goto 4, 3) := by decide +kernel
theorem dX5_tipOf_17 : decode cX5_tipOf 17 = .ok (.iconst (-1), 1) := by decide +kernel
theorem dX5_tipOf_18 : decode cX5_tipOf 18 = .ok (.ireturn, 1) := by decide +kernel
theorem dX5_isFree_0 : decode cX5_isFree 0 = .ok (.aload_n 0, 1) := by decide +kernel
theorem dX5_isFree_1 : decode cX5_isFree 1 = .ok (.iload_n 1, 1) := by decide +kernel
theorem dX5_isFree_2 : decode cX5_isFree 2 = .ok (.invokevirtual 94, 3) := by decide +kernel
theorem dX5_isFree_5 : decode cX5_isFree 5 = .ok (.ifCond .lt 7, 3) := by decide +kernel
theorem dX5_isFree_8 : decode cX5_isFree 8 = .ok (.iconst 1, 1) := by decide +kernel
theorem dX5_isFree_9 : decode cX5_isFree 9 = .ok (.goto 4, 3) := by decide +kernel
theorem dX5_isFree_12 : decode cX5_isFree 12 = .ok (.iconst 0, 1) := by decide +kernel
theorem dX5_isFree_13 : decode cX5_isFree 13 = .ok (.ireturn, 1) := by decide +kernel
theorem dX5_distanceOf_0 : decode cX5_distanceOf 0 = .ok (.aload_n 0, 1) := by decide +kernel
theorem dX5_distanceOf_1 : decode cX5_distanceOf 1 = .ok (.iload_n 1, 1) := by decide +kernel
theorem dX5_distanceOf_2 : decode cX5_distanceOf 2 = .ok (.invokevirtual 90, 3) := by decide +kernel
theorem dX5_distanceOf_5 : decode cX5_distanceOf 5 = .ok (.ifCond .eq 12, 3) := by decide +kernel
theorem dX5_distanceOf_8 : decode cX5_distanceOf 8 = .ok (.aload_n 0, 1) := by decide +kernel
theorem dX5_distanceOf_9 : decode cX5_distanceOf 9 = .ok (.getfield 32, 3) := by decide +kernel
theorem dX5_distanceOf_12 : decode cX5_distanceOf 12 = .ok (.iload_n 1, 1) := by decide +kernel
theorem dX5_distanceOf_13 : decode cX5_distanceOf 13 = .ok (.iaload, 1) := by decide +kernel
theorem dX5_distanceOf_14 : decode cX5_distanceOf 14 = .ok (.goto 4, 3) := by decide +kernel
theorem dX5_distanceOf_17 : decode cX5_distanceOf 17 = .ok (.iconst (-1), 1) := by decide +kernel
theorem dX5_distanceOf_18 : decode cX5_distanceOf 18 = .ok (.ireturn, 1) := by decide +kernel
theorem dX5_reachedPose_0 : decode cX5_reachedPose 0 = .ok (.iload_n 1, 1) := by decide +kernel
theorem dX5_reachedPose_1 : decode cX5_reachedPose 1 = .ok (.ifCond .lt 27, 3) := by decide +kernel
theorem dX5_reachedPose_4 : decode cX5_reachedPose 4 = .ok (.iload_n 1, 1) := by decide +kernel
theorem dX5_reachedPose_5 : decode cX5_reachedPose 5 = .ok (.aload_n 0, 1) := by decide +kernel
theorem dX5_reachedPose_6 : decode cX5_reachedPose 6 = .ok (.getfield 38, 3) := by decide +kernel
theorem dX5_reachedPose_9 : decode cX5_reachedPose 9 = .ok (.if_icmp .ge 19, 3) := by decide +kernel
theorem dX5_reachedPose_12 : decode cX5_reachedPose 12 = .ok (.iload_n 1, 1) := by decide +kernel
theorem dX5_reachedPose_13 : decode cX5_reachedPose 13 = .ok (.sipush 5000, 3) := by decide +kernel
theorem dX5_reachedPose_16 : decode cX5_reachedPose 16 = .ok (.if_icmp .ge 12, 3) := by decide +kernel
theorem dX5_reachedPose_19 : decode cX5_reachedPose 19 = .ok (.aload_n 0, 1) := by decide +kernel
theorem dX5_reachedPose_20 : decode cX5_reachedPose 20 = .ok (.getfield 35, 3) := by decide +kernel
theorem dX5_reachedPose_23 : decode cX5_reachedPose 23 = .ok (.iload_n 1, 1) := by decide +kernel
theorem dX5_reachedPose_24 : decode cX5_reachedPose 24 = .ok (.iaload, 1) := by decide +kernel
theorem dX5_reachedPose_25 : decode cX5_reachedPose 25 = .ok (.goto 4, 3) := by decide +kernel
theorem dX5_reachedPose_28 : decode cX5_reachedPose 28 = .ok (.iconst (-1), 1) := by decide +kernel
theorem dX5_reachedPose_29 : decode cX5_reachedPose 29 = .ok (.ireturn, 1) := by decide +kernel
theorem dX5_after_0 : decode cX5_after 0 = .ok (.iload_n 2, 1) := by decide +kernel
theorem dX5_after_1 : decode cX5_after 1 = .ok (.invokestatic 97, 3) := by decide +kernel
theorem dX5_after_4 : decode cX5_after 4 = .ok (.istore_n 3, 1) := by decide +kernel
theorem dX5_after_5 : decode cX5_after 5 = .ok (.aload_n 0, 1) := by decide +kernel
theorem dX5_after_6 : decode cX5_after 6 = .ok (.iload_n 1, 1) := by decide +kernel
theorem dX5_after_7 : decode cX5_after 7 = .ok (.invokevirtual 90, 3) := by decide +kernel
theorem dX5_after_10 : decode cX5_after 10 = .ok (.ifCond .eq 38, 3) := by decide +kernel
theorem dX5_after_13 : decode cX5_after 13 = .ok (.iload_n 3, 1) := by decide +kernel
theorem dX5_after_14 : decode cX5_after 14 = .ok (.ifCond .lt 34, 3) := by decide +kernel
theorem dX5_after_17 : decode cX5_after 17 = .ok (.iload_n 3, 1) := by decide +kernel
theorem dX5_after_18 : decode cX5_after 18 = .ok (.aload_n 0, 1) := by decide +kernel
theorem dX5_after_19 : decode cX5_after 19 = .ok (.getfield 19, 3) := by decide +kernel
theorem dX5_after_22 : decode cX5_after 22 = .ok (.if_icmp .ge 26, 3) := by decide +kernel
theorem dX5_after_25 : decode cX5_after 25 = .ok (.iload_n 3, 1) := by decide +kernel
theorem dX5_after_26 : decode cX5_after 26 = .ok (.iconst 4, 1) := by decide +kernel
theorem dX5_after_27 : decode cX5_after 27 = .ok (.if_icmp .ge 21, 3) := by decide +kernel
theorem dX5_after_30 : decode cX5_after 30 = .ok (.aload_n 0, 1) := by decide +kernel
theorem dX5_after_31 : decode cX5_after 31 = .ok (.getfield 26, 3) := by decide +kernel
theorem dX5_after_34 : decode cX5_after 34 = .ok (.iload_n 3, 1) := by decide +kernel
theorem dX5_after_35 : decode cX5_after 35 = .ok (.iaload, 1) := by decide +kernel
theorem dX5_after_36 : decode cX5_after 36 = .ok (.ifCond .le 12, 3) := by decide +kernel
theorem dX5_after_39 : decode cX5_after 39 = .ok (.aload_n 0, 1) := by decide +kernel
theorem dX5_after_40 : decode cX5_after 40 = .ok (.getfield 22, 3) := by decide +kernel
theorem dX5_after_43 : decode cX5_after 43 = .ok (.iload_n 3, 1) := by decide +kernel
theorem dX5_after_44 : decode cX5_after 44 = .ok (.iaload, 1) := by decide +kernel
theorem dX5_after_45 : decode cX5_after 45 = .ok (.ifCond .gt 5, 3) := by decide +kernel
theorem dX5_after_48 : decode cX5_after 48 = .ok (.iconst (-1), 1) := by decide +kernel
theorem dX5_after_49 : decode cX5_after 49 = .ok (.ireturn, 1) := by decide +kernel
theorem dX5_after_50 : decode cX5_after 50 = .ok (.iload_n 1, 1) := by decide +kernel
theorem dX5_after_51 : decode cX5_after 51 = .ok (.aload_n 0, 1) := by decide +kernel
theorem dX5_after_52 : decode cX5_after 52 = .ok (.getfield 26, 3) := by decide +kernel
theorem dX5_after_55 : decode cX5_after 55 = .ok (.iload_n 3, 1) := by decide +kernel
theorem dX5_after_56 : decode cX5_after 56 = .ok (.iaload, 1) := by decide +kernel
theorem dX5_after_57 : decode cX5_after 57 = .ok (.idiv, 1) := by decide +kernel
theorem dX5_after_58 : decode cX5_after 58 = .ok (.aload_n 0, 1) := by decide +kernel
theorem dX5_after_59 : decode cX5_after 59 = .ok (.getfield 22, 3) := by decide +kernel
theorem dX5_after_62 : decode cX5_after 62 = .ok (.iload_n 3, 1) := by decide +kernel
theorem dX5_after_63 : decode cX5_after 63 = .ok (.iaload, 1) := by decide +kernel
theorem dX5_after_64 : decode cX5_after 64 = .ok (.irem, 1) := by decide +kernel
theorem dX5_after_65 : decode cX5_after 65 = .ok (.iload_n 2, 1) := by decide +kernel
theorem dX5_after_66 : decode cX5_after 66 = .ok (.invokestatic 100, 3) := by decide +kernel
theorem dX5_after_69 : decode cX5_after 69 = .ok (.iadd, 1) := by decide +kernel
theorem dX5_after_70 : decode cX5_after 70 = .ok (.istore 4, 2) := by decide +kernel
theorem dX5_after_72 : decode cX5_after 72 = .ok (.iload 4, 2) := by decide +kernel
theorem dX5_after_74 : decode cX5_after 74 = .ok (.ifCond .lt 14, 3) := by decide +kernel
theorem dX5_after_77 : decode cX5_after 77 = .ok (.iload 4, 2) := by decide +kernel
theorem dX5_after_79 : decode cX5_after 79 = .ok (.aload_n 0, 1) := by decide +kernel
theorem dX5_after_80 : decode cX5_after 80 = .ok (.getfield 22, 3) := by decide +kernel
theorem dX5_after_83 : decode cX5_after 83 = .ok (.iload_n 3, 1) := by decide +kernel
theorem dX5_after_84 : decode cX5_after 84 = .ok (.iaload, 1) := by decide +kernel
theorem dX5_after_85 : decode cX5_after 85 = .ok (.if_icmp .lt 5, 3) := by decide +kernel
theorem dX5_after_88 : decode cX5_after 88 = .ok (.iconst (-1), 1) := by decide +kernel
theorem dX5_after_89 : decode cX5_after 89 = .ok (.ireturn, 1) := by decide +kernel
theorem dX5_after_90 : decode cX5_after 90 = .ok (.iload_n 1, 1) := by decide +kernel
theorem dX5_after_91 : decode cX5_after 91 = .ok (.iload_n 2, 1) := by decide +kernel
theorem dX5_after_92 : decode cX5_after 92 = .ok (.invokestatic 100, 3) := by decide +kernel
theorem dX5_after_95 : decode cX5_after 95 = .ok (.aload_n 0, 1) := by decide +kernel
theorem dX5_after_96 : decode cX5_after 96 = .ok (.getfield 26, 3) := by decide +kernel
theorem dX5_after_99 : decode cX5_after 99 = .ok (.iload_n 3, 1) := by decide +kernel
theorem dX5_after_100 : decode cX5_after 100 = .ok (.iaload, 1) := by decide +kernel
theorem dX5_after_101 : decode cX5_after 101 = .ok (.imul, 1) := by decide +kernel
theorem dX5_after_102 : decode cX5_after 102 = .ok (.iadd, 1) := by decide +kernel
theorem dX5_after_103 : decode cX5_after 103 = .ok (.istore 5, 2) := by decide +kernel
theorem dX5_after_105 : decode cX5_after 105 = .ok (.aload_n 0, 1) := by decide +kernel
theorem dX5_after_106 : decode cX5_after 106 = .ok (.iload 5, 2) := by decide +kernel
theorem dX5_after_108 : decode cX5_after 108 = .ok (.invokevirtual 90, 3) := by decide +kernel
theorem dX5_after_111 : decode cX5_after 111 = .ok (.ifCond .eq 18, 3) := by decide +kernel
theorem dX5_after_114 : decode cX5_after 114 = .ok (.aload_n 0, 1) := by decide +kernel
theorem dX5_after_115 : decode cX5_after 115 = .ok (.getfield 29, 3) := by decide +kernel
theorem dX5_after_118 : decode cX5_after 118 = .ok (.iload 5, 2) := by decide +kernel
theorem dX5_after_120 : decode cX5_after 120 = .ok (.iaload, 1) := by decide +kernel
theorem dX5_after_121 : decode cX5_after 121 = .ok (.ifCond .lt 8, 3) := by decide +kernel
theorem dX5_after_124 : decode cX5_after 124 = .ok (.iload 5, 2) := by decide +kernel
theorem dX5_after_126 : decode cX5_after 126 = .ok (.goto 4, 3) := by decide +kernel
theorem dX5_after_129 : decode cX5_after 129 = .ok (.iconst (-1), 1) := by decide +kernel
theorem dX5_after_130 : decode cX5_after 130 = .ok (.ireturn, 1) := by decide +kernel
theorem dX5_movesFrom_0 : decode cX5_movesFrom 0 = .ok (.iconst 0, 1) := by decide +kernel
theorem dX5_movesFrom_1 : decode cX5_movesFrom 1 = .ok (.istore_n 2, 1) := by decide +kernel
theorem dX5_movesFrom_2 : decode cX5_movesFrom 2 = .ok (.iconst 0, 1) := by decide +kernel
theorem dX5_movesFrom_3 : decode cX5_movesFrom 3 = .ok (.istore_n 3, 1) := by decide +kernel
theorem dX5_movesFrom_4 : decode cX5_movesFrom 4 = .ok (.iload_n 3, 1) := by decide +kernel
theorem dX5_movesFrom_5 : decode cX5_movesFrom 5 = .ok (.bipush 8, 2) := by decide +kernel
theorem dX5_movesFrom_7 : decode cX5_movesFrom 7 = .ok (.if_icmp .ge 21, 3) := by decide +kernel
theorem dX5_movesFrom_10 : decode cX5_movesFrom 10 = .ok (.aload_n 0, 1) := by decide +kernel
theorem dX5_movesFrom_11 : decode cX5_movesFrom 11 = .ok (.iload_n 1, 1) := by decide +kernel
theorem dX5_movesFrom_12 : decode cX5_movesFrom 12 = .ok (.iload_n 3, 1) := by decide +kernel
theorem dX5_movesFrom_13 : decode cX5_movesFrom 13 = .ok (.invokevirtual 103, 3) := by decide +kernel
theorem dX5_movesFrom_16 : decode cX5_movesFrom 16 = .ok (.ifCond .lt 6, 3) := by decide +kernel
theorem dX5_movesFrom_19 : decode cX5_movesFrom 19 = .ok (.iinc 2 1, 3) := by decide +kernel
theorem dX5_movesFrom_22 : decode cX5_movesFrom 22 = .ok (.iinc 3 1, 3) := by decide +kernel
theorem dX5_movesFrom_25 : decode cX5_movesFrom 25 = .ok (.goto (-21), 3) := by decide +kernel
theorem dX5_movesFrom_28 : decode cX5_movesFrom 28 = .ok (.iload_n 2, 1) := by decide +kernel
theorem dX5_movesFrom_29 : decode cX5_movesFrom 29 = .ok (.ireturn, 1) := by decide +kernel
theorem dX5_beginSearch_0 : decode cX5_beginSearch 0 = .ok (.aload_n 0, 1) := by decide +kernel
theorem dX5_beginSearch_1 : decode cX5_beginSearch 1 = .ok (.getfield 32, 3) := by decide +kernel
theorem dX5_beginSearch_4 : decode cX5_beginSearch 4 = .ok (.iconst (-1), 1) := by decide +kernel
theorem dX5_beginSearch_5 : decode cX5_beginSearch 5 = .ok (.invokestatic 106, 3) := by decide +kernel
theorem dX5_beginSearch_8 : decode cX5_beginSearch 8 = .ok (.aload_n 0, 1) := by decide +kernel
theorem dX5_beginSearch_9 : decode cX5_beginSearch 9 = .ok (.iconst 0, 1) := by decide +kernel
theorem dX5_beginSearch_10 : decode cX5_beginSearch 10 = .ok (.putfield 38, 3) := by decide +kernel
theorem dX5_beginSearch_13 : decode cX5_beginSearch 13 = .ok (.return_, 1) := by decide +kernel
theorem dX5_reach_0 : decode cX5_reach 0 = .ok (.aload_n 0, 1) := by decide +kernel
theorem dX5_reach_1 : decode cX5_reach 1 = .ok (.iload_n 1, 1) := by decide +kernel
theorem dX5_reach_2 : decode cX5_reach 2 = .ok (.invokevirtual 90, 3) := by decide +kernel
theorem dX5_reach_5 : decode cX5_reach 5 = .ok (.ifCond .eq 65, 3) := by decide +kernel
theorem dX5_reach_8 : decode cX5_reach 8 = .ok (.aload_n 0, 1) := by decide +kernel
theorem dX5_reach_9 : decode cX5_reach 9 = .ok (.getfield 29, 3) := by decide +kernel
theorem dX5_reach_12 : decode cX5_reach 12 = .ok (.iload_n 1, 1) := by decide +kernel
theorem dX5_reach_13 : decode cX5_reach 13 = .ok (.iaload, 1) := by decide +kernel
theorem dX5_reach_14 : decode cX5_reach 14 = .ok (.ifCond .lt 56, 3) := by decide +kernel
theorem dX5_reach_17 : decode cX5_reach 17 = .ok (.aload_n 0, 1) := by decide +kernel
theorem dX5_reach_18 : decode cX5_reach 18 = .ok (.getfield 32, 3) := by decide +kernel
theorem dX5_reach_21 : decode cX5_reach 21 = .ok (.iload_n 1, 1) := by decide +kernel
theorem dX5_reach_22 : decode cX5_reach 22 = .ok (.iaload, 1) := by decide +kernel
theorem dX5_reach_23 : decode cX5_reach 23 = .ok (.ifCond .ge 47, 3) := by decide +kernel
theorem dX5_reach_26 : decode cX5_reach 26 = .ok (.aload_n 0, 1) := by decide +kernel
theorem dX5_reach_27 : decode cX5_reach 27 = .ok (.getfield 38, 3) := by decide +kernel
theorem dX5_reach_30 : decode cX5_reach 30 = .ok (.ifCond .lt 40, 3) := by decide +kernel
theorem dX5_reach_33 : decode cX5_reach 33 = .ok (.aload_n 0, 1) := by decide +kernel
theorem dX5_reach_34 : decode cX5_reach 34 = .ok (.getfield 38, 3) := by decide +kernel
theorem dX5_reach_37 : decode cX5_reach 37 = .ok (.sipush 5000, 3) := by decide +kernel
theorem dX5_reach_40 : decode cX5_reach 40 = .ok (.if_icmp .ge 30, 3) := by decide +kernel
theorem dX5_reach_43 : decode cX5_reach 43 = .ok (.aload_n 0, 1) := by decide +kernel
theorem dX5_reach_44 : decode cX5_reach 44 = .ok (.getfield 32, 3) := by decide +kernel
theorem dX5_reach_47 : decode cX5_reach 47 = .ok (.iload_n 1, 1) := by decide +kernel
theorem dX5_reach_48 : decode cX5_reach 48 = .ok (.iload_n 2, 1) := by decide +kernel
theorem dX5_reach_49 : decode cX5_reach 49 = .ok (.iastore, 1) := by decide +kernel
theorem dX5_reach_50 : decode cX5_reach 50 = .ok (.aload_n 0, 1) := by decide +kernel
theorem dX5_reach_51 : decode cX5_reach 51 = .ok (.getfield 35, 3) := by decide +kernel
theorem dX5_reach_54 : decode cX5_reach 54 = .ok (.aload_n 0, 1) := by decide +kernel
theorem dX5_reach_55 : decode cX5_reach 55 = .ok (.getfield 38, 3) := by decide +kernel
theorem dX5_reach_58 : decode cX5_reach 58 = .ok (.iload_n 1, 1) := by decide +kernel
theorem dX5_reach_59 : decode cX5_reach 59 = .ok (.iastore, 1) := by decide +kernel
theorem dX5_reach_60 : decode cX5_reach 60 = .ok (.aload_n 0, 1) := by decide +kernel
theorem dX5_reach_61 : decode cX5_reach 61 = .ok (.dup, 1) := by decide +kernel
theorem dX5_reach_62 : decode cX5_reach 62 = .ok (.getfield 38, 3) := by decide +kernel
theorem dX5_reach_65 : decode cX5_reach 65 = .ok (.iconst 1, 1) := by decide +kernel
theorem dX5_reach_66 : decode cX5_reach 66 = .ok (.iadd, 1) := by decide +kernel
theorem dX5_reach_67 : decode cX5_reach 67 = .ok (.putfield 38, 3) := by decide +kernel
theorem dX5_reach_70 : decode cX5_reach 70 = .ok (.return_, 1) := by decide +kernel
theorem dX5_spread_0 : decode cX5_spread 0 = .ok (.iload_n 1, 1) := by decide +kernel
theorem dX5_spread_1 : decode cX5_spread 1 = .ok (.iconst 0, 1) := by decide +kernel
theorem dX5_spread_2 : decode cX5_spread 2 = .ok (.invokestatic 112, 3) := by decide +kernel
theorem dX5_spread_5 : decode cX5_spread 5 = .ok (.istore_n 2, 1) := by decide +kernel
theorem dX5_spread_6 : decode cX5_spread 6 = .ok (.iload_n 2, 1) := by decide +kernel
theorem dX5_spread_7 : decode cX5_spread 7 = .ok (.aload_n 0, 1) := by decide +kernel
theorem dX5_spread_8 : decode cX5_spread 8 = .ok (.getfield 38, 3) := by decide +kernel
theorem dX5_spread_11 : decode cX5_spread 11 = .ok (.if_icmp .ge 57, 3) := by decide +kernel
theorem dX5_spread_14 : decode cX5_spread 14 = .ok (.iload_n 2, 1) := by decide +kernel
theorem dX5_spread_15 : decode cX5_spread 15 = .ok (.sipush 5000, 3) := by decide +kernel
theorem dX5_spread_18 : decode cX5_spread 18 = .ok (.if_icmp .ge 50, 3) := by decide +kernel
theorem dX5_spread_21 : decode cX5_spread 21 = .ok (.aload_n 0, 1) := by decide +kernel
theorem dX5_spread_22 : decode cX5_spread 22 = .ok (.getfield 35, 3) := by decide +kernel
theorem dX5_spread_25 : decode cX5_spread 25 = .ok (.iload_n 2, 1) := by decide +kernel
theorem dX5_spread_26 : decode cX5_spread 26 = .ok (.iaload, 1) := by decide +kernel
theorem dX5_spread_27 : decode cX5_spread 27 = .ok (.istore_n 3, 1) := by decide +kernel
theorem dX5_spread_28 : decode cX5_spread 28 = .ok (.iconst 0, 1) := by decide +kernel
theorem dX5_spread_29 : decode cX5_spread 29 = .ok (.istore 4, 2) := by decide +kernel
theorem dX5_spread_31 : decode cX5_spread 31 = .ok (.iload 4, 2) := by decide +kernel
theorem dX5_spread_33 : decode cX5_spread 33 = .ok (.bipush 8, 2) := by decide +kernel
theorem dX5_spread_35 : decode cX5_spread 35 = .ok (.if_icmp .ge 27, 3) := by decide +kernel
theorem dX5_spread_38 : decode cX5_spread 38 = .ok (.aload_n 0, 1) := by decide +kernel
theorem dX5_spread_39 : decode cX5_spread 39 = .ok (.aload_n 0, 1) := by decide +kernel
theorem dX5_spread_40 : decode cX5_spread 40 = .ok (.iload_n 3, 1) := by decide +kernel
theorem dX5_spread_41 : decode cX5_spread 41 = .ok (.iload 4, 2) := by decide +kernel
theorem dX5_spread_43 : decode cX5_spread 43 = .ok (.invokevirtual 103, 3) := by decide +kernel
theorem dX5_spread_46 : decode cX5_spread 46 = .ok (.aload_n 0, 1) := by decide +kernel
theorem dX5_spread_47 : decode cX5_spread 47 = .ok (.iload_n 3, 1) := by decide +kernel
theorem dX5_spread_48 : decode cX5_spread 48 = .ok (.invokevirtual 115, 3) := by decide +kernel
theorem dX5_spread_51 : decode cX5_spread 51 = .ok (.iconst 1, 1) := by decide +kernel
theorem dX5_spread_52 : decode cX5_spread 52 = .ok (.iadd, 1) := by decide +kernel
theorem dX5_spread_53 : decode cX5_spread 53 = .ok (.invokevirtual 118, 3) := by decide +kernel
theorem dX5_spread_56 : decode cX5_spread 56 = .ok (.iinc 4 1, 3) := by decide +kernel
theorem dX5_spread_59 : decode cX5_spread 59 = .ok (.goto (-28), 3) := by decide +kernel
theorem dX5_spread_62 : decode cX5_spread 62 = .ok (.iinc 2 1, 3) := by decide +kernel
theorem dX5_spread_65 : decode cX5_spread 65 = .ok (.goto (-59), 3) := by decide +kernel
theorem dX5_spread_68 : decode cX5_spread 68 = .ok (.return_, 1) := by decide +kernel
theorem dX5_nearer_0 : decode cX5_nearer 0 = .ok (.aload_n 0, 1) := by decide +kernel
theorem dX5_nearer_1 : decode cX5_nearer 1 = .ok (.iload_n 1, 1) := by decide +kernel
theorem dX5_nearer_2 : decode cX5_nearer 2 = .ok (.iload_n 2, 1) := by decide +kernel
theorem dX5_nearer_3 : decode cX5_nearer 3 = .ok (.invokevirtual 103, 3) := by decide +kernel
theorem dX5_nearer_6 : decode cX5_nearer 6 = .ok (.istore_n 3, 1) := by decide +kernel
theorem dX5_nearer_7 : decode cX5_nearer 7 = .ok (.iload_n 3, 1) := by decide +kernel
theorem dX5_nearer_8 : decode cX5_nearer 8 = .ok (.ifCond .lt 22, 3) := by decide +kernel
theorem dX5_nearer_11 : decode cX5_nearer 11 = .ok (.aload_n 0, 1) := by decide +kernel
theorem dX5_nearer_12 : decode cX5_nearer 12 = .ok (.iload_n 3, 1) := by decide +kernel
theorem dX5_nearer_13 : decode cX5_nearer 13 = .ok (.invokevirtual 115, 3) := by decide +kernel
theorem dX5_nearer_16 : decode cX5_nearer 16 = .ok (.aload_n 0, 1) := by decide +kernel
theorem dX5_nearer_17 : decode cX5_nearer 17 = .ok (.iload_n 1, 1) := by decide +kernel
theorem dX5_nearer_18 : decode cX5_nearer 18 = .ok (.invokevirtual 115, 3) := by decide +kernel
theorem dX5_nearer_21 : decode cX5_nearer 21 = .ok (.iconst 1, 1) := by decide +kernel
theorem dX5_nearer_22 : decode cX5_nearer 22 = .ok (.isub, 1) := by decide +kernel
theorem dX5_nearer_23 : decode cX5_nearer 23 = .ok (.if_icmp .ne 7, 3) := by decide +kernel
theorem dX5_nearer_26 : decode cX5_nearer 26 = .ok (.iload_n 3, 1) := by decide +kernel
theorem dX5_nearer_27 : decode cX5_nearer 27 = .ok (.goto 4, 3) := by decide +kernel
theorem dX5_nearer_30 : decode cX5_nearer 30 = .ok (.iconst (-1), 1) := by decide +kernel
theorem dX5_nearer_31 : decode cX5_nearer 31 = .ok (.ireturn, 1) := by decide +kernel
theorem dX5_descend_0 : decode cX5_descend 0 = .ok (.aload_n 1, 1) := by decide +kernel
theorem dX5_descend_1 : decode cX5_descend 1 = .ok (.getfield 122, 3) := by decide +kernel
theorem dX5_descend_4 : decode cX5_descend 4 = .ok (.istore_n 2, 1) := by decide +kernel
theorem dX5_descend_5 : decode cX5_descend 5 = .ok (.aload_n 0, 1) := by decide +kernel
theorem dX5_descend_6 : decode cX5_descend 6 = .ok (.iload_n 2, 1) := by decide +kernel
theorem dX5_descend_7 : decode cX5_descend 7 = .ok (.invokevirtual 115, 3) := by decide +kernel
theorem dX5_descend_10 : decode cX5_descend 10 = .ok (.istore_n 3, 1) := by decide +kernel
theorem dX5_descend_11 : decode cX5_descend 11 = .ok (.iload_n 3, 1) := by decide +kernel
theorem dX5_descend_12 : decode cX5_descend 12 = .ok (.ifCond .le 49, 3) := by decide +kernel
theorem dX5_descend_15 : decode cX5_descend 15 = .ok (.iconst 0, 1) := by decide +kernel
theorem dX5_descend_16 : decode cX5_descend 16 = .ok (.istore 4, 2) := by decide +kernel
theorem dX5_descend_18 : decode cX5_descend 18 = .ok (.iload 4, 2) := by decide +kernel
theorem dX5_descend_20 : decode cX5_descend 20 = .ok (.bipush 7, 2) := by decide +kernel
theorem dX5_descend_22 : decode cX5_descend 22 = .ok (.if_icmp .ge 19, 3) := by decide +kernel
theorem dX5_descend_25 : decode cX5_descend 25 = .ok (.aload_n 0, 1) := by decide +kernel
theorem dX5_descend_26 : decode cX5_descend 26 = .ok (.iload_n 2, 1) := by decide +kernel
theorem dX5_descend_27 : decode cX5_descend 27 = .ok (.iload 4, 2) := by decide +kernel
theorem dX5_descend_29 : decode cX5_descend 29 = .ok (.invokevirtual 127, 3) := by decide +kernel
theorem dX5_descend_32 : decode cX5_descend 32 = .ok (.ifCond .ge 9, 3) := by decide +kernel
theorem dX5_descend_35 : decode cX5_descend 35 = .ok (.iinc 4 1, 3) := by decide +kernel
theorem dX5_descend_38 : decode cX5_descend 38 = .ok (.goto (-20), 3) := by decide +kernel
theorem dX5_descend_41 : decode cX5_descend 41 = .ok (.aload_n 1, 1) := by decide +kernel
theorem dX5_descend_42 : decode cX5_descend 42 = .ok (.iload 4, 2) := by decide +kernel
theorem dX5_descend_44 : decode cX5_descend 44 = .ok (.invokevirtual 130, 3) := by decide +kernel
theorem dX5_descend_47 : decode cX5_descend 47 = .ok (.aload_n 0, 1) := by decide +kernel
theorem dX5_descend_48 : decode cX5_descend 48 = .ok (.iload_n 2, 1) := by decide +kernel
theorem dX5_descend_49 : decode cX5_descend 49 = .ok (.iload 4, 2) := by decide +kernel
theorem dX5_descend_51 : decode cX5_descend 51 = .ok (.invokevirtual 127, 3) := by decide +kernel
theorem dX5_descend_54 : decode cX5_descend 54 = .ok (.istore_n 2, 1) := by decide +kernel
theorem dX5_descend_55 : decode cX5_descend 55 = .ok (.iinc 3 (-1), 3) := by decide +kernel
theorem dX5_descend_58 : decode cX5_descend 58 = .ok (.goto (-47), 3) := by decide +kernel
theorem dX5_descend_61 : decode cX5_descend 61 = .ok (.return_, 1) := by decide +kernel
theorem dX5_weighChanges_0 : decode cX5_weighChanges 0 = .ok (.iconst 0, 1) := by decide +kernel
theorem dX5_weighChanges_1 : decode cX5_weighChanges 1 = .ok (.istore_n 1, 1) := by decide +kernel
theorem dX5_weighChanges_2 : decode cX5_weighChanges 2 = .ok (.iload_n 1, 1) := by decide +kernel
theorem dX5_weighChanges_3 : decode cX5_weighChanges 3 = .ok (.aload_n 0, 1) := by decide +kernel
theorem dX5_weighChanges_4 : decode cX5_weighChanges 4 = .ok (.getfield 38, 3) := by decide +kernel
theorem dX5_weighChanges_7 : decode cX5_weighChanges 7 = .ok (.if_icmp .ge 62, 3) := by decide +kernel
theorem dX5_weighChanges_10 : decode cX5_weighChanges 10 = .ok (.iload_n 1, 1) := by decide +kernel
theorem dX5_weighChanges_11 : decode cX5_weighChanges 11 = .ok (.sipush 5000, 3) := by decide +kernel
theorem dX5_weighChanges_14 : decode cX5_weighChanges 14 = .ok (.if_icmp .ge 55, 3) := by decide +kernel
theorem dX5_weighChanges_17 : decode cX5_weighChanges 17 = .ok (.aload_n 0, 1) := by decide +kernel
theorem dX5_weighChanges_18 : decode cX5_weighChanges 18 = .ok (.getfield 35, 3) := by decide +kernel
theorem dX5_weighChanges_21 : decode cX5_weighChanges 21 = .ok (.iload_n 1, 1) := by decide +kernel
theorem dX5_weighChanges_22 : decode cX5_weighChanges 22 = .ok (.iaload, 1) := by decide +kernel
theorem dX5_weighChanges_23 : decode cX5_weighChanges 23 = .ok (.istore_n 2, 1) := by decide +kernel
theorem dX5_weighChanges_24 : decode cX5_weighChanges 24 = .ok (.iconst 0, 1) := by decide +kernel
theorem dX5_weighChanges_25 : decode cX5_weighChanges 25 = .ok (.istore_n 3, 1) := by decide +kernel
theorem dX5_weighChanges_26 : decode cX5_weighChanges 26 = .ok (.iload_n 3, 1) := by decide +kernel
theorem dX5_weighChanges_27 : decode cX5_weighChanges 27 = .ok (.bipush 8, 2) := by decide +kernel
theorem dX5_weighChanges_29 : decode cX5_weighChanges 29 = .ok (.if_icmp .ge 34, 3) := by decide +kernel
theorem dX5_weighChanges_32 : decode cX5_weighChanges 32 = .ok (.aload_n 0, 1) := by decide +kernel
theorem dX5_weighChanges_33 : decode cX5_weighChanges 33 = .ok (.iload_n 2, 1) := by decide +kernel
theorem dX5_weighChanges_34 : decode cX5_weighChanges 34 = .ok (.invokevirtual 90, 3) := by decide +kernel
theorem dX5_weighChanges_37 : decode cX5_weighChanges 37 = .ok (.ifCond .eq 26, 3) := by decide +kernel
theorem dX5_weighChanges_40 : decode cX5_weighChanges 40 = .ok (.aload_n 0, 1) := by decide +kernel
theorem dX5_weighChanges_41 : decode cX5_weighChanges 41 = .ok (.getfield 42, 3) := by decide +kernel
theorem dX5_weighChanges_44 : decode cX5_weighChanges 44 = .ok (.iload_n 2, 1) := by decide +kernel
theorem dX5_weighChanges_45 : decode cX5_weighChanges 45 = .ok (.bipush 8, 2) := by decide +kernel
theorem dX5_weighChanges_47 : decode cX5_weighChanges 47 = .ok (.imul, 1) := by decide +kernel
theorem dX5_weighChanges_48 : decode cX5_weighChanges 48 = .ok (.iload_n 3, 1) := by decide +kernel
theorem dX5_weighChanges_49 : decode cX5_weighChanges 49 = .ok (.iadd, 1) := by decide +kernel
theorem dX5_weighChanges_50 : decode cX5_weighChanges 50 = .ok (.aload_n 0, 1) := by decide +kernel
theorem dX5_weighChanges_51 : decode cX5_weighChanges 51 = .ok (.iload_n 2, 1) := by decide +kernel
theorem dX5_weighChanges_52 : decode cX5_weighChanges 52 = .ok (.iload_n 3, 1) := by decide +kernel
theorem dX5_weighChanges_53 : decode cX5_weighChanges 53 = .ok (.invokevirtual 134, 3) := by decide +kernel
theorem dX5_weighChanges_56 : decode cX5_weighChanges 56 = .ok (.iastore, 1) := by decide +kernel
theorem dX5_weighChanges_57 : decode cX5_weighChanges 57 = .ok (.iinc 3 1, 3) := by decide +kernel
theorem dX5_weighChanges_60 : decode cX5_weighChanges 60 = .ok (.goto (-34), 3) := by decide +kernel
theorem dX5_weighChanges_63 : decode cX5_weighChanges 63 = .ok (.iinc 1 1, 3) := by decide +kernel
theorem dX5_weighChanges_66 : decode cX5_weighChanges 66 = .ok (.goto (-64), 3) := by decide +kernel
theorem dX5_weighChanges_69 : decode cX5_weighChanges 69 = .ok (.return_, 1) := by decide +kernel
theorem dX5_weight_0 : decode cX5_weight 0 = .ok (.aload_n 0, 1) := by decide +kernel
theorem dX5_weight_1 : decode cX5_weight 1 = .ok (.iload_n 1, 1) := by decide +kernel
theorem dX5_weight_2 : decode cX5_weight 2 = .ok (.iload_n 2, 1) := by decide +kernel
theorem dX5_weight_3 : decode cX5_weight 3 = .ok (.invokevirtual 127, 3) := by decide +kernel
theorem dX5_weight_6 : decode cX5_weight 6 = .ok (.istore_n 3, 1) := by decide +kernel
theorem dX5_weight_7 : decode cX5_weight 7 = .ok (.iload_n 3, 1) := by decide +kernel
theorem dX5_weight_8 : decode cX5_weight 8 = .ok (.ifCond .ge 6, 3) := by decide +kernel
theorem dX5_weight_11 : decode cX5_weight 11 = .ok (.ldc 137, 2) := by decide +kernel
theorem dX5_weight_13 : decode cX5_weight 13 = .ok (.ireturn, 1) := by decide +kernel
theorem dX5_weight_14 : decode cX5_weight 14 = .ok (.aload_n 0, 1) := by decide +kernel
theorem dX5_weight_15 : decode cX5_weight 15 = .ok (.iload_n 3, 1) := by decide +kernel
theorem dX5_weight_16 : decode cX5_weight 16 = .ok (.invokevirtual 115, 3) := by decide +kernel
theorem dX5_weight_19 : decode cX5_weight 19 = .ok (.ifCond .ne 7, 3) := by decide +kernel
theorem dX5_weight_22 : decode cX5_weight 22 = .ok (.iconst 0, 1) := by decide +kernel
theorem dX5_weight_23 : decode cX5_weight 23 = .ok (.goto 15, 3) := by decide +kernel
theorem dX5_weight_26 : decode cX5_weight 26 = .ok (.aload_n 0, 1) := by decide +kernel
theorem dX5_weight_27 : decode cX5_weight 27 = .ok (.iload_n 3, 1) := by decide +kernel
theorem dX5_weight_28 : decode cX5_weight 28 = .ok (.aload_n 0, 1) := by decide +kernel
theorem dX5_weight_29 : decode cX5_weight 29 = .ok (.iload_n 3, 1) := by decide +kernel
theorem dX5_weight_30 : decode cX5_weight 30 = .ok (.iload_n 2, 1) := by decide +kernel
theorem dX5_weight_31 : decode cX5_weight 31 = .ok (.invokevirtual 138, 3) := by decide +kernel
theorem dX5_weight_34 : decode cX5_weight 34 = .ok (.iload_n 2, 1) := by decide +kernel
theorem dX5_weight_35 : decode cX5_weight 35 = .ok (.invokevirtual 141, 3) := by decide +kernel
theorem dX5_weight_38 : decode cX5_weight 38 = .ok (.ireturn, 1) := by decide +kernel
theorem dX5_weightBehind_0 : decode cX5_weightBehind 0 = .ok (.aload_n 0, 1) := by decide +kernel
theorem dX5_weightBehind_1 : decode cX5_weightBehind 1 = .ok (.iload_n 1, 1) := by decide +kernel
theorem dX5_weightBehind_2 : decode cX5_weightBehind 2 = .ok (.invokevirtual 90, 3) := by decide +kernel
theorem dX5_weightBehind_5 : decode cX5_weightBehind 5 = .ok (.ifCond .eq 13, 3) := by decide +kernel
theorem dX5_weightBehind_8 : decode cX5_weightBehind 8 = .ok (.iload_n 2, 1) := by decide +kernel
theorem dX5_weightBehind_9 : decode cX5_weightBehind 9 = .ok (.ifCond .lt 9, 3) := by decide +kernel
theorem dX5_weightBehind_12 : decode cX5_weightBehind 12 = .ok (.iload_n 2, 1) := by decide +kernel
theorem dX5_weightBehind_13 : decode cX5_weightBehind 13 = .ok (.bipush 8, 2) := by decide +kernel
theorem dX5_weightBehind_15 : decode cX5_weightBehind 15 = .ok (.if_icmp .lt 6, 3) := by decide +kernel
theorem dX5_weightBehind_18 : decode cX5_weightBehind 18 = .ok (.ldc 137, 2) := by decide +kernel
theorem dX5_weightBehind_20 : decode cX5_weightBehind 20 = .ok (.ireturn, 1) := by decide +kernel
theorem dX5_weightBehind_21 : decode cX5_weightBehind 21 = .ok (.aload_n 0, 1) := by decide +kernel
theorem dX5_weightBehind_22 : decode cX5_weightBehind 22 = .ok (.getfield 42, 3) := by decide +kernel
theorem dX5_weightBehind_25 : decode cX5_weightBehind 25 = .ok (.iload_n 1, 1) := by decide +kernel
theorem dX5_weightBehind_26 : decode cX5_weightBehind 26 = .ok (.bipush 8, 2) := by decide +kernel
theorem dX5_weightBehind_28 : decode cX5_weightBehind 28 = .ok (.imul, 1) := by decide +kernel
theorem dX5_weightBehind_29 : decode cX5_weightBehind 29 = .ok (.iload_n 2, 1) := by decide +kernel
theorem dX5_weightBehind_30 : decode cX5_weightBehind 30 = .ok (.iadd, 1) := by decide +kernel
theorem dX5_weightBehind_31 : decode cX5_weightBehind 31 = .ok (.iaload, 1) := by decide +kernel
theorem dX5_weightBehind_32 : decode cX5_weightBehind 32 = .ok (.iload_n 2, 1) := by decide +kernel
theorem dX5_weightBehind_33 : decode cX5_weightBehind 33 = .ok (.iload_n 3, 1) := by decide +kernel
theorem dX5_weightBehind_34 : decode cX5_weightBehind 34 = .ok (.if_icmp .ne 7, 3) := by decide +kernel
theorem dX5_weightBehind_37 : decode cX5_weightBehind 37 = .ok (.iconst 0, 1) := by decide +kernel
theorem dX5_weightBehind_38 : decode cX5_weightBehind 38 = .ok (.goto 4, 3) := by decide +kernel
theorem dX5_weightBehind_41 : decode cX5_weightBehind 41 = .ok (.iconst 1, 1) := by decide +kernel
theorem dX5_weightBehind_42 : decode cX5_weightBehind 42 = .ok (.iadd, 1) := by decide +kernel
theorem dX5_weightBehind_43 : decode cX5_weightBehind 43 = .ok (.ireturn, 1) := by decide +kernel
theorem dX5_smoothest_0 : decode cX5_smoothest 0 = .ok (.iconst 0, 1) := by decide +kernel
theorem dX5_smoothest_1 : decode cX5_smoothest 1 = .ok (.istore_n 3, 1) := by decide +kernel
theorem dX5_smoothest_2 : decode cX5_smoothest 2 = .ok (.iconst 1, 1) := by decide +kernel
theorem dX5_smoothest_3 : decode cX5_smoothest 3 = .ok (.istore 4, 2) := by decide +kernel
theorem dX5_smoothest_5 : decode cX5_smoothest 5 = .ok (.iload 4, 2) := by decide +kernel
theorem dX5_smoothest_7 : decode cX5_smoothest 7 = .ok (.bipush 8, 2) := by decide +kernel
theorem dX5_smoothest_9 : decode cX5_smoothest 9 = .ok (.if_icmp .ge 30, 3) := by decide +kernel
theorem dX5_smoothest_12 : decode cX5_smoothest 12 = .ok (.aload_n 0, 1) := by decide +kernel
theorem dX5_smoothest_13 : decode cX5_smoothest 13 = .ok (.iload_n 1, 1) := by decide +kernel
theorem dX5_smoothest_14 : decode cX5_smoothest 14 = .ok (.iload 4, 2) := by decide +kernel
theorem dX5_smoothest_16 : decode cX5_smoothest 16 = .ok (.iload_n 2, 1) := by decide +kernel
theorem dX5_smoothest_17 : decode cX5_smoothest 17 = .ok (.invokevirtual 141, 3) := by decide +kernel
theorem dX5_smoothest_20 : decode cX5_smoothest 20 = .ok (.aload_n 0, 1) := by decide +kernel
theorem dX5_smoothest_21 : decode cX5_smoothest 21 = .ok (.iload_n 1, 1) := by decide +kernel
theorem dX5_smoothest_22 : decode cX5_smoothest 22 = .ok (.iload_n 3, 1) := by decide +kernel
theorem dX5_smoothest_23 : decode cX5_smoothest 23 = .ok (.iload_n 2, 1) := by decide +kernel
theorem dX5_smoothest_24 : decode cX5_smoothest 24 = .ok (.invokevirtual 141, 3) := by decide +kernel
theorem dX5_smoothest_27 : decode cX5_smoothest 27 = .ok (.if_icmp .ge 6, 3) := by decide +kernel
theorem dX5_smoothest_30 : decode cX5_smoothest 30 = .ok (.iload 4, 2) := by decide +kernel
theorem dX5_smoothest_32 : decode cX5_smoothest 32 = .ok (.istore_n 3, 1) := by decide +kernel
theorem dX5_smoothest_33 : decode cX5_smoothest 33 = .ok (.iinc 4 1, 3) := by decide +kernel
theorem dX5_smoothest_36 : decode cX5_smoothest 36 = .ok (.goto (-31), 3) := by decide +kernel
theorem dX5_smoothest_39 : decode cX5_smoothest 39 = .ok (.iload_n 3, 1) := by decide +kernel
theorem dX5_smoothest_40 : decode cX5_smoothest 40 = .ok (.ireturn, 1) := by decide +kernel
theorem dX5_descendSmoothly_0 : decode cX5_descendSmoothly 0 = .ok (.aload_n 1, 1) := by decide +kernel
theorem dX5_descendSmoothly_1 : decode cX5_descendSmoothly 1 = .ok (.getfield 122, 3) := by decide +kernel
theorem dX5_descendSmoothly_4 : decode cX5_descendSmoothly 4 = .ok (.istore_n 2, 1) := by decide +kernel
theorem dX5_descendSmoothly_5 : decode cX5_descendSmoothly 5 = .ok (.iconst (-1), 1) := by decide +kernel
theorem dX5_descendSmoothly_6 : decode cX5_descendSmoothly 6 = .ok (.istore_n 3, 1) := by decide +kernel
theorem dX5_descendSmoothly_7 : decode cX5_descendSmoothly 7 = .ok (.aload_n 0, 1) := by decide +kernel
theorem dX5_descendSmoothly_8 : decode cX5_descendSmoothly 8 = .ok (.iload_n 2, 1) := by decide +kernel
theorem dX5_descendSmoothly_9 : decode cX5_descendSmoothly 9 = .ok (.invokevirtual 115, 3) := by decide +kernel
theorem dX5_descendSmoothly_12 : decode cX5_descendSmoothly 12 = .ok (.istore 4, 2) := by decide +kernel
theorem dX5_descendSmoothly_14 : decode cX5_descendSmoothly 14 = .ok (.iload 4, 2) := by decide +kernel
theorem dX5_descendSmoothly_16 : decode cX5_descendSmoothly 16 = .ok (.ifCond .le 28, 3) := by decide +kernel
theorem dX5_descendSmoothly_19 : decode cX5_descendSmoothly 19 = .ok (.aload_n 0, 1) := by decide +kernel
theorem dX5_descendSmoothly_20 : decode cX5_descendSmoothly 20 = .ok (.iload_n 2, 1) := by decide +kernel
theorem dX5_descendSmoothly_21 : decode cX5_descendSmoothly 21 = .ok (.iload_n 3, 1) := by decide +kernel
theorem dX5_descendSmoothly_22 : decode cX5_descendSmoothly 22 = .ok (.invokevirtual 138, 3) := by decide +kernel
theorem dX5_descendSmoothly_25 : decode cX5_descendSmoothly 25 = .ok (.istore_n 3, 1) := by decide +kernel
theorem dX5_descendSmoothly_26 : decode cX5_descendSmoothly 26 = .ok (.aload_n 1, 1) := by decide +kernel
theorem dX5_descendSmoothly_27 : decode cX5_descendSmoothly 27 = .ok (.iload_n 3, 1) := by decide +kernel
theorem dX5_descendSmoothly_28 : decode cX5_descendSmoothly 28 = .ok (.invokevirtual 130, 3) := by decide +kernel
theorem dX5_descendSmoothly_31 : decode cX5_descendSmoothly 31 = .ok (.aload_n 0, 1) := by decide +kernel
theorem dX5_descendSmoothly_32 : decode cX5_descendSmoothly 32 = .ok (.iload_n 2, 1) := by decide +kernel
theorem dX5_descendSmoothly_33 : decode cX5_descendSmoothly 33 = .ok (.iload_n 3, 1) := by decide +kernel
theorem dX5_descendSmoothly_34 : decode cX5_descendSmoothly 34 = .ok (.invokevirtual 127, 3) := by decide +kernel
theorem dX5_descendSmoothly_37 : decode cX5_descendSmoothly 37 = .ok (.istore_n 2, 1) := by decide +kernel
theorem dX5_descendSmoothly_38 : decode cX5_descendSmoothly 38 = .ok (.iinc 4 (-1), 3) := by decide +kernel
theorem dX5_descendSmoothly_41 : decode cX5_descendSmoothly 41 = .ok (.goto (-27), 3) := by decide +kernel
theorem dX5_descendSmoothly_44 : decode cX5_descendSmoothly 44 = .ok (.return_, 1) := by decide +kernel
theorem dX6_init_0 : decode cX6_init 0 = .ok (.aload_n 0, 1) := by decide +kernel
theorem dX6_init_1 : decode cX6_init 1 = .ok (.invokespecial 3, 3) := by decide +kernel
theorem dX6_init_4 : decode cX6_init 4 = .ok (.aload_n 0, 1) := by decide +kernel
theorem dX6_init_5 : decode cX6_init 5 = .ok (.iconst 0, 1) := by decide +kernel
theorem dX6_init_6 : decode cX6_init 6 = .ok (.putfield 9, 3) := by decide +kernel
theorem dX6_init_9 : decode cX6_init 9 = .ok (.aload_n 0, 1) := by decide +kernel
theorem dX6_init_10 : decode cX6_init 10 = .ok (.iconst 0, 1) := by decide +kernel
theorem dX6_init_11 : decode cX6_init 11 = .ok (.putfield 15, 3) := by decide +kernel
theorem dX6_init_14 : decode cX6_init 14 = .ok (.aload_n 0, 1) := by decide +kernel
theorem dX6_init_15 : decode cX6_init 15 = .ok (.iconst 0, 1) := by decide +kernel
theorem dX6_init_16 : decode cX6_init 16 = .ok (.putfield 18, 3) := by decide +kernel
theorem dX6_init_19 : decode cX6_init 19 = .ok (.aload_n 0, 1) := by decide +kernel
theorem dX6_init_20 : decode cX6_init 20 = .ok (.iconst 0, 1) := by decide +kernel
theorem dX6_init_21 : decode cX6_init 21 = .ok (.putfield 21, 3) := by decide +kernel
theorem dX6_init_24 : decode cX6_init 24 = .ok (.aload_n 0, 1) := by decide +kernel
theorem dX6_init_25 : decode cX6_init 25 = .ok (.iconst 4, 1) := by decide +kernel
theorem dX6_init_26 : decode cX6_init 26 = .ok (.newarray .int, 2) := by decide +kernel
theorem dX6_init_28 : decode cX6_init 28 = .ok (.putfield 24, 3) := by decide +kernel
theorem dX6_init_31 : decode cX6_init 31 = .ok (.aload_n 0, 1) := by decide +kernel
theorem dX6_init_32 : decode cX6_init 32 = .ok (.iconst 4, 1) := by decide +kernel
theorem dX6_init_33 : decode cX6_init 33 = .ok (.newarray .int, 2) := by decide +kernel
theorem dX6_init_35 : decode cX6_init 35 = .ok (.putfield 28, 3) := by decide +kernel
theorem dX6_init_38 : decode cX6_init 38 = .ok (.aload_n 0, 1) := by decide +kernel
theorem dX6_init_39 : decode cX6_init 39 = .ok (.iconst 4, 1) := by decide +kernel
theorem dX6_init_40 : decode cX6_init 40 = .ok (.newarray .int, 2) := by decide +kernel
theorem dX6_init_42 : decode cX6_init 42 = .ok (.putfield 31, 3) := by decide +kernel
theorem dX6_init_45 : decode cX6_init 45 = .ok (.aload_n 0, 1) := by decide +kernel
theorem dX6_init_46 : decode cX6_init 46 = .ok (.bipush 21, 2) := by decide +kernel
theorem dX6_init_48 : decode cX6_init 48 = .ok (.newarray .int, 2) := by decide +kernel
theorem dX6_init_50 : decode cX6_init 50 = .ok (.putfield 34, 3) := by decide +kernel
theorem dX6_init_53 : decode cX6_init 53 = .ok (.return_, 1) := by decide +kernel
theorem dX6_along_0 : decode cX6_along 0 = .ok (.aload_n 0, 1) := by decide +kernel
theorem dX6_along_1 : decode cX6_along 1 = .ok (.iconst 0, 1) := by decide +kernel
theorem dX6_along_2 : decode cX6_along 2 = .ok (.putfield 9, 3) := by decide +kernel
theorem dX6_along_5 : decode cX6_along 5 = .ok (.aload_n 0, 1) := by decide +kernel
theorem dX6_along_6 : decode cX6_along 6 = .ok (.iconst 0, 1) := by decide +kernel
theorem dX6_along_7 : decode cX6_along 7 = .ok (.putfield 15, 3) := by decide +kernel
theorem dX6_along_10 : decode cX6_along 10 = .ok (.aload_n 0, 1) := by decide +kernel
theorem dX6_along_11 : decode cX6_along 11 = .ok (.iconst 0, 1) := by decide +kernel
theorem dX6_along_12 : decode cX6_along 12 = .ok (.putfield 18, 3) := by decide +kernel
theorem dX6_along_15 : decode cX6_along 15 = .ok (.aload_n 0, 1) := by decide +kernel
theorem dX6_along_16 : decode cX6_along 16 = .ok (.iconst 0, 1) := by decide +kernel
theorem dX6_along_17 : decode cX6_along 17 = .ok (.putfield 21, 3) := by decide +kernel
theorem dX6_along_20 : decode cX6_along 20 = .ok (.aload_n 0, 1) := by decide +kernel
theorem dX6_along_21 : decode cX6_along 21 = .ok (.getfield 34, 3) := by decide +kernel
theorem dX6_along_24 : decode cX6_along 24 = .ok (.iconst 0, 1) := by decide +kernel
theorem dX6_along_25 : decode cX6_along 25 = .ok (.invokestatic 37, 3) := by decide +kernel
theorem dX6_along_28 : decode cX6_along 28 = .ok (.aload_n 0, 1) := by decide +kernel
theorem dX6_along_29 : decode cX6_along 29 = .ok (.getfield 34, 3) := by decide +kernel
theorem dX6_along_32 : decode cX6_along 32 = .ok (.bipush 10, 2) := by decide +kernel
theorem dX6_along_34 : decode cX6_along 34 = .ok (.sipush 1024, 3) := by decide +kernel
theorem dX6_along_37 : decode cX6_along 37 = .ok (.iastore, 1) := by decide +kernel
theorem dX6_along_38 : decode cX6_along 38 = .ok (.iconst 0, 1) := by decide +kernel
theorem dX6_along_39 : decode cX6_along 39 = .ok (.istore_n 3, 1) := by decide +kernel
theorem dX6_along_40 : decode cX6_along 40 = .ok (.iconst 0, 1) := by decide +kernel
theorem dX6_along_41 : decode cX6_along 41 = .ok (.istore 4, 2) := by decide +kernel
theorem dX6_along_43 : decode cX6_along 43 = .ok (.iload 4, 2) := by decide +kernel
theorem dX6_along_45 : decode cX6_along 45 = .ok (.aload_n 1, 1) := by decide +kernel
theorem dX6_along_46 : decode cX6_along 46 = .ok (.getfield 43, 3) := by decide +kernel
theorem dX6_along_49 : decode cX6_along 49 = .ok (.if_icmp .ge 118, 3) := by decide +kernel
theorem dX6_along_52 : decode cX6_along 52 = .ok (.iload 4, 2) := by decide +kernel
theorem dX6_along_54 : decode cX6_along 54 = .ok (.iconst 4, 1) := by decide +kernel
theorem dX6_along_55 : decode cX6_along 55 = .ok (.if_icmp .ge 112, 3) := by decide +kernel
theorem dX6_along_58 : decode cX6_along 58 = .ok (.iload 4, 2) := by decide +kernel
theorem dX6_along_60 : decode cX6_along 60 = .ok (.aload_n 2, 1) := by decide +kernel
theorem dX6_along_61 : decode cX6_along 61 = .ok (.arraylength, 1) := by decide +kernel
theorem dX6_along_62 : decode cX6_along 62 = .ok (.if_icmp .ge 105, 3) := by decide +kernel
theorem dX6_along_65 : decode cX6_along 65 = .ok (.iload_n 3, 1) := by decide +kernel
theorem dX6_along_66 : decode cX6_along 66 = .ok (.aload_n 2, 1) := by decide +kernel
theorem dX6_along_67 : decode cX6_along 67 = .ok (.iload 4, 2) := by decide +kernel
theorem dX6_along_69 : decode cX6_along 69 = .ok (.iaload, 1) := by decide +kernel
theorem dX6_along_70 : decode cX6_along 70 = .ok (.iadd, 1) := by decide +kernel
theorem dX6_along_71 : decode cX6_along 71 = .ok (.bipush 7, 2) := by decide +kernel
theorem dX6_along_73 : decode cX6_along 73 = .ok (.iand, 1) := by decide +kernel
theorem dX6_along_74 : decode cX6_along 74 = .ok (.istore_n 3, 1) := by decide +kernel
theorem dX6_along_75 : decode cX6_along 75 = .ok (.aload_n 0, 1) := by decide +kernel
theorem dX6_along_76 : decode cX6_along 76 = .ok (.getfield 31, 3) := by decide +kernel
theorem dX6_along_79 : decode cX6_along 79 = .ok (.iload 4, 2) := by decide +kernel
theorem dX6_along_81 : decode cX6_along 81 = .ok (.iload_n 3, 1) := by decide +kernel
theorem dX6_along_82 : decode cX6_along 82 = .ok (.iastore, 1) := by decide +kernel
theorem dX6_along_83 : decode cX6_along 83 = .ok (.aload_n 0, 1) := by decide +kernel
theorem dX6_along_84 : decode cX6_along 84 = .ok (.getfield 24, 3) := by decide +kernel
theorem dX6_along_87 : decode cX6_along 87 = .ok (.iload 4, 2) := by decide +kernel
theorem dX6_along_89 : decode cX6_along 89 = .ok (.aload_n 0, 1) := by decide +kernel
theorem dX6_along_90 : decode cX6_along 90 = .ok (.getfield 18, 3) := by decide +kernel
theorem dX6_along_93 : decode cX6_along 93 = .ok (.iastore, 1) := by decide +kernel
theorem dX6_along_94 : decode cX6_along 94 = .ok (.aload_n 0, 1) := by decide +kernel
theorem dX6_along_95 : decode cX6_along 95 = .ok (.getfield 28, 3) := by decide +kernel
theorem dX6_along_98 : decode cX6_along 98 = .ok (.iload 4, 2) := by decide +kernel
theorem dX6_along_100 : decode cX6_along 100 = .ok (.aload_n 0, 1) := by decide +kernel
theorem dX6_along_101 : decode cX6_along 101 = .ok (.getfield 21, 3) := by decide +kernel
theorem dX6_along_104 : decode cX6_along 104 = .ok (.iastore, 1) := by decide +kernel
theorem dX6_along_105 : decode cX6_along 105 = .ok (.iconst 0, 1) := by decide +kernel
theorem dX6_along_106 : decode cX6_along 106 = .ok (.istore 5, 2) := by decide +kernel
theorem dX6_along_108 : decode cX6_along 108 = .ok (.iload 5, 2) := by decide +kernel
theorem dX6_along_110 : decode cX6_along 110 = .ok (.aload_n 1, 1) := by decide +kernel
theorem dX6_along_111 : decode cX6_along 111 = .ok (.getfield 48, 3) := by decide +kernel
theorem dX6_along_114 : decode cX6_along 114 = .ok (.iload 4, 2) := by decide +kernel
theorem dX6_along_116 : decode cX6_along 116 = .ok (.iaload, 1) := by decide +kernel
theorem dX6_along_117 : decode cX6_along 117 = .ok (.if_icmp .ge 44, 3) := by decide +kernel
theorem dX6_along_120 : decode cX6_along 120 = .ok (.aload_n 0, 1) := by decide +kernel
theorem dX6_along_121 : decode cX6_along 121 = .ok (.dup, 1) := by decide +kernel
theorem dX6_along_122 : decode cX6_along 122 = .ok (.getfield 18, 3) := by decide +kernel
theorem dX6_along_125 : decode cX6_along 125 = .ok (.getstatic 51, 3) := by decide +kernel
theorem dX6_along_128 : decode cX6_along 128 = .ok (.iload_n 3, 1) := by decide +kernel
theorem dX6_along_129 : decode cX6_along 129 = .ok (.iaload, 1) := by decide +kernel
theorem dX6_along_130 : decode cX6_along 130 = .ok (.iadd, 1) := by decide +kernel
theorem dX6_along_131 : decode cX6_along 131 = .ok (.putfield 18, 3) := by decide +kernel
theorem dX6_along_134 : decode cX6_along 134 = .ok (.aload_n 0, 1) := by decide +kernel
theorem dX6_along_135 : decode cX6_along 135 = .ok (.dup, 1) := by decide +kernel
theorem dX6_along_136 : decode cX6_along 136 = .ok (.getfield 21, 3) := by decide +kernel
theorem dX6_along_139 : decode cX6_along 139 = .ok (.getstatic 54, 3) := by decide +kernel
theorem dX6_along_142 : decode cX6_along 142 = .ok (.iload_n 3, 1) := by decide +kernel
theorem dX6_along_143 : decode cX6_along 143 = .ok (.iaload, 1) := by decide +kernel
theorem dX6_along_144 : decode cX6_along 144 = .ok (.iadd, 1) := by decide +kernel
theorem dX6_along_145 : decode cX6_along 145 = .ok (.putfield 21, 3) := by decide +kernel
theorem dX6_along_148 : decode cX6_along 148 = .ok (.aload_n 0, 1) := by decide +kernel
theorem dX6_along_149 : decode cX6_along 149 = .ok (.aload_n 1, 1) := by decide +kernel
theorem dX6_along_150 : decode cX6_along 150 = .ok (.iload 4, 2) := by decide +kernel
theorem dX6_along_152 : decode cX6_along 152 = .ok (.invokevirtual 57, 3) := by decide +kernel
theorem dX6_along_155 : decode cX6_along 155 = .ok (.iinc 5 1, 3) := by decide +kernel
theorem dX6_along_158 : decode cX6_along 158 = .ok (.goto (-50), 3) := by decide +kernel
theorem dX6_along_161 : decode cX6_along 161 = .ok (.iinc 4 1, 3) := by decide +kernel
theorem dX6_along_164 : decode cX6_along 164 = .ok (.goto (-121), 3) := by decide +kernel
theorem dX6_along_167 : decode cX6_along 167 = .ok (.return_, 1) := by decide +kernel
theorem dX6_enterCell_0 : decode cX6_enterCell 0 = .ok (.aload_n 0, 1) := by decide +kernel
theorem dX6_enterCell_1 : decode cX6_enterCell 1 = .ok (.getfield 18, 3) := by decide +kernel
theorem dX6_enterCell_4 : decode cX6_enterCell 4 = .ok (.aload_n 0, 1) := by decide +kernel
theorem dX6_enterCell_5 : decode cX6_enterCell 5 = .ok (.getfield 21, 3) := by decide +kernel
theorem dX6_enterCell_8 : decode cX6_enterCell 8 = .ok (.invokestatic 61, 3) := by decide +kernel
theorem dX6_enterCell_11 : decode cX6_enterCell 11 = .ok (.ifCond .ne 10, 3) := by decide +kernel
theorem dX6_enterCell_14 : decode cX6_enterCell 14 = .ok (.aload_n 0, 1) := by decide +kernel
theorem dX6_enterCell_15 : decode cX6_enterCell 15 = .ok (.iconst 1, 1) := by decide +kernel
theorem dX6_enterCell_16 : decode cX6_enterCell 16 = .ok (.iload_n 2, 1) := by decide +kernel
theorem dX6_enterCell_17 : decode cX6_enterCell 17 = .ok (.invokevirtual 65, 3) := by decide +kernel
theorem dX6_enterCell_20 : decode cX6_enterCell 20 = .ok (.return_, 1) := by decide +kernel
theorem dX6_enterCell_21 : decode cX6_enterCell 21 = .ok (.aload_n 0, 1) := by decide +kernel
theorem dX6_enterCell_22 : decode cX6_enterCell 22 = .ok (.getfield 21, 3) := by decide +kernel
theorem dX6_enterCell_25 : decode cX6_enterCell 25 = .ok (.bipush 10, 2) := by decide +kernel
theorem dX6_enterCell_27 : decode cX6_enterCell 27 = .ok (.iadd, 1) := by decide +kernel
theorem dX6_enterCell_28 : decode cX6_enterCell 28 = .ok (.istore_n 3, 1) := by decide +kernel
theorem dX6_enterCell_29 : decode cX6_enterCell 29 = .ok (.iconst 1, 1) := by decide +kernel
theorem dX6_enterCell_30 : decode cX6_enterCell 30 = .ok (.aload_n 0, 1) := by decide +kernel
theorem dX6_enterCell_31 : decode cX6_enterCell 31 = .ok (.getfield 18, 3) := by decide +kernel
theorem dX6_enterCell_34 : decode cX6_enterCell 34 = .ok (.bipush 10, 2) := by decide +kernel
theorem dX6_enterCell_36 : decode cX6_enterCell 36 = .ok (.iadd, 1) := by decide +kernel
theorem dX6_enterCell_37 : decode cX6_enterCell 37 = .ok (.ishl, 1) := by decide +kernel
theorem dX6_enterCell_38 : decode cX6_enterCell 38 = .ok (.istore 4, 2) := by decide +kernel
theorem dX6_enterCell_40 : decode cX6_enterCell 40 = .ok (.aload_n 1, 1) := by decide +kernel
theorem dX6_enterCell_41 : decode cX6_enterCell 41 = .ok (.getfield 69, 3) := by decide +kernel
theorem dX6_enterCell_44 : decode cX6_enterCell 44 = .ok (.iload_n 3, 1) := by decide +kernel
theorem dX6_enterCell_45 : decode cX6_enterCell 45 = .ok (.iaload, 1) := by decide +kernel
theorem dX6_enterCell_46 : decode cX6_enterCell 46 = .ok (.iload 4, 2) := by decide +kernel
theorem dX6_enterCell_48 : decode cX6_enterCell 48 = .ok (.iand, 1) := by decide +kernel
theorem dX6_enterCell_49 : decode cX6_enterCell 49 = .ok (.ifCond .eq 12, 3) := by decide +kernel
theorem dX6_enterCell_52 : decode cX6_enterCell 52 = .ok (.aload_n 0, 1) := by decide +kernel
theorem dX6_enterCell_53 : decode cX6_enterCell 53 = .ok (.iconst 2, 1) := by decide +kernel
theorem dX6_enterCell_54 : decode cX6_enterCell 54 = .ok (.iload_n 2, 1) := by decide +kernel
theorem dX6_enterCell_55 : decode cX6_enterCell 55 = .ok (.invokevirtual 65, 3) := by decide +kernel
theorem dX6_enterCell_58 : decode cX6_enterCell 58 = .ok (.goto 21, 3) := by decide +kernel
theorem dX6_enterCell_61 : decode cX6_enterCell 61 = .ok (.aload_n 0, 1) := by decide +kernel
theorem dX6_enterCell_62 : decode cX6_enterCell 62 = .ok (.getfield 34, 3) := by decide +kernel
theorem dX6_enterCell_65 : decode cX6_enterCell 65 = .ok (.iload_n 3, 1) := by decide +kernel
theorem dX6_enterCell_66 : decode cX6_enterCell 66 = .ok (.iaload, 1) := by decide +kernel
theorem dX6_enterCell_67 : decode cX6_enterCell 67 = .ok (.iload 4, 2) := by decide +kernel
theorem dX6_enterCell_69 : decode cX6_enterCell 69 = .ok (.iand, 1) := by decide +kernel
theorem dX6_enterCell_70 : decode cX6_enterCell 70 = .ok (.ifCond .eq 9, 3) := by decide +kernel
theorem dX6_enterCell_73 : decode cX6_enterCell 73 = .ok (.aload_n 0, 1) := by decide +kernel
theorem dX6_enterCell_74 : decode cX6_enterCell 74 = .ok (.iconst 3, 1) := by decide +kernel
theorem dX6_enterCell_75 : decode cX6_enterCell 75 = .ok (.iload_n 2, 1) := by decide +kernel
theorem dX6_enterCell_76 : decode cX6_enterCell 76 = .ok (.invokevirtual 65, 3) := by decide +kernel
theorem dX6_enterCell_79 : decode cX6_enterCell 79 = .ok (.aload_n 0, 1) := by decide +kernel
theorem dX6_enterCell_80 : decode cX6_enterCell 80 = .ok (.getfield 34, 3) := by decide +kernel
theorem dX6_enterCell_83 : decode cX6_enterCell 83 = .ok (.iload_n 3, 1) := by decide +kernel
theorem dX6_enterCell_84 : decode cX6_enterCell 84 = .ok (.dup2, 1) := by decide +kernel
theorem dX6_enterCell_85 : decode cX6_enterCell 85 = .ok (.iaload, 1) := by decide +kernel
theorem dX6_enterCell_86 : decode cX6_enterCell 86 = .ok (.iload 4, 2) := by decide +kernel
theorem dX6_enterCell_88 : decode cX6_enterCell 88 = .ok (.ior, 1) := by decide +kernel
theorem dX6_enterCell_89 : decode cX6_enterCell 89 = .ok (.iastore, 1) := by decide +kernel
theorem dX6_enterCell_90 : decode cX6_enterCell 90 = .ok (.return_, 1) := by decide +kernel
theorem dX6_note_0 : decode cX6_note 0 = .ok (.aload_n 0, 1) := by decide +kernel
theorem dX6_note_1 : decode cX6_note 1 = .ok (.getfield 9, 3) := by decide +kernel
theorem dX6_note_4 : decode cX6_note 4 = .ok (.ifCond .eq 11, 3) := by decide +kernel
theorem dX6_note_7 : decode cX6_note 7 = .ok (.iload_n 1, 1) := by decide +kernel
theorem dX6_note_8 : decode cX6_note 8 = .ok (.aload_n 0, 1) := by decide +kernel
theorem dX6_note_9 : decode cX6_note 9 = .ok (.getfield 9, 3) := by decide +kernel
theorem dX6_note_12 : decode cX6_note 12 = .ok (.if_icmp .ge 13, 3) := by decide +kernel
theorem dX6_note_15 : decode cX6_note 15 = .ok (.aload_n 0, 1) := by decide +kernel
theorem dX6_note_16 : decode cX6_note 16 = .ok (.iload_n 1, 1) := by decide +kernel
theorem dX6_note_17 : decode cX6_note 17 = .ok (.putfield 9, 3) := by decide +kernel
theorem dX6_note_20 : decode cX6_note 20 = .ok (.aload_n 0, 1) := by decide +kernel
theorem dX6_note_21 : decode cX6_note 21 = .ok (.iload_n 2, 1) := by decide +kernel
theorem dX6_note_22 : decode cX6_note 22 = .ok (.putfield 15, 3) := by decide +kernel
theorem dX6_note_25 : decode cX6_note 25 = .ok (.return_, 1) := by decide +kernel
theorem dX6_cellX_0 : decode cX6_cellX 0 = .ok (.iload_n 1, 1) := by decide +kernel
theorem dX6_cellX_1 : decode cX6_cellX 1 = .ok (.ifCond .lt 33, 3) := by decide +kernel
theorem dX6_cellX_4 : decode cX6_cellX 4 = .ok (.iload_n 1, 1) := by decide +kernel
theorem dX6_cellX_5 : decode cX6_cellX 5 = .ok (.iconst 4, 1) := by decide +kernel
theorem dX6_cellX_6 : decode cX6_cellX 6 = .ok (.if_icmp .ge 28, 3) := by decide +kernel
theorem dX6_cellX_9 : decode cX6_cellX 9 = .ok (.aload_n 0, 1) := by decide +kernel
theorem dX6_cellX_10 : decode cX6_cellX 10 = .ok (.getfield 24, 3) := by decide +kernel
theorem dX6_cellX_13 : decode cX6_cellX 13 = .ok (.iload_n 1, 1) := by decide +kernel
theorem dX6_cellX_14 : decode cX6_cellX 14 = .ok (.iaload, 1) := by decide +kernel
theorem dX6_cellX_15 : decode cX6_cellX 15 = .ok (.iload_n 2, 1) := by decide +kernel
theorem dX6_cellX_16 : decode cX6_cellX 16 = .ok (.getstatic 51, 3) := by decide +kernel
theorem dX6_cellX_19 : decode cX6_cellX 19 = .ok (.aload_n 0, 1) := by decide +kernel
theorem dX6_cellX_20 : decode cX6_cellX 20 = .ok (.getfield 31, 3) := by decide +kernel
theorem dX6_cellX_23 : decode cX6_cellX 23 = .ok (.iload_n 1, 1) := by decide +kernel
theorem dX6_cellX_24 : decode cX6_cellX 24 = .ok (.iaload, 1) := by decide +kernel
theorem dX6_cellX_25 : decode cX6_cellX 25 = .ok (.bipush 7, 2) := by decide +kernel
theorem dX6_cellX_27 : decode cX6_cellX 27 = .ok (.iand, 1) := by decide +kernel
theorem dX6_cellX_28 : decode cX6_cellX 28 = .ok (.iaload, 1) := by decide +kernel
theorem dX6_cellX_29 : decode cX6_cellX 29 = .ok (.imul, 1) := by decide +kernel
theorem dX6_cellX_30 : decode cX6_cellX 30 = .ok (.iadd, 1) := by decide +kernel
theorem dX6_cellX_31 : decode cX6_cellX 31 = .ok (.goto 4, 3) := by decide +kernel
theorem dX6_cellX_34 : decode cX6_cellX 34 = .ok (.iconst 0, 1) := by decide +kernel
theorem dX6_cellX_35 : decode cX6_cellX 35 = .ok (.ireturn, 1) := by decide +kernel
theorem dX6_cellY_0 : decode cX6_cellY 0 = .ok (.iload_n 1, 1) := by decide +kernel
theorem dX6_cellY_1 : decode cX6_cellY 1 = .ok (.ifCond .lt 33, 3) := by decide +kernel
theorem dX6_cellY_4 : decode cX6_cellY 4 = .ok (.iload_n 1, 1) := by decide +kernel
theorem dX6_cellY_5 : decode cX6_cellY 5 = .ok (.iconst 4, 1) := by decide +kernel
theorem dX6_cellY_6 : decode cX6_cellY 6 = .ok (.if_icmp .ge 28, 3) := by decide +kernel
theorem dX6_cellY_9 : decode cX6_cellY 9 = .ok (.aload_n 0, 1) := by decide +kernel
theorem dX6_cellY_10 : decode cX6_cellY 10 = .ok (.getfield 28, 3) := by decide +kernel
theorem dX6_cellY_13 : decode cX6_cellY 13 = .ok (.iload_n 1, 1) := by decide +kernel
theorem dX6_cellY_14 : decode cX6_cellY 14 = .ok (.iaload, 1) := by decide +kernel
theorem dX6_cellY_15 : decode cX6_cellY 15 = .ok (.iload_n 2, 1) := by decide +kernel
theorem dX6_cellY_16 : decode cX6_cellY 16 = .ok (.getstatic 54, 3) := by decide +kernel
theorem dX6_cellY_19 : decode cX6_cellY 19 = .ok (.aload_n 0, 1) := by decide +kernel
theorem dX6_cellY_20 : decode cX6_cellY 20 = .ok (.getfield 31, 3) := by decide +kernel
theorem dX6_cellY_23 : decode cX6_cellY 23 = .ok (.iload_n 1, 1) := by decide +kernel
theorem dX6_cellY_24 : decode cX6_cellY 24 = .ok (.iaload, 1) := by decide +kernel
theorem dX6_cellY_25 : decode cX6_cellY 25 = .ok (.bipush 7, 2) := by decide +kernel
theorem dX6_cellY_27 : decode cX6_cellY 27 = .ok (.iand, 1) := by decide +kernel
theorem dX6_cellY_28 : decode cX6_cellY 28 = .ok (.iaload, 1) := by decide +kernel
theorem dX6_cellY_29 : decode cX6_cellY 29 = .ok (.imul, 1) := by decide +kernel
theorem dX6_cellY_30 : decode cX6_cellY 30 = .ok (.iadd, 1) := by decide +kernel
theorem dX6_cellY_31 : decode cX6_cellY 31 = .ok (.goto 4, 3) := by decide +kernel
theorem dX6_cellY_34 : decode cX6_cellY 34 = .ok (.iconst 0, 1) := by decide +kernel
theorem dX6_cellY_35 : decode cX6_cellY 35 = .ok (.ireturn, 1) := by decide +kernel
theorem dX7_init_0 : decode cX7_init 0 = .ok (.aload_n 0, 1) := by decide +kernel
theorem dX7_init_1 : decode cX7_init 1 = .ok (.invokespecial 3, 3) := by decide +kernel
theorem dX7_init_4 : decode cX7_init 4 = .ok (.aload_n 0, 1) := by decide +kernel
theorem dX7_init_5 : decode cX7_init 5 = .ok (.new 9, 3) := by decide +kernel
theorem dX7_init_8 : decode cX7_init 8 = .ok (.dup, 1) := by decide +kernel
theorem dX7_init_9 : decode cX7_init 9 = .ok (.invokespecial 11, 3) := by decide +kernel
theorem dX7_init_12 : decode cX7_init 12 = .ok (.putfield 12, 3) := by decide +kernel
theorem dX7_init_15 : decode cX7_init 15 = .ok (.aload_n 0, 1) := by decide +kernel
theorem dX7_init_16 : decode cX7_init 16 = .ok (.new 9, 3) := by decide +kernel
theorem dX7_init_19 : decode cX7_init 19 = .ok (.dup, 1) := by decide +kernel
theorem dX7_init_20 : decode cX7_init 20 = .ok (.invokespecial 11, 3) := by decide +kernel
theorem dX7_init_23 : decode cX7_init 23 = .ok (.putfield 16, 3) := by decide +kernel
theorem dX7_init_26 : decode cX7_init 26 = .ok (.aload_n 0, 1) := by decide +kernel
theorem dX7_init_27 : decode cX7_init 27 = .ok (.new 9, 3) := by decide +kernel
theorem dX7_init_30 : decode cX7_init 30 = .ok (.dup, 1) := by decide +kernel
theorem dX7_init_31 : decode cX7_init 31 = .ok (.invokespecial 11, 3) := by decide +kernel
theorem dX7_init_34 : decode cX7_init 34 = .ok (.putfield 19, 3) := by decide +kernel
theorem dX7_init_37 : decode cX7_init 37 = .ok (.aload_n 0, 1) := by decide +kernel
theorem dX7_init_38 : decode cX7_init 38 = .ok (.new 22, 3) := by decide +kernel
theorem dX7_init_41 : decode cX7_init 41 = .ok (.dup, 1) := by decide +kernel
theorem dX7_init_42 : decode cX7_init 42 = .ok (.invokespecial 24, 3) := by decide +kernel
theorem dX7_init_45 : decode cX7_init 45 = .ok (.putfield 25, 3) := by decide +kernel
theorem dX7_init_48 : decode cX7_init 48 = .ok (.aload_n 0, 1) := by decide +kernel
theorem dX7_init_49 : decode cX7_init 49 = .ok (.new 29, 3) := by decide +kernel
theorem dX7_init_52 : decode cX7_init 52 = .ok (.dup, 1) := by decide +kernel
theorem dX7_init_53 : decode cX7_init 53 = .ok (.invokespecial 31, 3) := by decide +kernel
theorem dX7_init_56 : decode cX7_init 56 = .ok (.putfield 32, 3) := by decide +kernel
theorem dX7_init_59 : decode cX7_init 59 = .ok (.aload_n 0, 1) := by decide +kernel
theorem dX7_init_60 : decode cX7_init 60 = .ok (.new 36, 3) := by decide +kernel
theorem dX7_init_63 : decode cX7_init 63 = .ok (.dup, 1) := by decide +kernel
theorem dX7_init_64 : decode cX7_init 64 = .ok (.invokespecial 38, 3) := by decide +kernel
theorem dX7_init_67 : decode cX7_init 67 = .ok (.putfield 39, 3) := by decide +kernel
theorem dX7_init_70 : decode cX7_init 70 = .ok (.aload_n 0, 1) := by decide +kernel
theorem dX7_init_71 : decode cX7_init 71 = .ok (.new 43, 3) := by decide +kernel
theorem dX7_init_74 : decode cX7_init 74 = .ok (.dup, 1) := by decide +kernel
theorem dX7_init_75 : decode cX7_init 75 = .ok (.invokespecial 45, 3) := by decide +kernel
theorem dX7_init_78 : decode cX7_init 78 = .ok (.putfield 46, 3) := by decide +kernel
theorem dX7_init_81 : decode cX7_init 81 = .ok (.aload_n 0, 1) := by decide +kernel
theorem dX7_init_82 : decode cX7_init 82 = .ok (.new 50, 3) := by decide +kernel
theorem dX7_init_85 : decode cX7_init 85 = .ok (.dup, 1) := by decide +kernel
theorem dX7_init_86 : decode cX7_init 86 = .ok (.invokespecial 52, 3) := by decide +kernel
theorem dX7_init_89 : decode cX7_init 89 = .ok (.putfield 53, 3) := by decide +kernel
theorem dX7_init_92 : decode cX7_init 92 = .ok (.aload_n 0, 1) := by decide +kernel
theorem dX7_init_93 : decode cX7_init 93 = .ok (.new 57, 3) := by decide +kernel
theorem dX7_init_96 : decode cX7_init 96 = .ok (.dup, 1) := by decide +kernel
theorem dX7_init_97 : decode cX7_init 97 = .ok (.invokespecial 59, 3) := by decide +kernel
theorem dX7_init_100 : decode cX7_init 100 = .ok (.putfield 60, 3) := by decide +kernel
theorem dX7_init_103 : decode cX7_init 103 = .ok (.aload_n 0, 1) := by decide +kernel
theorem dX7_init_104 : decode cX7_init 104 = .ok (.iconst 4, 1) := by decide +kernel
theorem dX7_init_105 : decode cX7_init 105 = .ok (.newarray .int, 2) := by decide +kernel
theorem dX7_init_107 : decode cX7_init 107 = .ok (.putfield 64, 3) := by decide +kernel
theorem dX7_init_110 : decode cX7_init 110 = .ok (.aload_n 0, 1) := by decide +kernel
theorem dX7_init_111 : decode cX7_init 111 = .ok (.sipush 441, 3) := by decide +kernel
theorem dX7_init_114 : decode cX7_init 114 = .ok (.newarray .int, 2) := by decide +kernel
theorem dX7_init_116 : decode cX7_init 116 = .ok (.putfield 68, 3) := by decide +kernel
theorem dX7_init_119 : decode cX7_init 119 = .ok (.aload_n 0, 1) := by decide +kernel
theorem dX7_init_120 : decode cX7_init 120 = .ok (.iconst 0, 1) := by decide +kernel
theorem dX7_init_121 : decode cX7_init 121 = .ok (.putfield 71, 3) := by decide +kernel
theorem dX7_init_124 : decode cX7_init 124 = .ok (.aload_n 0, 1) := by decide +kernel
theorem dX7_init_125 : decode cX7_init 125 = .ok (.iconst (-1), 1) := by decide +kernel
theorem dX7_init_126 : decode cX7_init 126 = .ok (.putfield 75, 3) := by decide +kernel
theorem dX7_init_129 : decode cX7_init 129 = .ok (.return_, 1) := by decide +kernel
theorem dX7_clear_0 : decode cX7_clear 0 = .ok (.aload_n 0, 1) := by decide +kernel
theorem dX7_clear_1 : decode cX7_clear 1 = .ok (.getfield 12, 3) := by decide +kernel
theorem dX7_clear_4 : decode cX7_clear 4 = .ok (.getfield 79, 3) := by decide +kernel
theorem dX7_clear_7 : decode cX7_clear 7 = .ok (.istore_n 1, 1) := by decide +kernel
theorem dX7_clear_8 : decode cX7_clear 8 = .ok (.aload_n 0, 1) := by decide +kernel
theorem dX7_clear_9 : decode cX7_clear 9 = .ok (.getfield 12, 3) := by decide +kernel
theorem dX7_clear_12 : decode cX7_clear 12 = .ok (.invokevirtual 82, 3) := by decide +kernel
theorem dX7_clear_15 : decode cX7_clear 15 = .ok (.aload_n 0, 1) := by decide +kernel
theorem dX7_clear_16 : decode cX7_clear 16 = .ok (.getfield 25, 3) := by decide +kernel
theorem dX7_clear_19 : decode cX7_clear 19 = .ok (.invokevirtual 85, 3) := by decide +kernel
theorem dX7_clear_22 : decode cX7_clear 22 = .ok (.aload_n 0, 1) := by decide +kernel
theorem dX7_clear_23 : decode cX7_clear 23 = .ok (.invokevirtual 88, 3) := by decide +kernel
theorem dX7_clear_26 : decode cX7_clear 26 = .ok (.iload_n 1, 1) := by decide +kernel
theorem dX7_clear_27 : decode cX7_clear 27 = .ok (.ireturn, 1) := by decide +kernel
theorem dX7_addLink_0 : decode cX7_addLink 0 = .ok (.iload_n 1, 1) := by decide +kernel
theorem dX7_addLink_1 : decode cX7_addLink 1 = .ok (.iconst 1, 1) := by decide +kernel
theorem dX7_addLink_2 : decode cX7_addLink 2 = .ok (.if_icmp .lt 22, 3) := by decide +kernel
theorem dX7_addLink_5 : decode cX7_addLink 5 = .ok (.iload_n 1, 1) := by decide +kernel
theorem dX7_addLink_6 : decode cX7_addLink 6 = .ok (.iconst 5, 1) := by decide +kernel
theorem dX7_addLink_7 : decode cX7_addLink 7 = .ok (.if_icmp .gt 17, 3) := by decide +kernel
theorem dX7_addLink_10 : decode cX7_addLink 10 = .ok (.iload_n 2, 1) := by decide +kernel
theorem dX7_addLink_11 : decode cX7_addLink 11 = .ok (.invokestatic 91, 3) := by decide +kernel
theorem dX7_addLink_14 : decode cX7_addLink 14 = .ok (.ifCond .eq 10, 3) := by decide +kernel
theorem dX7_addLink_17 : decode cX7_addLink 17 = .ok (.iload_n 3, 1) := by decide +kernel
theorem dX7_addLink_18 : decode cX7_addLink 18 = .ok (.invokestatic 91, 3) := by decide +kernel
theorem dX7_addLink_21 : decode cX7_addLink 21 = .ok (.ifCond .ne 13, 3) := by decide +kernel
theorem dX7_addLink_24 : decode cX7_addLink 24 = .ok (.new 95, 3) := by decide +kernel
theorem dX7_addLink_27 : decode cX7_addLink 27 = .ok (.dup, 1) := by decide +kernel
theorem dX7_addLink_28 : decode cX7_addLink 28 = .ok (.ldc 97, 2) := by decide +kernel
theorem dX7_addLink_30 : decode cX7_addLink 30 = .ok (.invokespecial 99, 3) := by decide +kernel
theorem dX7_addLink_33 : decode cX7_addLink 33 = .ok (.athrow, 1) := by decide +kernel
theorem dX7_addLink_34 : decode cX7_addLink 34 = .ok (.aload_n 0, 1) := by decide +kernel
theorem dX7_addLink_35 : decode cX7_addLink 35 = .ok (.getfield 12, 3) := by decide +kernel
theorem dX7_addLink_38 : decode cX7_addLink 38 = .ok (.getfield 79, 3) := by decide +kernel
theorem dX7_addLink_41 : decode cX7_addLink 41 = .ok (.iconst 4, 1) := by decide +kernel
theorem dX7_addLink_42 : decode cX7_addLink 42 = .ok (.if_icmp .lt 13, 3) := by decide +kernel
theorem dX7_addLink_45 : decode cX7_addLink 45 = .ok (.new 102, 3) := by decide +kernel
theorem dX7_addLink_48 : decode cX7_addLink 48 = .ok (.dup, 1) := by decide +kernel
theorem dX7_addLink_49 : decode cX7_addLink 49 = .ok (.ldc 104, 2) := by decide +kernel
theorem dX7_addLink_51 : decode cX7_addLink 51 = .ok (.invokespecial 106, 3) := by decide +kernel
theorem dX7_addLink_54 : decode cX7_addLink 54 = .ok (.athrow, 1) := by decide +kernel
theorem dX7_addLink_55 : decode cX7_addLink 55 = .ok (.aload_n 0, 1) := by decide +kernel
theorem dX7_addLink_56 : decode cX7_addLink 56 = .ok (.invokevirtual 107, 3) := by decide +kernel
theorem dX7_addLink_59 : decode cX7_addLink 59 = .ok (.aload_n 0, 1) := by decide +kernel
theorem dX7_addLink_60 : decode cX7_addLink 60 = .ok (.getfield 12, 3) := by decide +kernel
theorem dX7_addLink_63 : decode cX7_addLink 63 = .ok (.iload_n 1, 1) := by decide +kernel
theorem dX7_addLink_64 : decode cX7_addLink 64 = .ok (.iload_n 2, 1) := by decide +kernel
theorem dX7_addLink_65 : decode cX7_addLink 65 = .ok (.iload_n 3, 1) := by decide +kernel
theorem dX7_addLink_66 : decode cX7_addLink 66 = .ok (.invokevirtual 110, 3) := by decide +kernel
theorem dX7_addLink_69 : decode cX7_addLink 69 = .ok (.pop, 1) := by decide +kernel
theorem dX7_addLink_70 : decode cX7_addLink 70 = .ok (.aload_n 0, 1) := by decide +kernel
theorem dX7_addLink_71 : decode cX7_addLink 71 = .ok (.getfield 12, 3) := by decide +kernel
theorem dX7_addLink_74 : decode cX7_addLink 74 = .ok (.getfield 79, 3) := by decide +kernel
theorem dX7_addLink_77 : decode cX7_addLink 77 = .ok (.iconst 1, 1) := by decide +kernel
theorem dX7_addLink_78 : decode cX7_addLink 78 = .ok (.isub, 1) := by decide +kernel
theorem dX7_addLink_79 : decode cX7_addLink 79 = .ok (.ireturn, 1) := by decide +kernel
theorem dX7_removeLink_0 : decode cX7_removeLink 0 = .ok (.aload_n 0, 1) := by decide +kernel
theorem dX7_removeLink_1 : decode cX7_removeLink 1 = .ok (.getfield 12, 3) := by decide +kernel
theorem dX7_removeLink_4 : decode cX7_removeLink 4 = .ok (.getfield 79, 3) := by decide +kernel
theorem dX7_removeLink_7 : decode cX7_removeLink 7 = .ok (.ifCond .gt 13, 3) := by decide +kernel
theorem dX7_removeLink_10 : decode cX7_removeLink 10 = .ok (.new 102, 3) := by decide +kernel
theorem dX7_removeLink_13 : decode cX7_removeLink 13 = .ok (.dup, 1) := by decide +kernel
theorem dX7_removeLink_14 : decode cX7_removeLink 14 = .ok (.ldc 114, 2) := by decide +kernel
theorem dX7_removeLink_16 : decode cX7_removeLink 16 = .ok (.invokespecial 106, 3) := by decide +kernel
theorem dX7_removeLink_19 : decode cX7_removeLink 19 = .ok (.athrow, 1) := by decide +kernel
theorem dX7_removeLink_20 : decode cX7_removeLink 20 = .ok (.aload_n 0, 1) := by decide +kernel
theorem dX7_removeLink_21 : decode cX7_removeLink 21 = .ok (.invokevirtual 107, 3) := by decide +kernel
theorem dX7_removeLink_24 : decode cX7_removeLink 24 = .ok (.aload_n 0, 1) := by decide +kernel
theorem dX7_removeLink_25 : decode cX7_removeLink 25 = .ok (.getfield 12, 3) := by decide +kernel
theorem dX7_removeLink_28 : decode cX7_removeLink 28 = .ok (.invokevirtual 116, 3) := by decide +kernel
theorem dX7_removeLink_31 : decode cX7_removeLink 31 = .ok (.aload_n 0, 1) := by decide +kernel
theorem dX7_removeLink_32 : decode cX7_removeLink 32 = .ok (.getfield 12, 3) := by decide +kernel
theorem dX7_removeLink_35 : decode cX7_removeLink 35 = .ok (.getfield 79, 3) := by decide +kernel
theorem dX7_removeLink_38 : decode cX7_removeLink 38 = .ok (.ireturn, 1) := by decide +kernel
theorem dX7_setLimits_0 : decode cX7_setLimits 0 = .ok (.aload_n 0, 1) := by decide +kernel
theorem dX7_setLimits_1 : decode cX7_setLimits 1 = .ok (.getfield 12, 3) := by decide +kernel
theorem dX7_setLimits_4 : decode cX7_setLimits 4 = .ok (.iload_n 1, 1) := by decide +kernel
theorem dX7_setLimits_5 : decode cX7_setLimits 5 = .ok (.invokevirtual 119, 3) := by decide +kernel
theorem dX7_setLimits_8 : decode cX7_setLimits 8 = .ok (.ifCond .ne 13, 3) := by decide +kernel
theorem dX7_setLimits_11 : decode cX7_setLimits 11 = .ok (.new 122, 3) := by decide +kernel
theorem dX7_setLimits_14 : decode cX7_setLimits 14 = .ok (.dup, 1) := by decide +kernel
theorem dX7_setLimits_15 : decode cX7_setLimits 15 = .ok (.ldc 124, 2) := by decide +kernel
theorem dX7_setLimits_17 : decode cX7_setLimits 17 = .ok (.invokespecial 126, 3) := by decide +kernel
theorem dX7_setLimits_20 : decode cX7_setLimits 20 = .ok (.athrow, 1) := by decide +kernel
theorem dX7_setLimits_21 : decode cX7_setLimits 21 = .ok (.iload_n 2, 1) := by decide +kernel
theorem dX7_setLimits_22 : decode cX7_setLimits 22 = .ok (.invokestatic 91, 3) := by decide +kernel
theorem dX7_setLimits_25 : decode cX7_setLimits 25 = .ok (.ifCond .eq 10, 3) := by decide +kernel
theorem dX7_setLimits_28 : decode cX7_setLimits 28 = .ok (.iload_n 3, 1) := by decide +kernel
theorem dX7_setLimits_29 : decode cX7_setLimits 29 = .ok (.invokestatic 91, 3) := by decide +kernel
theorem dX7_setLimits_32 : decode cX7_setLimits 32 = .ok (.ifCond .ne 13, 3) := by decide +kernel
theorem dX7_setLimits_35 : decode cX7_setLimits 35 = .ok (.new 95, 3) := by decide +kernel
theorem dX7_setLimits_38 : decode cX7_setLimits 38 = .ok (.dup, 1) := by decide +kernel
theorem dX7_setLimits_39 : decode cX7_setLimits 39 = .ok (.ldc 127, 2) := by decide +kernel
theorem dX7_setLimits_41 : decode cX7_setLimits 41 = .ok (.invokespecial 99, 3) := by decide +kernel
theorem dX7_setLimits_44 : decode cX7_setLimits 44 = .ok (.athrow, 1) := by decide +kernel
theorem dX7_setLimits_45 : decode cX7_setLimits 45 = .ok (.aload_n 0, 1) := by decide +kernel
theorem dX7_setLimits_46 : decode cX7_setLimits 46 = .ok (.invokevirtual 107, 3) := by decide +kernel
theorem dX7_setLimits_49 : decode cX7_setLimits 49 = .ok (.aload_n 0, 1) := by decide +kernel
theorem dX7_setLimits_50 : decode cX7_setLimits 50 = .ok (.getfield 12, 3) := by decide +kernel
theorem dX7_setLimits_53 : decode cX7_setLimits 53 = .ok (.iload_n 1, 1) := by decide +kernel
theorem dX7_setLimits_54 : decode cX7_setLimits 54 = .ok (.iload_n 2, 1) := by decide +kernel
theorem dX7_setLimits_55 : decode cX7_setLimits 55 = .ok (.iload_n 3, 1) := by decide +kernel
theorem dX7_setLimits_56 : decode cX7_setLimits 56 = .ok (.invokevirtual 129, 3) := by decide +kernel
theorem dX7_setLimits_59 : decode cX7_setLimits 59 = .ok (.aload_n 0, 1) := by decide +kernel
theorem dX7_setLimits_60 : decode cX7_setLimits 60 = .ok (.getfield 12, 3) := by decide +kernel
theorem dX7_setLimits_63 : decode cX7_setLimits 63 = .ok (.iload_n 1, 1) := by decide +kernel
theorem dX7_setLimits_64 : decode cX7_setLimits 64 = .ok (.invokevirtual 133, 3) := by decide +kernel
theorem dX7_setLimits_67 : decode cX7_setLimits 67 = .ok (.ireturn, 1) := by decide +kernel
theorem dX7_addObstacle_0 : decode cX7_addObstacle 0 = .ok (.iload_n 1, 1) := by decide +kernel
theorem dX7_addObstacle_1 : decode cX7_addObstacle 1 = .ok (.iload_n 2, 1) := by decide +kernel
theorem dX7_addObstacle_2 : decode cX7_addObstacle 2 = .ok (.invokestatic 137, 3) := by decide +kernel
theorem dX7_addObstacle_5 : decode cX7_addObstacle 5 = .ok (.iload_n 1, 1) := by decide +kernel
theorem dX7_addObstacle_6 : decode cX7_addObstacle 6 = .ok (.ifCond .ne 17, 3) := by decide +kernel
theorem dX7_addObstacle_9 : decode cX7_addObstacle 9 = .ok (.iload_n 2, 1) := by decide +kernel
theorem dX7_addObstacle_10 : decode cX7_addObstacle 10 = .ok (.ifCond .ne 13, 3) := by decide +kernel
theorem dX7_addObstacle_13 : decode cX7_addObstacle 13 = .ok (.new 95, 3) := by decide +kernel
theorem dX7_addObstacle_16 : decode cX7_addObstacle 16 = .ok (.dup, 1) := by decide +kernel
theorem dX7_addObstacle_17 : decode cX7_addObstacle 17 = .ok (.ldc 141, 2) := by decide +kernel
theorem dX7_addObstacle_19 : decode cX7_addObstacle 19 = .ok (.invokespecial 99, 3) := by decide +kernel
theorem dX7_addObstacle_22 : decode cX7_addObstacle 22 = .ok (.athrow, 1) := by decide +kernel
theorem dX7_addObstacle_23 : decode cX7_addObstacle 23 = .ok (.aload_n 0, 1) := by decide +kernel
theorem dX7_addObstacle_24 : decode cX7_addObstacle 24 = .ok (.getfield 12, 3) := by decide +kernel
theorem dX7_addObstacle_27 : decode cX7_addObstacle 27 = .ok (.getfield 143, 3) := by decide +kernel
theorem dX7_addObstacle_30 : decode cX7_addObstacle 30 = .ok (.bipush 60, 2) := by decide +kernel
theorem dX7_addObstacle_32 : decode cX7_addObstacle 32 = .ok (.if_icmp .ge 15, 3) := by decide +kernel
theorem dX7_addObstacle_35 : decode cX7_addObstacle 35 = .ok (.aload_n 0, 1) := by decide +kernel
theorem dX7_addObstacle_36 : decode cX7_addObstacle 36 = .ok (.getfield 12, 3) := by decide +kernel
theorem dX7_addObstacle_39 : decode cX7_addObstacle 39 = .ok (.iload_n 1, 1) := by decide +kernel
theorem dX7_addObstacle_40 : decode cX7_addObstacle 40 = .ok (.iload_n 2, 1) := by decide +kernel
theorem dX7_addObstacle_41 : decode cX7_addObstacle 41 = .ok (.invokevirtual 146, 3) := by decide +kernel
theorem dX7_addObstacle_44 : decode cX7_addObstacle 44 = .ok (.ifCond .eq 13, 3) := by decide +kernel
theorem dX7_addObstacle_47 : decode cX7_addObstacle 47 = .ok (.new 102, 3) := by decide +kernel
theorem dX7_addObstacle_50 : decode cX7_addObstacle 50 = .ok (.dup, 1) := by decide +kernel
theorem dX7_addObstacle_51 : decode cX7_addObstacle 51 = .ok (.ldc 150, 2) := by decide +kernel
theorem dX7_addObstacle_53 : decode cX7_addObstacle 53 = .ok (.invokespecial 106, 3) := by decide +kernel
theorem dX7_addObstacle_56 : decode cX7_addObstacle 56 = .ok (.athrow, 1) := by decide +kernel
theorem dX7_addObstacle_57 : decode cX7_addObstacle 57 = .ok (.aload_n 0, 1) := by decide +kernel
theorem dX7_addObstacle_58 : decode cX7_addObstacle 58 = .ok (.invokevirtual 107, 3) := by decide +kernel
theorem dX7_addObstacle_61 : decode cX7_addObstacle 61 = .ok (.aload_n 0, 1) := by decide +kernel
theorem dX7_addObstacle_62 : decode cX7_addObstacle 62 = .ok (.getfield 12, 3) := by decide +kernel
theorem dX7_addObstacle_65 : decode cX7_addObstacle 65 = .ok (.iload_n 1, 1) := by decide +kernel
theorem dX7_addObstacle_66 : decode cX7_addObstacle 66 = .ok (.iload_n 2, 1) := by decide +kernel
theorem dX7_addObstacle_67 : decode cX7_addObstacle 67 = .ok (.invokevirtual 152, 3) := by decide +kernel
theorem dX7_addObstacle_70 : decode cX7_addObstacle 70 = .ok (.pop, 1) := by decide +kernel
theorem dX7_addObstacle_71 : decode cX7_addObstacle 71 = .ok (.aload_n 0, 1) := by decide +kernel
theorem dX7_addObstacle_72 : decode cX7_addObstacle 72 = .ok (.getfield 12, 3) := by decide +kernel
theorem dX7_addObstacle_75 : decode cX7_addObstacle 75 = .ok (.getfield 143, 3) := by decide +kernel
theorem dX7_addObstacle_78 : decode cX7_addObstacle 78 = .ok (.ireturn, 1) := by decide +kernel
theorem dX7_removeObstacle_0 : decode cX7_removeObstacle 0 = .ok (.iload_n 1, 1) := by decide +kernel
theorem dX7_removeObstacle_1 : decode cX7_removeObstacle 1 = .ok (.iload_n 2, 1) := by decide +kernel
theorem dX7_removeObstacle_2 : decode cX7_removeObstacle 2 = .ok (.invokestatic 137, 3) := by decide +kernel
theorem dX7_removeObstacle_5 : decode cX7_removeObstacle 5 = .ok (.aload_n 0, 1) := by decide +kernel
theorem dX7_removeObstacle_6 : decode cX7_removeObstacle 6 = .ok (.getfield 12, 3) := by decide +kernel
theorem dX7_removeObstacle_9 : decode cX7_removeObstacle 9 = .ok (.iload_n 1, 1) := by decide +kernel
theorem dX7_removeObstacle_10 : decode cX7_removeObstacle 10 = .ok (.iload_n 2, 1) := by decide +kernel
theorem dX7_removeObstacle_11 : decode cX7_removeObstacle 11 = .ok (.invokevirtual 146, 3) := by decide +kernel
theorem dX7_removeObstacle_14 : decode cX7_removeObstacle 14 = .ok (.ifCond .ne 13, 3) := by decide +kernel
theorem dX7_removeObstacle_17 : decode cX7_removeObstacle 17 = .ok (.new 155, 3) := by decide +kernel
theorem dX7_removeObstacle_20 : decode cX7_removeObstacle 20 = .ok (.dup, 1) := by decide +kernel
theorem dX7_removeObstacle_21 : decode cX7_removeObstacle 21 = .ok (.ldc 157, 2) := by decide +kernel
theorem dX7_removeObstacle_23 : decode cX7_removeObstacle 23 = .ok (.invokespecial 159, 3) := by decide +kernel
theorem dX7_removeObstacle_26 : decode cX7_removeObstacle 26 = .ok (.athrow, 1) := by decide +kernel
theorem dX7_removeObstacle_27 : decode cX7_removeObstacle 27 = .ok (.aload_n 0, 1) := by decide +kernel
theorem dX7_removeObstacle_28 : decode cX7_removeObstacle 28 = .ok (.invokevirtual 107, 3) := by decide +kernel
theorem dX7_removeObstacle_31 : decode cX7_removeObstacle 31 = .ok (.aload_n 0, 1) := by decide +kernel
theorem dX7_removeObstacle_32 : decode cX7_removeObstacle 32 = .ok (.getfield 12, 3) := by decide +kernel
theorem dX7_removeObstacle_35 : decode cX7_removeObstacle 35 = .ok (.iload_n 1, 1) := by decide +kernel
theorem dX7_removeObstacle_36 : decode cX7_removeObstacle 36 = .ok (.iload_n 2, 1) := by decide +kernel
theorem dX7_removeObstacle_37 : decode cX7_removeObstacle 37 = .ok (.invokevirtual 160, 3) := by decide +kernel
theorem dX7_removeObstacle_40 : decode cX7_removeObstacle 40 = .ok (.aload_n 0, 1) := by decide +kernel
theorem dX7_removeObstacle_41 : decode cX7_removeObstacle 41 = .ok (.getfield 12, 3) := by decide +kernel
theorem dX7_removeObstacle_44 : decode cX7_removeObstacle 44 = .ok (.getfield 143, 3) := by decide +kernel
theorem dX7_removeObstacle_47 : decode cX7_removeObstacle 47 = .ok (.ireturn, 1) := by decide +kernel
theorem dX7_count_0 : decode cX7_count 0 = .ok (.iload_n 1, 1) := by decide +kernel
theorem dX7_count_1 : decode cX7_count 1 = .ok (.tableswitch 63 0 3 #[31, 39, 47, 55], 31) := by decide +kernel
theorem dX7_count_32 : decode cX7_count 32 = .ok (.aload_n 0, 1) := by decide +kernel
theorem dX7_count_33 : decode cX7_count 33 = .ok (.getfield 12, 3) := by decide +kernel
theorem dX7_count_36 : decode cX7_count 36 = .ok (.getfield 79, 3) := by decide +kernel
theorem dX7_count_39 : decode cX7_count 39 = .ok (.ireturn, 1) := by decide +kernel
theorem dX7_count_40 : decode cX7_count 40 = .ok (.aload_n 0, 1) := by decide +kernel
theorem dX7_count_41 : decode cX7_count 41 = .ok (.getfield 12, 3) := by decide +kernel
theorem dX7_count_44 : decode cX7_count 44 = .ok (.getfield 143, 3) := by decide +kernel
theorem dX7_count_47 : decode cX7_count 47 = .ok (.ireturn, 1) := by decide +kernel
theorem dX7_count_48 : decode cX7_count 48 = .ok (.aload_n 0, 1) := by decide +kernel
theorem dX7_count_49 : decode cX7_count 49 = .ok (.getfield 12, 3) := by decide +kernel
theorem dX7_count_52 : decode cX7_count 52 = .ok (.invokevirtual 163, 3) := by decide +kernel
theorem dX7_count_55 : decode cX7_count 55 = .ok (.ireturn, 1) := by decide +kernel
theorem dX7_count_56 : decode cX7_count 56 = .ok (.aload_n 0, 1) := by decide +kernel
theorem dX7_count_57 : decode cX7_count 57 = .ok (.getfield 12, 3) := by decide +kernel
theorem dX7_count_60 : decode cX7_count 60 = .ok (.invokevirtual 167, 3) := by decide +kernel
theorem dX7_count_63 : decode cX7_count 63 = .ok (.ireturn, 1) := by decide +kernel
theorem dX7_count_64 : decode cX7_count 64 = .ok (.new 95, 3) := by decide +kernel
theorem dX7_count_67 : decode cX7_count 67 = .ok (.dup, 1) := by decide +kernel
theorem dX7_count_68 : decode cX7_count 68 = .ok (.ldc 170, 2) := by decide +kernel
theorem dX7_count_70 : decode cX7_count 70 = .ok (.invokespecial 99, 3) := by decide +kernel
theorem dX7_count_73 : decode cX7_count 73 = .ok (.athrow, 1) := by decide +kernel
theorem dX7_joint_0 : decode cX7_joint 0 = .ok (.aload_n 0, 1) := by decide +kernel
theorem dX7_joint_1 : decode cX7_joint 1 = .ok (.getfield 12, 3) := by decide +kernel
theorem dX7_joint_4 : decode cX7_joint 4 = .ok (.iload_n 1, 1) := by decide +kernel
theorem dX7_joint_5 : decode cX7_joint 5 = .ok (.invokevirtual 119, 3) := by decide +kernel
theorem dX7_joint_8 : decode cX7_joint 8 = .ok (.ifCond .eq 8, 3) := by decide +kernel
theorem dX7_joint_11 : decode cX7_joint 11 = .ok (.iload_n 1, 1) := by decide +kernel
theorem dX7_joint_12 : decode cX7_joint 12 = .ok (.iconst 4, 1) := by decide +kernel
theorem dX7_joint_13 : decode cX7_joint 13 = .ok (.if_icmp .lt 13, 3) := by decide +kernel
theorem dX7_joint_16 : decode cX7_joint 16 = .ok (.new 122, 3) := by decide +kernel
theorem dX7_joint_19 : decode cX7_joint 19 = .ok (.dup, 1) := by decide +kernel
theorem dX7_joint_20 : decode cX7_joint 20 = .ok (.ldc 124, 2) := by decide +kernel
theorem dX7_joint_22 : decode cX7_joint 22 = .ok (.invokespecial 126, 3) := by decide +kernel
theorem dX7_joint_25 : decode cX7_joint 25 = .ok (.athrow, 1) := by decide +kernel
theorem dX7_joint_26 : decode cX7_joint 26 = .ok (.aload_n 0, 1) := by decide +kernel
theorem dX7_joint_27 : decode cX7_joint 27 = .ok (.getfield 32, 3) := by decide +kernel
theorem dX7_joint_30 : decode cX7_joint 30 = .ok (.aload_n 0, 1) := by decide +kernel
theorem dX7_joint_31 : decode cX7_joint 31 = .ok (.getfield 12, 3) := by decide +kernel
theorem dX7_joint_34 : decode cX7_joint 34 = .ok (.aload_n 0, 1) := by decide +kernel
theorem dX7_joint_35 : decode cX7_joint 35 = .ok (.getfield 12, 3) := by decide +kernel
theorem dX7_joint_38 : decode cX7_joint 38 = .ok (.getfield 172, 3) := by decide +kernel
theorem dX7_joint_41 : decode cX7_joint 41 = .ok (.invokevirtual 175, 3) := by decide +kernel
theorem dX7_joint_44 : decode cX7_joint 44 = .ok (.iload_n 2, 1) := by decide +kernel
theorem dX7_joint_45 : decode cX7_joint 45 = .ok (.tableswitch 132 0 7 #[47, 57, 67, 77, 87, 97, 107, 117], 47) := by decide +kernel
theorem dX7_joint_92 : decode cX7_joint 92 = .ok (.aload_n 0, 1) := by decide +kernel
theorem dX7_joint_93 : decode cX7_joint 93 = .ok (.getfield 12, 3) := by decide +kernel
theorem dX7_joint_96 : decode cX7_joint 96 = .ok (.getfield 172, 3) := by decide +kernel
theorem dX7_joint_99 : decode cX7_joint 99 = .ok (.iload_n 1, 1) := by decide +kernel
theorem dX7_joint_100 : decode cX7_joint 100 = .ok (.iaload, 1) := by decide +kernel
theorem dX7_joint_101 : decode cX7_joint 101 = .ok (.ireturn, 1) := by decide +kernel
theorem dX7_joint_102 : decode cX7_joint 102 = .ok (.aload_n 0, 1) := by decide +kernel
theorem dX7_joint_103 : decode cX7_joint 103 = .ok (.getfield 12, 3) := by decide +kernel
theorem dX7_joint_106 : decode cX7_joint 106 = .ok (.getfield 179, 3) := by decide +kernel
theorem dX7_joint_109 : decode cX7_joint 109 = .ok (.iload_n 1, 1) := by decide +kernel
theorem dX7_joint_110 : decode cX7_joint 110 = .ok (.iaload, 1) := by decide +kernel
theorem dX7_joint_111 : decode cX7_joint 111 = .ok (.ireturn, 1) := by decide +kernel
theorem dX7_joint_112 : decode cX7_joint 112 = .ok (.aload_n 0, 1) := by decide +kernel
theorem dX7_joint_113 : decode cX7_joint 113 = .ok (.getfield 12, 3) := by decide +kernel
theorem dX7_joint_116 : decode cX7_joint 116 = .ok (.getfield 182, 3) := by decide +kernel
theorem dX7_joint_119 : decode cX7_joint 119 = .ok (.iload_n 1, 1) := by decide +kernel
theorem dX7_joint_120 : decode cX7_joint 120 = .ok (.iaload, 1) := by decide +kernel
theorem dX7_joint_121 : decode cX7_joint 121 = .ok (.ireturn, 1) := by decide +kernel
theorem dX7_joint_122 : decode cX7_joint 122 = .ok (.aload_n 0, 1) := by decide +kernel
theorem dX7_joint_123 : decode cX7_joint 123 = .ok (.getfield 12, 3) := by decide +kernel
theorem dX7_joint_126 : decode cX7_joint 126 = .ok (.getfield 185, 3) := by decide +kernel
theorem dX7_joint_129 : decode cX7_joint 129 = .ok (.iload_n 1, 1) := by decide +kernel
theorem dX7_joint_130 : decode cX7_joint 130 = .ok (.iaload, 1) := by decide +kernel
theorem dX7_joint_131 : decode cX7_joint 131 = .ok (.ireturn, 1) := by decide +kernel
theorem dX7_joint_132 : decode cX7_joint 132 = .ok (.aload_n 0, 1) := by decide +kernel
theorem dX7_joint_133 : decode cX7_joint 133 = .ok (.getfield 32, 3) := by decide +kernel
theorem dX7_joint_136 : decode cX7_joint 136 = .ok (.getfield 188, 3) := by decide +kernel
theorem dX7_joint_139 : decode cX7_joint 139 = .ok (.iload_n 1, 1) := by decide +kernel
theorem dX7_joint_140 : decode cX7_joint 140 = .ok (.iaload, 1) := by decide +kernel
theorem dX7_joint_141 : decode cX7_joint 141 = .ok (.ireturn, 1) := by decide +kernel
theorem dX7_joint_142 : decode cX7_joint 142 = .ok (.aload_n 0, 1) := by decide +kernel
theorem dX7_joint_143 : decode cX7_joint 143 = .ok (.getfield 32, 3) := by decide +kernel
theorem dX7_joint_146 : decode cX7_joint 146 = .ok (.getfield 191, 3) := by decide +kernel
theorem dX7_joint_149 : decode cX7_joint 149 = .ok (.iload_n 1, 1) := by decide +kernel
theorem dX7_joint_150 : decode cX7_joint 150 = .ok (.iaload, 1) := by decide +kernel
theorem dX7_joint_151 : decode cX7_joint 151 = .ok (.ireturn, 1) := by decide +kernel
theorem dX7_joint_152 : decode cX7_joint 152 = .ok (.aload_n 0, 1) := by decide +kernel
theorem dX7_joint_153 : decode cX7_joint 153 = .ok (.getfield 32, 3) := by decide +kernel
theorem dX7_joint_156 : decode cX7_joint 156 = .ok (.getfield 194, 3) := by decide +kernel
theorem dX7_joint_159 : decode cX7_joint 159 = .ok (.iload_n 1, 1) := by decide +kernel
theorem dX7_joint_160 : decode cX7_joint 160 = .ok (.iaload, 1) := by decide +kernel
theorem dX7_joint_161 : decode cX7_joint 161 = .ok (.ireturn, 1) := by decide +kernel
theorem dX7_joint_162 : decode cX7_joint 162 = .ok (.aload_n 0, 1) := by decide +kernel
theorem dX7_joint_163 : decode cX7_joint 163 = .ok (.getfield 12, 3) := by decide +kernel
theorem dX7_joint_166 : decode cX7_joint 166 = .ok (.getfield 172, 3) := by decide +kernel
theorem dX7_joint_169 : decode cX7_joint 169 = .ok (.iload_n 1, 1) := by decide +kernel
theorem dX7_joint_170 : decode cX7_joint 170 = .ok (.iaload, 1) := by decide +kernel
theorem dX7_joint_171 : decode cX7_joint 171 = .ok (.bipush 8, 2) := by decide +kernel
theorem dX7_joint_173 : decode cX7_joint 173 = .ok (.invokestatic 197, 3) := by decide +kernel
theorem dX7_joint_176 : decode cX7_joint 176 = .ok (.ireturn, 1) := by decide +kernel
theorem dX7_joint_177 : decode cX7_joint 177 = .ok (.new 95, 3) := by decide +kernel
theorem dX7_joint_180 : decode cX7_joint 180 = .ok (.dup, 1) := by decide +kernel
theorem dX7_joint_181 : decode cX7_joint 181 = .ok (.ldc 203, 2) := by decide +kernel
theorem dX7_joint_183 : decode cX7_joint 183 = .ok (.invokespecial 99, 3) := by decide +kernel
theorem dX7_joint_186 : decode cX7_joint 186 = .ok (.athrow, 1) := by decide +kernel
theorem dX7_isObstacle_0 : decode cX7_isObstacle 0 = .ok (.iload_n 1, 1) := by decide +kernel
theorem dX7_isObstacle_1 : decode cX7_isObstacle 1 = .ok (.iload_n 2, 1) := by decide +kernel
theorem dX7_isObstacle_2 : decode cX7_isObstacle 2 = .ok (.invokestatic 137, 3) := by decide +kernel
theorem dX7_isObstacle_5 : decode cX7_isObstacle 5 = .ok (.aload_n 0, 1) := by decide +kernel
theorem dX7_isObstacle_6 : decode cX7_isObstacle 6 = .ok (.getfield 12, 3) := by decide +kernel
theorem dX7_isObstacle_9 : decode cX7_isObstacle 9 = .ok (.iload_n 1, 1) := by decide +kernel
theorem dX7_isObstacle_10 : decode cX7_isObstacle 10 = .ok (.iload_n 2, 1) := by decide +kernel
theorem dX7_isObstacle_11 : decode cX7_isObstacle 11 = .ok (.invokevirtual 146, 3) := by decide +kernel
theorem dX7_isObstacle_14 : decode cX7_isObstacle 14 = .ok (.ireturn, 1) := by decide +kernel
theorem dX7_obstacle_0 : decode cX7_obstacle 0 = .ok (.iload_n 1, 1) := by decide +kernel
theorem dX7_obstacle_1 : decode cX7_obstacle 1 = .ok (.ifCond .lt 20, 3) := by decide +kernel
theorem dX7_obstacle_4 : decode cX7_obstacle 4 = .ok (.iload_n 1, 1) := by decide +kernel
theorem dX7_obstacle_5 : decode cX7_obstacle 5 = .ok (.aload_n 0, 1) := by decide +kernel
theorem dX7_obstacle_6 : decode cX7_obstacle 6 = .ok (.getfield 12, 3) := by decide +kernel
theorem dX7_obstacle_9 : decode cX7_obstacle 9 = .ok (.getfield 143, 3) := by decide +kernel
theorem dX7_obstacle_12 : decode cX7_obstacle 12 = .ok (.if_icmp .ge 9, 3) := by decide +kernel
theorem dX7_obstacle_15 : decode cX7_obstacle 15 = .ok (.iload_n 1, 1) := by decide +kernel
theorem dX7_obstacle_16 : decode cX7_obstacle 16 = .ok (.bipush 60, 2) := by decide +kernel
theorem dX7_obstacle_18 : decode cX7_obstacle 18 = .ok (.if_icmp .lt 13, 3) := by decide +kernel
theorem dX7_obstacle_21 : decode cX7_obstacle 21 = .ok (.new 122, 3) := by decide +kernel
theorem dX7_obstacle_24 : decode cX7_obstacle 24 = .ok (.dup, 1) := by decide +kernel
theorem dX7_obstacle_25 : decode cX7_obstacle 25 = .ok (.ldc 205, 2) := by decide +kernel
theorem dX7_obstacle_27 : decode cX7_obstacle 27 = .ok (.invokespecial 126, 3) := by decide +kernel
theorem dX7_obstacle_30 : decode cX7_obstacle 30 = .ok (.athrow, 1) := by decide +kernel
theorem dX7_obstacle_31 : decode cX7_obstacle 31 = .ok (.iload_n 2, 1) := by decide +kernel
theorem dX7_obstacle_32 : decode cX7_obstacle 32 = .ok (.ifCond .eq 15, 3) := by decide +kernel
theorem dX7_obstacle_35 : decode cX7_obstacle 35 = .ok (.aload_n 0, 1) := by decide +kernel
theorem dX7_obstacle_36 : decode cX7_obstacle 36 = .ok (.getfield 12, 3) := by decide +kernel
theorem dX7_obstacle_39 : decode cX7_obstacle 39 = .ok (.getfield 207, 3) := by decide +kernel
theorem dX7_obstacle_42 : decode cX7_obstacle 42 = .ok (.iload_n 1, 1) := by decide +kernel
theorem dX7_obstacle_43 : decode cX7_obstacle 43 = .ok (.iaload, 1) := by decide +kernel
theorem dX7_obstacle_44 : decode cX7_obstacle 44 = .ok (.goto 12, 3) := by decide +kernel
theorem dX7_obstacle_47 : decode cX7_obstacle 47 = .ok (.aload_n 0, 1) := by decide +kernel
theorem dX7_obstacle_48 : decode cX7_obstacle 48 = .ok (.getfield 12, 3) := by decide +kernel
theorem dX7_obstacle_51 : decode cX7_obstacle 51 = .ok (.getfield 210, 3) := by decide +kernel
theorem dX7_obstacle_54 : decode cX7_obstacle 54 = .ok (.iload_n 1, 1) := by decide +kernel
theorem dX7_obstacle_55 : decode cX7_obstacle 55 = .ok (.iaload, 1) := by decide +kernel
theorem dX7_obstacle_56 : decode cX7_obstacle 56 = .ok (.ireturn, 1) := by decide +kernel
theorem dX7_setValue_0 : decode cX7_setValue 0 = .ok (.aload_n 0, 1) := by decide +kernel
theorem dX7_setValue_1 : decode cX7_setValue 1 = .ok (.getfield 12, 3) := by decide +kernel
theorem dX7_setValue_4 : decode cX7_setValue 4 = .ok (.iload_n 1, 1) := by decide +kernel
theorem dX7_setValue_5 : decode cX7_setValue 5 = .ok (.invokevirtual 119, 3) := by decide +kernel
theorem dX7_setValue_8 : decode cX7_setValue 8 = .ok (.ifCond .ne 13, 3) := by decide +kernel
theorem dX7_setValue_11 : decode cX7_setValue 11 = .ok (.new 122, 3) := by decide +kernel
theorem dX7_setValue_14 : decode cX7_setValue 14 = .ok (.dup, 1) := by decide +kernel
theorem dX7_setValue_15 : decode cX7_setValue 15 = .ok (.ldc 124, 2) := by decide +kernel
theorem dX7_setValue_17 : decode cX7_setValue 17 = .ok (.invokespecial 126, 3) := by decide +kernel
theorem dX7_setValue_20 : decode cX7_setValue 20 = .ok (.athrow, 1) := by decide +kernel
theorem dX7_setValue_21 : decode cX7_setValue 21 = .ok (.aload_n 0, 1) := by decide +kernel
theorem dX7_setValue_22 : decode cX7_setValue 22 = .ok (.getfield 12, 3) := by decide +kernel
theorem dX7_setValue_25 : decode cX7_setValue 25 = .ok (.iload_n 1, 1) := by decide +kernel
theorem dX7_setValue_26 : decode cX7_setValue 26 = .ok (.iload_n 2, 1) := by decide +kernel
theorem dX7_setValue_27 : decode cX7_setValue 27 = .ok (.invokevirtual 213, 3) := by decide +kernel
theorem dX7_setValue_30 : decode cX7_setValue 30 = .ok (.ifCond .ne 13, 3) := by decide +kernel
theorem dX7_setValue_33 : decode cX7_setValue 33 = .ok (.new 95, 3) := by decide +kernel
theorem dX7_setValue_36 : decode cX7_setValue 36 = .ok (.dup, 1) := by decide +kernel
theorem dX7_setValue_37 : decode cX7_setValue 37 = .ok (.ldc 216, 2) := by decide +kernel
theorem dX7_setValue_39 : decode cX7_setValue 39 = .ok (.invokespecial 99, 3) := by decide +kernel
theorem dX7_setValue_42 : decode cX7_setValue 42 = .ok (.athrow, 1) := by decide +kernel
theorem dX7_setValue_43 : decode cX7_setValue 43 = .ok (.aload_n 0, 1) := by decide +kernel
theorem dX7_setValue_44 : decode cX7_setValue 44 = .ok (.getfield 12, 3) := by decide +kernel
theorem dX7_setValue_47 : decode cX7_setValue 47 = .ok (.iload_n 1, 1) := by decide +kernel
theorem dX7_setValue_48 : decode cX7_setValue 48 = .ok (.invokevirtual 133, 3) := by decide +kernel
theorem dX7_setValue_51 : decode cX7_setValue 51 = .ok (.istore_n 3, 1) := by decide +kernel
theorem dX7_setValue_52 : decode cX7_setValue 52 = .ok (.aload_n 0, 1) := by decide +kernel
theorem dX7_setValue_53 : decode cX7_setValue 53 = .ok (.invokevirtual 218, 3) := by decide +kernel
theorem dX7_setValue_56 : decode cX7_setValue 56 = .ok (.aload_n 0, 1) := by decide +kernel
theorem dX7_setValue_57 : decode cX7_setValue 57 = .ok (.getfield 12, 3) := by decide +kernel
theorem dX7_setValue_60 : decode cX7_setValue 60 = .ok (.iload_n 1, 1) := by decide +kernel
theorem dX7_setValue_61 : decode cX7_setValue 61 = .ok (.iload_n 2, 1) := by decide +kernel
theorem dX7_setValue_62 : decode cX7_setValue 62 = .ok (.invokevirtual 221, 3) := by decide +kernel
theorem dX7_setValue_65 : decode cX7_setValue 65 = .ok (.iload_n 3, 1) := by decide +kernel
theorem dX7_setValue_66 : decode cX7_setValue 66 = .ok (.ireturn, 1) := by decide +kernel
theorem dX7_move_0 : decode cX7_move 0 = .ok (.iload_n 1, 1) := by decide +kernel
theorem dX7_move_1 : decode cX7_move 1 = .ok (.ifCond .lt 17, 3) := by decide +kernel
theorem dX7_move_4 : decode cX7_move 4 = .ok (.aload_n 0, 1) := by decide +kernel
theorem dX7_move_5 : decode cX7_move 5 = .ok (.getfield 12, 3) := by decide +kernel
theorem dX7_move_8 : decode cX7_move 8 = .ok (.iload_n 1, 1) := by decide +kernel
theorem dX7_move_9 : decode cX7_move 9 = .ok (.invokestatic 224, 3) := by decide +kernel
theorem dX7_move_12 : decode cX7_move 12 = .ok (.invokevirtual 119, 3) := by decide +kernel
theorem dX7_move_15 : decode cX7_move 15 = .ok (.ifCond .ne 13, 3) := by decide +kernel
theorem dX7_move_18 : decode cX7_move 18 = .ok (.new 95, 3) := by decide +kernel
theorem dX7_move_21 : decode cX7_move 21 = .ok (.dup, 1) := by decide +kernel
theorem dX7_move_22 : decode cX7_move 22 = .ok (.ldc 227, 2) := by decide +kernel
theorem dX7_move_24 : decode cX7_move 24 = .ok (.invokespecial 99, 3) := by decide +kernel
theorem dX7_move_27 : decode cX7_move 27 = .ok (.athrow, 1) := by decide +kernel
theorem dX7_move_28 : decode cX7_move 28 = .ok (.aload_n 0, 1) := by decide +kernel
theorem dX7_move_29 : decode cX7_move 29 = .ok (.invokevirtual 229, 3) := by decide +kernel
theorem dX7_move_32 : decode cX7_move 32 = .ok (.ifCond .eq 11, 3) := by decide +kernel
theorem dX7_move_35 : decode cX7_move 35 = .ok (.aload_n 0, 1) := by decide +kernel
theorem dX7_move_36 : decode cX7_move 36 = .ok (.iload_n 1, 1) := by decide +kernel
theorem dX7_move_37 : decode cX7_move 37 = .ok (.invokevirtual 233, 3) := by decide +kernel
theorem dX7_move_40 : decode cX7_move 40 = .ok (.ifCond .ne 13, 3) := by decide +kernel
theorem dX7_move_43 : decode cX7_move 43 = .ok (.new 102, 3) := by decide +kernel
theorem dX7_move_46 : decode cX7_move 46 = .ok (.dup, 1) := by decide +kernel
theorem dX7_move_47 : decode cX7_move 47 = .ok (.ldc 236, 2) := by decide +kernel
theorem dX7_move_49 : decode cX7_move 49 = .ok (.invokespecial 106, 3) := by decide +kernel
theorem dX7_move_52 : decode cX7_move 52 = .ok (.athrow, 1) := by decide +kernel
theorem dX7_move_53 : decode cX7_move 53 = .ok (.aload_n 0, 1) := by decide +kernel
theorem dX7_move_54 : decode cX7_move 54 = .ok (.invokevirtual 218, 3) := by decide +kernel
theorem dX7_move_57 : decode cX7_move 57 = .ok (.aload_n 0, 1) := by decide +kernel
theorem dX7_move_58 : decode cX7_move 58 = .ok (.getfield 12, 3) := by decide +kernel
theorem dX7_move_61 : decode cX7_move 61 = .ok (.iload_n 1, 1) := by decide +kernel
theorem dX7_move_62 : decode cX7_move 62 = .ok (.invokestatic 224, 3) := by decide +kernel
theorem dX7_move_65 : decode cX7_move 65 = .ok (.iload_n 1, 1) := by decide +kernel
theorem dX7_move_66 : decode cX7_move 66 = .ok (.invokestatic 238, 3) := by decide +kernel
theorem dX7_move_69 : decode cX7_move 69 = .ok (.invokevirtual 241, 3) := by decide +kernel
theorem dX7_move_72 : decode cX7_move 72 = .ok (.aload_n 0, 1) := by decide +kernel
theorem dX7_move_73 : decode cX7_move 73 = .ok (.getfield 12, 3) := by decide +kernel
theorem dX7_move_76 : decode cX7_move 76 = .ok (.iload_n 1, 1) := by decide +kernel
theorem dX7_move_77 : decode cX7_move 77 = .ok (.invokestatic 224, 3) := by decide +kernel
theorem dX7_move_80 : decode cX7_move 80 = .ok (.invokevirtual 133, 3) := by decide +kernel
theorem dX7_move_83 : decode cX7_move 83 = .ok (.ireturn, 1) := by decide +kernel
theorem dX7_moves_0 : decode cX7_moves 0 = .ok (.aload_n 0, 1) := by decide +kernel
theorem dX7_moves_1 : decode cX7_moves 1 = .ok (.invokevirtual 229, 3) := by decide +kernel
theorem dX7_moves_4 : decode cX7_moves 4 = .ok (.ifCond .ne 5, 3) := by decide +kernel
theorem dX7_moves_7 : decode cX7_moves 7 = .ok (.iconst 0, 1) := by decide +kernel
theorem dX7_moves_8 : decode cX7_moves 8 = .ok (.ireturn, 1) := by decide +kernel
theorem dX7_moves_9 : decode cX7_moves 9 = .ok (.iconst 0, 1) := by decide +kernel
theorem dX7_moves_10 : decode cX7_moves 10 = .ok (.istore_n 1, 1) := by decide +kernel
theorem dX7_moves_11 : decode cX7_moves 11 = .ok (.iconst 0, 1) := by decide +kernel
theorem dX7_moves_12 : decode cX7_moves 12 = .ok (.istore_n 2, 1) := by decide +kernel
theorem dX7_moves_13 : decode cX7_moves 13 = .ok (.iload_n 2, 1) := by decide +kernel
theorem dX7_moves_14 : decode cX7_moves 14 = .ok (.iconst 2, 1) := by decide +kernel
theorem dX7_moves_15 : decode cX7_moves 15 = .ok (.aload_n 0, 1) := by decide +kernel
theorem dX7_moves_16 : decode cX7_moves 16 = .ok (.getfield 12, 3) := by decide +kernel
theorem dX7_moves_19 : decode cX7_moves 19 = .ok (.getfield 79, 3) := by decide +kernel
theorem dX7_moves_22 : decode cX7_moves 22 = .ok (.imul, 1) := by decide +kernel
theorem dX7_moves_23 : decode cX7_moves 23 = .ok (.if_icmp .ge 29, 3) := by decide +kernel
theorem dX7_moves_26 : decode cX7_moves 26 = .ok (.iload_n 2, 1) := by decide +kernel
theorem dX7_moves_27 : decode cX7_moves 27 = .ok (.bipush 8, 2) := by decide +kernel
theorem dX7_moves_29 : decode cX7_moves 29 = .ok (.if_icmp .ge 23, 3) := by decide +kernel
theorem dX7_moves_32 : decode cX7_moves 32 = .ok (.aload_n 0, 1) := by decide +kernel
theorem dX7_moves_33 : decode cX7_moves 33 = .ok (.iload_n 2, 1) := by decide +kernel
theorem dX7_moves_34 : decode cX7_moves 34 = .ok (.invokevirtual 233, 3) := by decide +kernel
theorem dX7_moves_37 : decode cX7_moves 37 = .ok (.ifCond .eq 9, 3) := by decide +kernel
theorem dX7_moves_40 : decode cX7_moves 40 = .ok (.iload_n 1, 1) := by decide +kernel
theorem dX7_moves_41 : decode cX7_moves 41 = .ok (.iconst 1, 1) := by decide +kernel
theorem dX7_moves_42 : decode cX7_moves 42 = .ok (.iload_n 2, 1) := by decide +kernel
theorem dX7_moves_43 : decode cX7_moves 43 = .ok (.ishl, 1) := by decide +kernel
theorem dX7_moves_44 : decode cX7_moves 44 = .ok (.ior, 1) := by decide +kernel
theorem dX7_moves_45 : decode cX7_moves 45 = .ok (.istore_n 1, 1) := by decide +kernel
theorem dX7_moves_46 : decode cX7_moves 46 = .ok (.iinc 2 1, 3) := by decide +kernel
theorem dX7_moves_49 : decode cX7_moves 49 = .ok (.goto (-36), 3) := by decide +kernel
theorem dX7_moves_52 : decode cX7_moves 52 = .ok (.iload_n 1, 1) := by decide +kernel
theorem dX7_moves_53 : decode cX7_moves 53 = .ok (.ireturn, 1) := by decide +kernel
theorem dX7_tip_0 : decode cX7_tip 0 = .ok (.aload_n 0, 1) := by decide +kernel
theorem dX7_tip_1 : decode cX7_tip 1 = .ok (.getfield 32, 3) := by decide +kernel
theorem dX7_tip_4 : decode cX7_tip 4 = .ok (.aload_n 0, 1) := by decide +kernel
theorem dX7_tip_5 : decode cX7_tip 5 = .ok (.getfield 12, 3) := by decide +kernel
theorem dX7_tip_8 : decode cX7_tip 8 = .ok (.aload_n 0, 1) := by decide +kernel
theorem dX7_tip_9 : decode cX7_tip 9 = .ok (.getfield 12, 3) := by decide +kernel
theorem dX7_tip_12 : decode cX7_tip 12 = .ok (.getfield 172, 3) := by decide +kernel
theorem dX7_tip_15 : decode cX7_tip 15 = .ok (.invokevirtual 175, 3) := by decide +kernel
theorem dX7_tip_18 : decode cX7_tip 18 = .ok (.iload_n 1, 1) := by decide +kernel
theorem dX7_tip_19 : decode cX7_tip 19 = .ok (.ifCond .eq 13, 3) := by decide +kernel
theorem dX7_tip_22 : decode cX7_tip 22 = .ok (.aload_n 0, 1) := by decide +kernel
theorem dX7_tip_23 : decode cX7_tip 23 = .ok (.getfield 32, 3) := by decide +kernel
theorem dX7_tip_26 : decode cX7_tip 26 = .ok (.getfield 244, 3) := by decide +kernel
theorem dX7_tip_29 : decode cX7_tip 29 = .ok (.goto 10, 3) := by decide +kernel
theorem dX7_tip_32 : decode cX7_tip 32 = .ok (.aload_n 0, 1) := by decide +kernel
theorem dX7_tip_33 : decode cX7_tip 33 = .ok (.getfield 32, 3) := by decide +kernel
theorem dX7_tip_36 : decode cX7_tip 36 = .ok (.getfield 247, 3) := by decide +kernel
theorem dX7_tip_39 : decode cX7_tip 39 = .ok (.ireturn, 1) := by decide +kernel
theorem dX7_fault_0 : decode cX7_fault 0 = .ok (.aload_n 0, 1) := by decide +kernel
theorem dX7_fault_1 : decode cX7_fault 1 = .ok (.getfield 32, 3) := by decide +kernel
theorem dX7_fault_4 : decode cX7_fault 4 = .ok (.aload_n 0, 1) := by decide +kernel
theorem dX7_fault_5 : decode cX7_fault 5 = .ok (.getfield 12, 3) := by decide +kernel
theorem dX7_fault_8 : decode cX7_fault 8 = .ok (.aload_n 0, 1) := by decide +kernel
theorem dX7_fault_9 : decode cX7_fault 9 = .ok (.getfield 12, 3) := by decide +kernel
theorem dX7_fault_12 : decode cX7_fault 12 = .ok (.getfield 172, 3) := by decide +kernel
theorem dX7_fault_15 : decode cX7_fault 15 = .ok (.invokevirtual 175, 3) := by decide +kernel
theorem dX7_fault_18 : decode cX7_fault 18 = .ok (.aload_n 0, 1) := by decide +kernel
theorem dX7_fault_19 : decode cX7_fault 19 = .ok (.getfield 32, 3) := by decide +kernel
theorem dX7_fault_22 : decode cX7_fault 22 = .ok (.getfield 250, 3) := by decide +kernel
theorem dX7_fault_25 : decode cX7_fault 25 = .ok (.ireturn, 1) := by decide +kernel
theorem dX7_faultyLink_0 : decode cX7_faultyLink 0 = .ok (.aload_n 0, 1) := by decide +kernel
theorem dX7_faultyLink_1 : decode cX7_faultyLink 1 = .ok (.getfield 32, 3) := by decide +kernel
theorem dX7_faultyLink_4 : decode cX7_faultyLink 4 = .ok (.aload_n 0, 1) := by decide +kernel
theorem dX7_faultyLink_5 : decode cX7_faultyLink 5 = .ok (.getfield 12, 3) := by decide +kernel
theorem dX7_faultyLink_8 : decode cX7_faultyLink 8 = .ok (.aload_n 0, 1) := by decide +kernel
theorem dX7_faultyLink_9 : decode cX7_faultyLink 9 = .ok (.getfield 12, 3) := by decide +kernel
theorem dX7_faultyLink_12 : decode cX7_faultyLink 12 = .ok (.getfield 172, 3) := by decide +kernel
theorem dX7_faultyLink_15 : decode cX7_faultyLink 15 = .ok (.invokevirtual 175, 3) := by decide +kernel
theorem dX7_faultyLink_18 : decode cX7_faultyLink 18 = .ok (.aload_n 0, 1) := by decide +kernel
theorem dX7_faultyLink_19 : decode cX7_faultyLink 19 = .ok (.getfield 32, 3) := by decide +kernel
theorem dX7_faultyLink_22 : decode cX7_faultyLink 22 = .ok (.getfield 250, 3) := by decide +kernel
theorem dX7_faultyLink_25 : decode cX7_faultyLink 25 = .ok (.ifCond .ne 13, 3) := by decide +kernel
theorem dX7_faultyLink_28 : decode cX7_faultyLink 28 = .ok (.new 155, 3) := by decide +kernel
theorem dX7_faultyLink_31 : decode cX7_faultyLink 31 = .ok (.dup, 1) := by decide +kernel
theorem dX7_faultyLink_32 : decode cX7_faultyLink 32 = .ok (.ldc 253, 2) := by decide +kernel
theorem dX7_faultyLink_34 : decode cX7_faultyLink 34 = .ok (.invokespecial 159, 3) := by decide +kernel
theorem dX7_faultyLink_37 : decode cX7_faultyLink 37 = .ok (.athrow, 1) := by decide +kernel
theorem dX7_faultyLink_38 : decode cX7_faultyLink 38 = .ok (.aload_n 0, 1) := by decide +kernel
theorem dX7_faultyLink_39 : decode cX7_faultyLink 39 = .ok (.getfield 32, 3) := by decide +kernel
theorem dX7_faultyLink_42 : decode cX7_faultyLink 42 = .ok (.getfield 255, 3) := by decide +kernel
theorem dX7_faultyLink_45 : decode cX7_faultyLink 45 = .ok (.ireturn, 1) := by decide +kernel
theorem dX7_linksAt_0 : decode cX7_linksAt 0 = .ok (.iload_n 1, 1) := by decide +kernel
theorem dX7_linksAt_1 : decode cX7_linksAt 1 = .ok (.iload_n 2, 1) := by decide +kernel
theorem dX7_linksAt_2 : decode cX7_linksAt 2 = .ok (.invokestatic 137, 3) := by decide +kernel
theorem dX7_linksAt_5 : decode cX7_linksAt 5 = .ok (.aload_n 0, 1) := by decide +kernel
theorem dX7_linksAt_6 : decode cX7_linksAt 6 = .ok (.getfield 32, 3) := by decide +kernel
theorem dX7_linksAt_9 : decode cX7_linksAt 9 = .ok (.aload_n 0, 1) := by decide +kernel
theorem dX7_linksAt_10 : decode cX7_linksAt 10 = .ok (.getfield 12, 3) := by decide +kernel
theorem dX7_linksAt_13 : decode cX7_linksAt 13 = .ok (.aload_n 0, 1) := by decide +kernel
theorem dX7_linksAt_14 : decode cX7_linksAt 14 = .ok (.getfield 12, 3) := by decide +kernel
theorem dX7_linksAt_17 : decode cX7_linksAt 17 = .ok (.getfield 172, 3) := by decide +kernel
theorem dX7_linksAt_20 : decode cX7_linksAt 20 = .ok (.invokevirtual 175, 3) := by decide +kernel
theorem dX7_linksAt_23 : decode cX7_linksAt 23 = .ok (.iconst 0, 1) := by decide +kernel
theorem dX7_linksAt_24 : decode cX7_linksAt 24 = .ok (.istore_n 3, 1) := by decide +kernel
theorem dX7_linksAt_25 : decode cX7_linksAt 25 = .ok (.iconst 0, 1) := by decide +kernel
theorem dX7_linksAt_26 : decode cX7_linksAt 26 = .ok (.istore 4, 2) := by decide +kernel
theorem dX7_linksAt_28 : decode cX7_linksAt 28 = .ok (.iload 4, 2) := by decide +kernel
theorem dX7_linksAt_30 : decode cX7_linksAt 30 = .ok (.aload_n 0, 1) := by decide +kernel
theorem dX7_linksAt_31 : decode cX7_linksAt 31 = .ok (.getfield 12, 3) := by decide +kernel
theorem dX7_linksAt_34 : decode cX7_linksAt 34 = .ok (.getfield 79, 3) := by decide +kernel
theorem dX7_linksAt_37 : decode cX7_linksAt 37 = .ok (.if_icmp .ge 76, 3) := by decide +kernel
theorem dX7_linksAt_40 : decode cX7_linksAt 40 = .ok (.iload 4, 2) := by decide +kernel
theorem dX7_linksAt_42 : decode cX7_linksAt 42 = .ok (.iconst 4, 1) := by decide +kernel
theorem dX7_linksAt_43 : decode cX7_linksAt 43 = .ok (.if_icmp .ge 70, 3) := by decide +kernel
theorem dX7_linksAt_46 : decode cX7_linksAt 46 = .ok (.iconst 0, 1) := by decide +kernel
theorem dX7_linksAt_47 : decode cX7_linksAt 47 = .ok (.istore 5, 2) := by decide +kernel
theorem dX7_linksAt_49 : decode cX7_linksAt 49 = .ok (.iload 5, 2) := by decide +kernel
theorem dX7_linksAt_51 : decode cX7_linksAt 51 = .ok (.aload_n 0, 1) := by decide +kernel
theorem dX7_linksAt_52 : decode cX7_linksAt 52 = .ok (.getfield 12, 3) := by decide +kernel
theorem dX7_linksAt_55 : decode cX7_linksAt 55 = .ok (.getfield 185, 3) := by decide +kernel
theorem dX7_linksAt_58 : decode cX7_linksAt 58 = .ok (.iload 4, 2) := by decide +kernel
theorem dX7_linksAt_60 : decode cX7_linksAt 60 = .ok (.iaload, 1) := by decide +kernel
theorem dX7_linksAt_61 : decode cX7_linksAt 61 = .ok (.if_icmp .gt 46, 3) := by decide +kernel
theorem dX7_linksAt_64 : decode cX7_linksAt 64 = .ok (.aload_n 0, 1) := by decide +kernel
theorem dX7_linksAt_65 : decode cX7_linksAt 65 = .ok (.getfield 32, 3) := by decide +kernel
theorem dX7_linksAt_68 : decode cX7_linksAt 68 = .ok (.iload 4, 2) := by decide +kernel
theorem dX7_linksAt_70 : decode cX7_linksAt 70 = .ok (.iload 5, 2) := by decide +kernel
theorem dX7_linksAt_72 : decode cX7_linksAt 72 = .ok (.invokevirtual 258, 3) := by decide +kernel
theorem dX7_linksAt_75 : decode cX7_linksAt 75 = .ok (.iload_n 1, 1) := by decide +kernel
theorem dX7_linksAt_76 : decode cX7_linksAt 76 = .ok (.if_icmp .ne 25, 3) := by decide +kernel
theorem dX7_linksAt_79 : decode cX7_linksAt 79 = .ok (.aload_n 0, 1) := by decide +kernel
theorem dX7_linksAt_80 : decode cX7_linksAt 80 = .ok (.getfield 32, 3) := by decide +kernel
theorem dX7_linksAt_83 : decode cX7_linksAt 83 = .ok (.iload 4, 2) := by decide +kernel
theorem dX7_linksAt_85 : decode cX7_linksAt 85 = .ok (.iload 5, 2) := by decide +kernel
theorem dX7_linksAt_87 : decode cX7_linksAt 87 = .ok (.invokevirtual 261, 3) := by decide +kernel
theorem dX7_linksAt_90 : decode cX7_linksAt 90 = .ok (.iload_n 2, 1) := by decide +kernel
theorem dX7_linksAt_91 : decode cX7_linksAt 91 = .ok (.if_icmp .ne 10, 3) := by decide +kernel
theorem dX7_linksAt_94 : decode cX7_linksAt 94 = .ok (.iload_n 3, 1) := by decide +kernel
theorem dX7_linksAt_95 : decode cX7_linksAt 95 = .ok (.iconst 1, 1) := by decide +kernel
theorem dX7_linksAt_96 : decode cX7_linksAt 96 = .ok (.iload 4, 2) := by decide +kernel
theorem dX7_linksAt_98 : decode cX7_linksAt 98 = .ok (.ishl, 1) := by decide +kernel
theorem dX7_linksAt_99 : decode cX7_linksAt 99 = .ok (.ior, 1) := by decide +kernel
theorem dX7_linksAt_100 : decode cX7_linksAt 100 = .ok (.istore_n 3, 1) := by decide +kernel
theorem dX7_linksAt_101 : decode cX7_linksAt 101 = .ok (.iinc 5 1, 3) := by decide +kernel
theorem dX7_linksAt_104 : decode cX7_linksAt 104 = .ok (.goto (-55), 3) := by decide +kernel
theorem dX7_linksAt_107 : decode cX7_linksAt 107 = .ok (.iinc 4 1, 3) := by decide +kernel
theorem dX7_linksAt_110 : decode cX7_linksAt 110 = .ok (.goto (-82), 3) := by decide +kernel
theorem dX7_linksAt_113 : decode cX7_linksAt 113 = .ok (.iload_n 3, 1) := by decide +kernel
theorem dX7_linksAt_114 : decode cX7_linksAt 114 = .ok (.ireturn, 1) := by decide +kernel
theorem dX7_poseNumber_0 : decode cX7_poseNumber 0 = .ok (.aload_n 0, 1) := by decide +kernel
theorem dX7_poseNumber_1 : decode cX7_poseNumber 1 = .ok (.getfield 12, 3) := by decide +kernel
theorem dX7_poseNumber_4 : decode cX7_poseNumber 4 = .ok (.aload_n 0, 1) := by decide +kernel
theorem dX7_poseNumber_5 : decode cX7_poseNumber 5 = .ok (.getfield 12, 3) := by decide +kernel
theorem dX7_poseNumber_8 : decode cX7_poseNumber 8 = .ok (.getfield 172, 3) := by decide +kernel
theorem dX7_poseNumber_11 : decode cX7_poseNumber 11 = .ok (.invokevirtual 264, 3) := by decide +kernel
theorem dX7_poseNumber_14 : decode cX7_poseNumber 14 = .ok (.ireturn, 1) := by decide +kernel
theorem dX7_clearance_0 : decode cX7_clearance 0 = .ok (.aload_n 0, 1) := by decide +kernel
theorem dX7_clearance_1 : decode cX7_clearance 1 = .ok (.getfield 12, 3) := by decide +kernel
theorem dX7_clearance_4 : decode cX7_clearance 4 = .ok (.getfield 79, 3) := by decide +kernel
theorem dX7_clearance_7 : decode cX7_clearance 7 = .ok (.ifCond .le 13, 3) := by decide +kernel
theorem dX7_clearance_10 : decode cX7_clearance 10 = .ok (.aload_n 0, 1) := by decide +kernel
theorem dX7_clearance_11 : decode cX7_clearance 11 = .ok (.getfield 12, 3) := by decide +kernel
theorem dX7_clearance_14 : decode cX7_clearance 14 = .ok (.getfield 143, 3) := by decide +kernel
theorem dX7_clearance_17 : decode cX7_clearance 17 = .ok (.ifCond .gt 14, 3) := by decide +kernel
theorem dX7_clearance_20 : decode cX7_clearance 20 = .ok (.new 155, 3) := by decide +kernel
theorem dX7_clearance_23 : decode cX7_clearance 23 = .ok (.dup, 1) := by decide +kernel
theorem dX7_clearance_24 : decode cX7_clearance 24 = .ok (.ldc_w 268, 3) := by decide +kernel
theorem dX7_clearance_27 : decode cX7_clearance 27 = .ok (.invokespecial 159, 3) := by decide +kernel
theorem dX7_clearance_30 : decode cX7_clearance 30 = .ok (.athrow, 1) := by decide +kernel
theorem dX7_clearance_31 : decode cX7_clearance 31 = .ok (.aload_n 0, 1) := by decide +kernel
theorem dX7_clearance_32 : decode cX7_clearance 32 = .ok (.getfield 32, 3) := by decide +kernel
theorem dX7_clearance_35 : decode cX7_clearance 35 = .ok (.aload_n 0, 1) := by decide +kernel
theorem dX7_clearance_36 : decode cX7_clearance 36 = .ok (.getfield 12, 3) := by decide +kernel
theorem dX7_clearance_39 : decode cX7_clearance 39 = .ok (.aload_n 0, 1) := by decide +kernel
theorem dX7_clearance_40 : decode cX7_clearance 40 = .ok (.getfield 12, 3) := by decide +kernel
theorem dX7_clearance_43 : decode cX7_clearance 43 = .ok (.getfield 172, 3) := by decide +kernel
theorem dX7_clearance_46 : decode cX7_clearance 46 = .ok (.invokevirtual 175, 3) := by decide +kernel
theorem dX7_clearance_49 : decode cX7_clearance 49 = .ok (.ldc_w 270, 3) := by decide +kernel
theorem dX7_clearance_52 : decode cX7_clearance 52 = .ok (.istore_n 1, 1) := by decide +kernel
theorem dX7_clearance_53 : decode cX7_clearance 53 = .ok (.iconst 0, 1) := by decide +kernel
theorem dX7_clearance_54 : decode cX7_clearance 54 = .ok (.istore_n 2, 1) := by decide +kernel
theorem dX7_clearance_55 : decode cX7_clearance 55 = .ok (.iload_n 2, 1) := by decide +kernel
theorem dX7_clearance_56 : decode cX7_clearance 56 = .ok (.aload_n 0, 1) := by decide +kernel
theorem dX7_clearance_57 : decode cX7_clearance 57 = .ok (.getfield 12, 3) := by decide +kernel
theorem dX7_clearance_60 : decode cX7_clearance 60 = .ok (.getfield 79, 3) := by decide +kernel
theorem dX7_clearance_63 : decode cX7_clearance 63 = .ok (.if_icmp .ge 62, 3) := by decide +kernel
theorem dX7_clearance_66 : decode cX7_clearance 66 = .ok (.iload_n 2, 1) := by decide +kernel
theorem dX7_clearance_67 : decode cX7_clearance 67 = .ok (.iconst 4, 1) := by decide +kernel
theorem dX7_clearance_68 : decode cX7_clearance 68 = .ok (.if_icmp .ge 57, 3) := by decide +kernel
theorem dX7_clearance_71 : decode cX7_clearance 71 = .ok (.iconst 0, 1) := by decide +kernel
theorem dX7_clearance_72 : decode cX7_clearance 72 = .ok (.istore_n 3, 1) := by decide +kernel
theorem dX7_clearance_73 : decode cX7_clearance 73 = .ok (.iload_n 3, 1) := by decide +kernel
theorem dX7_clearance_74 : decode cX7_clearance 74 = .ok (.aload_n 0, 1) := by decide +kernel
theorem dX7_clearance_75 : decode cX7_clearance 75 = .ok (.getfield 12, 3) := by decide +kernel
theorem dX7_clearance_78 : decode cX7_clearance 78 = .ok (.getfield 185, 3) := by decide +kernel
theorem dX7_clearance_81 : decode cX7_clearance 81 = .ok (.iload_n 2, 1) := by decide +kernel
theorem dX7_clearance_82 : decode cX7_clearance 82 = .ok (.iaload, 1) := by decide +kernel
theorem dX7_clearance_83 : decode cX7_clearance 83 = .ok (.if_icmp .gt 36, 3) := by decide +kernel
theorem dX7_clearance_86 : decode cX7_clearance 86 = .ok (.iload_n 1, 1) := by decide +kernel
theorem dX7_clearance_87 : decode cX7_clearance 87 = .ok (.aload_n 0, 1) := by decide +kernel
theorem dX7_clearance_88 : decode cX7_clearance 88 = .ok (.aload_n 0, 1) := by decide +kernel
theorem dX7_clearance_89 : decode cX7_clearance 89 = .ok (.getfield 32, 3) := by decide +kernel
theorem dX7_clearance_92 : decode cX7_clearance 92 = .ok (.iload_n 2, 1) := by decide +kernel
theorem dX7_clearance_93 : decode cX7_clearance 93 = .ok (.iload_n 3, 1) := by decide +kernel
theorem dX7_clearance_94 : decode cX7_clearance 94 = .ok (.invokevirtual 258, 3) := by decide +kernel
theorem dX7_clearance_97 : decode cX7_clearance 97 = .ok (.aload_n 0, 1) := by decide +kernel
theorem dX7_clearance_98 : decode cX7_clearance 98 = .ok (.getfield 32, 3) := by decide +kernel
theorem dX7_clearance_101 : decode cX7_clearance 101 = .ok (.iload_n 2, 1) := by decide +kernel
theorem dX7_clearance_102 : decode cX7_clearance 102 = .ok (.iload_n 3, 1) := by decide +kernel
theorem dX7_clearance_103 : decode cX7_clearance 103 = .ok (.invokevirtual 261, 3) := by decide +kernel
theorem dX7_clearance_106 : decode cX7_clearance 106 = .ok (.invokevirtual 271, 3) := by decide +kernel
theorem dX7_clearance_109 : decode cX7_clearance 109 = .ok (.invokestatic 274, 3) := by decide +kernel
theorem dX7_clearance_112 : decode cX7_clearance 112 = .ok (.istore_n 1, 1) := by decide +kernel
theorem dX7_clearance_113 : decode cX7_clearance 113 = .ok (.iinc 3 1, 3) := by decide +kernel
theorem dX7_clearance_116 : decode cX7_clearance 116 = .ok (.goto (-43), 3) := by decide +kernel
theorem dX7_clearance_119 : decode cX7_clearance 119 = .ok (.iinc 2 1, 3) := by decide +kernel
theorem dX7_clearance_122 : decode cX7_clearance 122 = .ok (.goto (-67), 3) := by decide +kernel
theorem dX7_clearance_125 : decode cX7_clearance 125 = .ok (.iload_n 1, 1) := by decide +kernel
theorem dX7_clearance_126 : decode cX7_clearance 126 = .ok (.ireturn, 1) := by decide +kernel
theorem dX7_winding_0 : decode cX7_winding 0 = .ok (.iconst 0, 1) := by decide +kernel
theorem dX7_winding_1 : decode cX7_winding 1 = .ok (.istore_n 1, 1) := by decide +kernel
theorem dX7_winding_2 : decode cX7_winding 2 = .ok (.iconst 0, 1) := by decide +kernel
theorem dX7_winding_3 : decode cX7_winding 3 = .ok (.istore_n 2, 1) := by decide +kernel
theorem dX7_winding_4 : decode cX7_winding 4 = .ok (.iload_n 2, 1) := by decide +kernel
theorem dX7_winding_5 : decode cX7_winding 5 = .ok (.aload_n 0, 1) := by decide +kernel
theorem dX7_winding_6 : decode cX7_winding 6 = .ok (.getfield 12, 3) := by decide +kernel
theorem dX7_winding_9 : decode cX7_winding 9 = .ok (.getfield 79, 3) := by decide +kernel
theorem dX7_winding_12 : decode cX7_winding 12 = .ok (.if_icmp .ge 26, 3) := by decide +kernel
theorem dX7_winding_15 : decode cX7_winding 15 = .ok (.iload_n 2, 1) := by decide +kernel
theorem dX7_winding_16 : decode cX7_winding 16 = .ok (.iconst 4, 1) := by decide +kernel
theorem dX7_winding_17 : decode cX7_winding 17 = .ok (.if_icmp .ge 21, 3) := by decide +kernel
theorem dX7_winding_20 : decode cX7_winding 20 = .ok (.iload_n 1, 1) := by decide +kernel
theorem dX7_winding_21 : decode cX7_winding 21 = .ok (.aload_n 0, 1) := by decide +kernel
theorem dX7_winding_22 : decode cX7_winding 22 = .ok (.getfield 12, 3) := by decide +kernel
theorem dX7_winding_25 : decode cX7_winding 25 = .ok (.getfield 172, 3) := by decide +kernel
theorem dX7_winding_28 : decode cX7_winding 28 = .ok (.iload_n 2, 1) := by decide +kernel
theorem dX7_winding_29 : decode cX7_winding 29 = .ok (.iaload, 1) := by decide +kernel
theorem dX7_winding_30 : decode cX7_winding 30 = .ok (.iadd, 1) := by decide +kernel
theorem dX7_winding_31 : decode cX7_winding 31 = .ok (.istore_n 1, 1) := by decide +kernel
theorem dX7_winding_32 : decode cX7_winding 32 = .ok (.iinc 2 1, 3) := by decide +kernel
theorem dX7_winding_35 : decode cX7_winding 35 = .ok (.goto (-31), 3) := by decide +kernel
theorem dX7_winding_38 : decode cX7_winding 38 = .ok (.iload_n 1, 1) := by decide +kernel
theorem dX7_winding_39 : decode cX7_winding 39 = .ok (.bipush 8, 2) := by decide +kernel
theorem dX7_winding_41 : decode cX7_winding 41 = .ok (.invokestatic 277, 3) := by decide +kernel
theorem dX7_winding_44 : decode cX7_winding 44 = .ok (.ireturn, 1) := by decide +kernel
theorem dX7_freePoses_0 : decode cX7_freePoses 0 = .ok (.aload_n 0, 1) := by decide +kernel
theorem dX7_freePoses_1 : decode cX7_freePoses 1 = .ok (.invokevirtual 280, 3) := by decide +kernel
theorem dX7_freePoses_4 : decode cX7_freePoses 4 = .ok (.iconst 0, 1) := by decide +kernel
theorem dX7_freePoses_5 : decode cX7_freePoses 5 = .ok (.istore_n 1, 1) := by decide +kernel
theorem dX7_freePoses_6 : decode cX7_freePoses 6 = .ok (.iconst 0, 1) := by decide +kernel
theorem dX7_freePoses_7 : decode cX7_freePoses 7 = .ok (.istore_n 2, 1) := by decide +kernel
theorem dX7_freePoses_8 : decode cX7_freePoses 8 = .ok (.iload_n 2, 1) := by decide +kernel
theorem dX7_freePoses_9 : decode cX7_freePoses 9 = .ok (.aload_n 0, 1) := by decide +kernel
theorem dX7_freePoses_10 : decode cX7_freePoses 10 = .ok (.getfield 39, 3) := by decide +kernel
theorem dX7_freePoses_13 : decode cX7_freePoses 13 = .ok (.getfield 283, 3) := by decide +kernel
theorem dX7_freePoses_16 : decode cX7_freePoses 16 = .ok (.if_icmp .ge 23, 3) := by decide +kernel
theorem dX7_freePoses_19 : decode cX7_freePoses 19 = .ok (.aload_n 0, 1) := by decide +kernel
theorem dX7_freePoses_20 : decode cX7_freePoses 20 = .ok (.getfield 39, 3) := by decide +kernel
theorem dX7_freePoses_23 : decode cX7_freePoses 23 = .ok (.iload_n 2, 1) := by decide +kernel
theorem dX7_freePoses_24 : decode cX7_freePoses 24 = .ok (.invokevirtual 285, 3) := by decide +kernel
theorem dX7_freePoses_27 : decode cX7_freePoses 27 = .ok (.ifCond .eq 6, 3) := by decide +kernel
theorem dX7_freePoses_30 : decode cX7_freePoses 30 = .ok (.iinc 1 1, 3) := by decide +kernel
theorem dX7_freePoses_33 : decode cX7_freePoses 33 = .ok (.iinc 2 1, 3) := by decide +kernel
theorem dX7_freePoses_36 : decode cX7_freePoses 36 = .ok (.goto (-28), 3) := by decide +kernel
theorem dX7_freePoses_39 : decode cX7_freePoses 39 = .ok (.iload_n 1, 1) := by decide +kernel
theorem dX7_freePoses_40 : decode cX7_freePoses 40 = .ok (.ireturn, 1) := by decide +kernel
theorem dX7_poseValue_0 : decode cX7_poseValue 0 = .ok (.iload_n 1, 1) := by decide +kernel
theorem dX7_poseValue_1 : decode cX7_poseValue 1 = .ok (.ifCond .lt 30, 3) := by decide +kernel
theorem dX7_poseValue_4 : decode cX7_poseValue 4 = .ok (.iload_n 1, 1) := by decide +kernel
theorem dX7_poseValue_5 : decode cX7_poseValue 5 = .ok (.aload_n 0, 1) := by decide +kernel
theorem dX7_poseValue_6 : decode cX7_poseValue 6 = .ok (.getfield 12, 3) := by decide +kernel
theorem dX7_poseValue_9 : decode cX7_poseValue 9 = .ok (.invokevirtual 163, 3) := by decide +kernel
theorem dX7_poseValue_12 : decode cX7_poseValue 12 = .ok (.if_icmp .ge 19, 3) := by decide +kernel
theorem dX7_poseValue_15 : decode cX7_poseValue 15 = .ok (.aload_n 0, 1) := by decide +kernel
theorem dX7_poseValue_16 : decode cX7_poseValue 16 = .ok (.getfield 12, 3) := by decide +kernel
theorem dX7_poseValue_19 : decode cX7_poseValue 19 = .ok (.iload_n 2, 1) := by decide +kernel
theorem dX7_poseValue_20 : decode cX7_poseValue 20 = .ok (.invokevirtual 119, 3) := by decide +kernel
theorem dX7_poseValue_23 : decode cX7_poseValue 23 = .ok (.ifCond .eq 8, 3) := by decide +kernel
theorem dX7_poseValue_26 : decode cX7_poseValue 26 = .ok (.iload_n 2, 1) := by decide +kernel
theorem dX7_poseValue_27 : decode cX7_poseValue 27 = .ok (.iconst 4, 1) := by decide +kernel
theorem dX7_poseValue_28 : decode cX7_poseValue 28 = .ok (.if_icmp .lt 14, 3) := by decide +kernel
theorem dX7_poseValue_31 : decode cX7_poseValue 31 = .ok (.new 122, 3) := by decide +kernel
theorem dX7_poseValue_34 : decode cX7_poseValue 34 = .ok (.dup, 1) := by decide +kernel
theorem dX7_poseValue_35 : decode cX7_poseValue 35 = .ok (.ldc_w 288, 3) := by decide +kernel
theorem dX7_poseValue_38 : decode cX7_poseValue 38 = .ok (.invokespecial 126, 3) := by decide +kernel
theorem dX7_poseValue_41 : decode cX7_poseValue 41 = .ok (.athrow, 1) := by decide +kernel
theorem dX7_poseValue_42 : decode cX7_poseValue 42 = .ok (.aload_n 0, 1) := by decide +kernel
theorem dX7_poseValue_43 : decode cX7_poseValue 43 = .ok (.getfield 12, 3) := by decide +kernel
theorem dX7_poseValue_46 : decode cX7_poseValue 46 = .ok (.iload_n 1, 1) := by decide +kernel
theorem dX7_poseValue_47 : decode cX7_poseValue 47 = .ok (.aload_n 0, 1) := by decide +kernel
theorem dX7_poseValue_48 : decode cX7_poseValue 48 = .ok (.getfield 64, 3) := by decide +kernel
theorem dX7_poseValue_51 : decode cX7_poseValue 51 = .ok (.invokevirtual 290, 3) := by decide +kernel
theorem dX7_poseValue_54 : decode cX7_poseValue 54 = .ok (.aload_n 0, 1) := by decide +kernel
theorem dX7_poseValue_55 : decode cX7_poseValue 55 = .ok (.getfield 64, 3) := by decide +kernel
theorem dX7_poseValue_58 : decode cX7_poseValue 58 = .ok (.iload_n 2, 1) := by decide +kernel
theorem dX7_poseValue_59 : decode cX7_poseValue 59 = .ok (.iaload, 1) := by decide +kernel
theorem dX7_poseValue_60 : decode cX7_poseValue 60 = .ok (.ireturn, 1) := by decide +kernel
theorem dX7_isFreePose_0 : decode cX7_isFreePose 0 = .ok (.aload_n 0, 1) := by decide +kernel
theorem dX7_isFreePose_1 : decode cX7_isFreePose 1 = .ok (.iload_n 1, 1) := by decide +kernel
theorem dX7_isFreePose_2 : decode cX7_isFreePose 2 = .ok (.invokevirtual 294, 3) := by decide +kernel
theorem dX7_isFreePose_5 : decode cX7_isFreePose 5 = .ok (.aload_n 0, 1) := by decide +kernel
theorem dX7_isFreePose_6 : decode cX7_isFreePose 6 = .ok (.getfield 12, 3) := by decide +kernel
theorem dX7_isFreePose_9 : decode cX7_isFreePose 9 = .ok (.iload_n 1, 1) := by decide +kernel
theorem dX7_isFreePose_10 : decode cX7_isFreePose 10 = .ok (.aload_n 0, 1) := by decide +kernel
theorem dX7_isFreePose_11 : decode cX7_isFreePose 11 = .ok (.getfield 64, 3) := by decide +kernel
theorem dX7_isFreePose_14 : decode cX7_isFreePose 14 = .ok (.invokevirtual 290, 3) := by decide +kernel
theorem dX7_isFreePose_17 : decode cX7_isFreePose 17 = .ok (.aload_n 0, 1) := by decide +kernel
theorem dX7_isFreePose_18 : decode cX7_isFreePose 18 = .ok (.getfield 32, 3) := by decide +kernel
theorem dX7_isFreePose_21 : decode cX7_isFreePose 21 = .ok (.aload_n 0, 1) := by decide +kernel
theorem dX7_isFreePose_22 : decode cX7_isFreePose 22 = .ok (.getfield 12, 3) := by decide +kernel
theorem dX7_isFreePose_25 : decode cX7_isFreePose 25 = .ok (.aload_n 0, 1) := by decide +kernel
theorem dX7_isFreePose_26 : decode cX7_isFreePose 26 = .ok (.getfield 64, 3) := by decide +kernel
theorem dX7_isFreePose_29 : decode cX7_isFreePose 29 = .ok (.invokevirtual 175, 3) := by decide +kernel
theorem dX7_isFreePose_32 : decode cX7_isFreePose 32 = .ok (.aload_n 0, 1) := by decide +kernel
theorem dX7_isFreePose_33 : decode cX7_isFreePose 33 = .ok (.getfield 32, 3) := by decide +kernel
theorem dX7_isFreePose_36 : decode cX7_isFreePose 36 = .ok (.getfield 250, 3) := by decide +kernel
theorem dX7_isFreePose_39 : decode cX7_isFreePose 39 = .ok (.ifCond .ne 7, 3) := by decide +kernel
theorem dX7_isFreePose_42 : decode cX7_isFreePose 42 = .ok (.iconst 1, 1) := by decide +kernel
theorem dX7_isFreePose_43 : decode cX7_isFreePose 43 = .ok (.goto 4, 3) := by decide +kernel
theorem dX7_isFreePose_46 : decode cX7_isFreePose 46 = .ok (.iconst 0, 1) := by decide +kernel
theorem dX7_isFreePose_47 : decode cX7_isFreePose 47 = .ok (.ireturn, 1) := by decide +kernel
theorem dX7_posesAt_0 : decode cX7_posesAt 0 = .ok (.iload_n 1, 1) := by decide +kernel
theorem dX7_posesAt_1 : decode cX7_posesAt 1 = .ok (.iload_n 2, 1) := by decide +kernel
theorem dX7_posesAt_2 : decode cX7_posesAt 2 = .ok (.invokestatic 137, 3) := by decide +kernel
theorem dX7_posesAt_5 : decode cX7_posesAt 5 = .ok (.aload_n 0, 1) := by decide +kernel
theorem dX7_posesAt_6 : decode cX7_posesAt 6 = .ok (.invokevirtual 280, 3) := by decide +kernel
theorem dX7_posesAt_9 : decode cX7_posesAt 9 = .ok (.iconst 0, 1) := by decide +kernel
theorem dX7_posesAt_10 : decode cX7_posesAt 10 = .ok (.istore_n 3, 1) := by decide +kernel
theorem dX7_posesAt_11 : decode cX7_posesAt 11 = .ok (.iconst 0, 1) := by decide +kernel
theorem dX7_posesAt_12 : decode cX7_posesAt 12 = .ok (.istore 4, 2) := by decide +kernel
theorem dX7_posesAt_14 : decode cX7_posesAt 14 = .ok (.iload 4, 2) := by decide +kernel
theorem dX7_posesAt_16 : decode cX7_posesAt 16 = .ok (.aload_n 0, 1) := by decide +kernel
theorem dX7_posesAt_17 : decode cX7_posesAt 17 = .ok (.getfield 39, 3) := by decide +kernel
theorem dX7_posesAt_20 : decode cX7_posesAt 20 = .ok (.getfield 283, 3) := by decide +kernel
theorem dX7_posesAt_23 : decode cX7_posesAt 23 = .ok (.if_icmp .ge 29, 3) := by decide +kernel
theorem dX7_posesAt_26 : decode cX7_posesAt 26 = .ok (.aload_n 0, 1) := by decide +kernel
theorem dX7_posesAt_27 : decode cX7_posesAt 27 = .ok (.getfield 39, 3) := by decide +kernel
theorem dX7_posesAt_30 : decode cX7_posesAt 30 = .ok (.iload 4, 2) := by decide +kernel
theorem dX7_posesAt_32 : decode cX7_posesAt 32 = .ok (.invokevirtual 298, 3) := by decide +kernel
theorem dX7_posesAt_35 : decode cX7_posesAt 35 = .ok (.iload_n 1, 1) := by decide +kernel
theorem dX7_posesAt_36 : decode cX7_posesAt 36 = .ok (.iload_n 2, 1) := by decide +kernel
theorem dX7_posesAt_37 : decode cX7_posesAt 37 = .ok (.invokestatic 301, 3) := by decide +kernel
theorem dX7_posesAt_40 : decode cX7_posesAt 40 = .ok (.if_icmp .ne 6, 3) := by decide +kernel
theorem dX7_posesAt_43 : decode cX7_posesAt 43 = .ok (.iinc 3 1, 3) := by decide +kernel
theorem dX7_posesAt_46 : decode cX7_posesAt 46 = .ok (.iinc 4 1, 3) := by decide +kernel
theorem dX7_posesAt_49 : decode cX7_posesAt 49 = .ok (.goto (-35), 3) := by decide +kernel
theorem dX7_posesAt_52 : decode cX7_posesAt 52 = .ok (.iload_n 3, 1) := by decide +kernel
theorem dX7_posesAt_53 : decode cX7_posesAt 53 = .ok (.ireturn, 1) := by decide +kernel
theorem dX7_connected_0 : decode cX7_connected 0 = .ok (.aload_n 0, 1) := by decide +kernel
theorem dX7_connected_1 : decode cX7_connected 1 = .ok (.invokevirtual 304, 3) := by decide +kernel
theorem dX7_connected_4 : decode cX7_connected 4 = .ok (.aload_n 0, 1) := by decide +kernel
theorem dX7_connected_5 : decode cX7_connected 5 = .ok (.getfield 39, 3) := by decide +kernel
theorem dX7_connected_8 : decode cX7_connected 8 = .ok (.getfield 307, 3) := by decide +kernel
theorem dX7_connected_11 : decode cX7_connected 11 = .ok (.ireturn, 1) := by decide +kernel
theorem dX7_reachableCells_0 : decode cX7_reachableCells 0 = .ok (.aload_n 0, 1) := by decide +kernel
theorem dX7_reachableCells_1 : decode cX7_reachableCells 1 = .ok (.invokevirtual 304, 3) := by decide +kernel
theorem dX7_reachableCells_4 : decode cX7_reachableCells 4 = .ok (.aload_n 0, 1) := by decide +kernel
theorem dX7_reachableCells_5 : decode cX7_reachableCells 5 = .ok (.invokevirtual 310, 3) := by decide +kernel
theorem dX7_reachableCells_8 : decode cX7_reachableCells 8 = .ok (.iconst 0, 1) := by decide +kernel
theorem dX7_reachableCells_9 : decode cX7_reachableCells 9 = .ok (.istore_n 1, 1) := by decide +kernel
theorem dX7_reachableCells_10 : decode cX7_reachableCells 10 = .ok (.iconst 0, 1) := by decide +kernel
theorem dX7_reachableCells_11 : decode cX7_reachableCells 11 = .ok (.istore_n 2, 1) := by decide +kernel
theorem dX7_reachableCells_12 : decode cX7_reachableCells 12 = .ok (.iload_n 2, 1) := by decide +kernel
theorem dX7_reachableCells_13 : decode cX7_reachableCells 13 = .ok (.sipush 441, 3) := by decide +kernel
theorem dX7_reachableCells_16 : decode cX7_reachableCells 16 = .ok (.if_icmp .ge 21, 3) := by decide +kernel
theorem dX7_reachableCells_19 : decode cX7_reachableCells 19 = .ok (.aload_n 0, 1) := by decide +kernel
theorem dX7_reachableCells_20 : decode cX7_reachableCells 20 = .ok (.getfield 68, 3) := by decide +kernel
theorem dX7_reachableCells_23 : decode cX7_reachableCells 23 = .ok (.iload_n 2, 1) := by decide +kernel
theorem dX7_reachableCells_24 : decode cX7_reachableCells 24 = .ok (.iaload, 1) := by decide +kernel
theorem dX7_reachableCells_25 : decode cX7_reachableCells 25 = .ok (.ifCond .le 6, 3) := by decide +kernel
theorem dX7_reachableCells_28 : decode cX7_reachableCells 28 = .ok (.iinc 1 1, 3) := by decide +kernel
theorem dX7_reachableCells_31 : decode cX7_reachableCells 31 = .ok (.iinc 2 1, 3) := by decide +kernel
theorem dX7_reachableCells_34 : decode cX7_reachableCells 34 = .ok (.goto (-22), 3) := by decide +kernel
theorem dX7_reachableCells_37 : decode cX7_reachableCells 37 = .ok (.iload_n 1, 1) := by decide +kernel
theorem dX7_reachableCells_38 : decode cX7_reachableCells 38 = .ok (.ireturn, 1) := by decide +kernel
theorem dX7_favorite_0 : decode cX7_favorite 0 = .ok (.aload_n 0, 1) := by decide +kernel
theorem dX7_favorite_1 : decode cX7_favorite 1 = .ok (.invokevirtual 304, 3) := by decide +kernel
theorem dX7_favorite_4 : decode cX7_favorite 4 = .ok (.aload_n 0, 1) := by decide +kernel
theorem dX7_favorite_5 : decode cX7_favorite 5 = .ok (.invokevirtual 313, 3) := by decide +kernel
theorem dX7_favorite_8 : decode cX7_favorite 8 = .ok (.aload_n 0, 1) := by decide +kernel
theorem dX7_favorite_9 : decode cX7_favorite 9 = .ok (.invokevirtual 310, 3) := by decide +kernel
theorem dX7_favorite_12 : decode cX7_favorite 12 = .ok (.iconst 0, 1) := by decide +kernel
theorem dX7_favorite_13 : decode cX7_favorite 13 = .ok (.istore_n 2, 1) := by decide +kernel
theorem dX7_favorite_14 : decode cX7_favorite 14 = .ok (.iconst 1, 1) := by decide +kernel
theorem dX7_favorite_15 : decode cX7_favorite 15 = .ok (.istore_n 3, 1) := by decide +kernel
theorem dX7_favorite_16 : decode cX7_favorite 16 = .ok (.iload_n 3, 1) := by decide +kernel
theorem dX7_favorite_17 : decode cX7_favorite 17 = .ok (.sipush 441, 3) := by decide +kernel
theorem dX7_favorite_20 : decode cX7_favorite 20 = .ok (.if_icmp .ge 26, 3) := by decide +kernel
theorem dX7_favorite_23 : decode cX7_favorite 23 = .ok (.aload_n 0, 1) := by decide +kernel
theorem dX7_favorite_24 : decode cX7_favorite 24 = .ok (.getfield 68, 3) := by decide +kernel
theorem dX7_favorite_27 : decode cX7_favorite 27 = .ok (.iload_n 3, 1) := by decide +kernel
theorem dX7_favorite_28 : decode cX7_favorite 28 = .ok (.iaload, 1) := by decide +kernel
theorem dX7_favorite_29 : decode cX7_favorite 29 = .ok (.aload_n 0, 1) := by decide +kernel
theorem dX7_favorite_30 : decode cX7_favorite 30 = .ok (.getfield 68, 3) := by decide +kernel
theorem dX7_favorite_33 : decode cX7_favorite 33 = .ok (.iload_n 2, 1) := by decide +kernel
theorem dX7_favorite_34 : decode cX7_favorite 34 = .ok (.iaload, 1) := by decide +kernel
theorem dX7_favorite_35 : decode cX7_favorite 35 = .ok (.if_icmp .le 5, 3) := by decide +kernel
theorem dX7_favorite_38 : decode cX7_favorite 38 = .ok (.iload_n 3, 1) := by decide +kernel
theorem dX7_favorite_39 : decode cX7_favorite 39 = .ok (.istore_n 2, 1) := by decide +kernel
theorem dX7_favorite_40 : decode cX7_favorite 40 = .ok (.iinc 3 1, 3) := by decide +kernel
theorem dX7_favorite_43 : decode cX7_favorite 43 = .ok (.goto (-27), 3) := by decide +kernel
theorem dX7_favorite_46 : decode cX7_favorite 46 = .ok (.iload_n 1, 1) := by decide +kernel
theorem dX7_favorite_47 : decode cX7_favorite 47 = .ok (.ifCond .eq 10, 3) := by decide +kernel
theorem dX7_favorite_50 : decode cX7_favorite 50 = .ok (.iload_n 2, 1) := by decide +kernel
theorem dX7_favorite_51 : decode cX7_favorite 51 = .ok (.invokestatic 316, 3) := by decide +kernel
theorem dX7_favorite_54 : decode cX7_favorite 54 = .ok (.goto 7, 3) := by decide +kernel
theorem dX7_favorite_57 : decode cX7_favorite 57 = .ok (.iload_n 2, 1) := by decide +kernel
theorem dX7_favorite_58 : decode cX7_favorite 58 = .ok (.invokestatic 318, 3) := by decide +kernel
theorem dX7_favorite_61 : decode cX7_favorite 61 = .ok (.ireturn, 1) := by decide +kernel
theorem dX7_farthest_0 : decode cX7_farthest 0 = .ok (.aload_n 0, 1) := by decide +kernel
theorem dX7_farthest_1 : decode cX7_farthest 1 = .ok (.invokevirtual 304, 3) := by decide +kernel
theorem dX7_farthest_4 : decode cX7_farthest 4 = .ok (.aload_n 0, 1) := by decide +kernel
theorem dX7_farthest_5 : decode cX7_farthest 5 = .ok (.invokevirtual 313, 3) := by decide +kernel
theorem dX7_farthest_8 : decode cX7_farthest 8 = .ok (.aload_n 0, 1) := by decide +kernel
theorem dX7_farthest_9 : decode cX7_farthest 9 = .ok (.getfield 39, 3) := by decide +kernel
theorem dX7_farthest_12 : decode cX7_farthest 12 = .ok (.aload_n 0, 1) := by decide +kernel
theorem dX7_farthest_13 : decode cX7_farthest 13 = .ok (.getfield 39, 3) := by decide +kernel
theorem dX7_farthest_16 : decode cX7_farthest 16 = .ok (.aload_n 0, 1) := by decide +kernel
theorem dX7_farthest_17 : decode cX7_farthest 17 = .ok (.getfield 39, 3) := by decide +kernel
theorem dX7_farthest_20 : decode cX7_farthest 20 = .ok (.getfield 307, 3) := by decide +kernel
theorem dX7_farthest_23 : decode cX7_farthest 23 = .ok (.iconst 1, 1) := by decide +kernel
theorem dX7_farthest_24 : decode cX7_farthest 24 = .ok (.isub, 1) := by decide +kernel
theorem dX7_farthest_25 : decode cX7_farthest 25 = .ok (.invokevirtual 320, 3) := by decide +kernel
theorem dX7_farthest_28 : decode cX7_farthest 28 = .ok (.invokevirtual 323, 3) := by decide +kernel
theorem dX7_farthest_31 : decode cX7_farthest 31 = .ok (.ireturn, 1) := by decide +kernel
theorem dX7_groups_0 : decode cX7_groups 0 = .ok (.aload_n 0, 1) := by decide +kernel
theorem dX7_groups_1 : decode cX7_groups 1 = .ok (.invokevirtual 280, 3) := by decide +kernel
theorem dX7_groups_4 : decode cX7_groups 4 = .ok (.aload_n 0, 1) := by decide +kernel
theorem dX7_groups_5 : decode cX7_groups 5 = .ok (.getfield 39, 3) := by decide +kernel
theorem dX7_groups_8 : decode cX7_groups 8 = .ok (.invokevirtual 326, 3) := by decide +kernel
theorem dX7_groups_11 : decode cX7_groups 11 = .ok (.iconst 0, 1) := by decide +kernel
theorem dX7_groups_12 : decode cX7_groups 12 = .ok (.istore_n 1, 1) := by decide +kernel
theorem dX7_groups_13 : decode cX7_groups 13 = .ok (.iconst 0, 1) := by decide +kernel
theorem dX7_groups_14 : decode cX7_groups 14 = .ok (.istore_n 2, 1) := by decide +kernel
theorem dX7_groups_15 : decode cX7_groups 15 = .ok (.iload_n 2, 1) := by decide +kernel
theorem dX7_groups_16 : decode cX7_groups 16 = .ok (.aload_n 0, 1) := by decide +kernel
theorem dX7_groups_17 : decode cX7_groups 17 = .ok (.getfield 39, 3) := by decide +kernel
theorem dX7_groups_20 : decode cX7_groups 20 = .ok (.getfield 283, 3) := by decide +kernel
theorem dX7_groups_23 : decode cX7_groups 23 = .ok (.if_icmp .ge 48, 3) := by decide +kernel
theorem dX7_groups_26 : decode cX7_groups 26 = .ok (.aload_n 0, 1) := by decide +kernel
theorem dX7_groups_27 : decode cX7_groups 27 = .ok (.getfield 39, 3) := by decide +kernel
theorem dX7_groups_30 : decode cX7_groups 30 = .ok (.getfield 307, 3) := by decide +kernel
theorem dX7_groups_33 : decode cX7_groups 33 = .ok (.istore_n 3, 1) := by decide +kernel
theorem dX7_groups_34 : decode cX7_groups 34 = .ok (.aload_n 0, 1) := by decide +kernel
theorem dX7_groups_35 : decode cX7_groups 35 = .ok (.getfield 39, 3) := by decide +kernel
theorem dX7_groups_38 : decode cX7_groups 38 = .ok (.iload_n 2, 1) := by decide +kernel
theorem dX7_groups_39 : decode cX7_groups 39 = .ok (.iconst 0, 1) := by decide +kernel
theorem dX7_groups_40 : decode cX7_groups 40 = .ok (.invokevirtual 329, 3) := by decide +kernel
theorem dX7_groups_43 : decode cX7_groups 43 = .ok (.aload_n 0, 1) := by decide +kernel
theorem dX7_groups_44 : decode cX7_groups 44 = .ok (.getfield 39, 3) := by decide +kernel
theorem dX7_groups_47 : decode cX7_groups 47 = .ok (.getfield 307, 3) := by decide +kernel
theorem dX7_groups_50 : decode cX7_groups 50 = .ok (.iload_n 3, 1) := by decide +kernel
theorem dX7_groups_51 : decode cX7_groups 51 = .ok (.if_icmp .le 14, 3) := by decide +kernel
theorem dX7_groups_54 : decode cX7_groups 54 = .ok (.iinc 1 1, 3) := by decide +kernel
theorem dX7_groups_57 : decode cX7_groups 57 = .ok (.aload_n 0, 1) := by decide +kernel
theorem dX7_groups_58 : decode cX7_groups 58 = .ok (.getfield 39, 3) := by decide +kernel
theorem dX7_groups_61 : decode cX7_groups 61 = .ok (.iload_n 3, 1) := by decide +kernel
theorem dX7_groups_62 : decode cX7_groups 62 = .ok (.invokevirtual 332, 3) := by decide +kernel
theorem dX7_groups_65 : decode cX7_groups 65 = .ok (.iinc 2 1, 3) := by decide +kernel
theorem dX7_groups_68 : decode cX7_groups 68 = .ok (.goto (-53), 3) := by decide +kernel
theorem dX7_groups_71 : decode cX7_groups 71 = .ok (.iload_n 1, 1) := by decide +kernel
theorem dX7_groups_72 : decode cX7_groups 72 = .ok (.ireturn, 1) := by decide +kernel
theorem dX7_freedom_0 : decode cX7_freedom 0 = .ok (.aload_n 0, 1) := by decide +kernel
theorem dX7_freedom_1 : decode cX7_freedom 1 = .ok (.invokevirtual 280, 3) := by decide +kernel
theorem dX7_freedom_4 : decode cX7_freedom 4 = .ok (.iconst 0, 1) := by decide +kernel
theorem dX7_freedom_5 : decode cX7_freedom 5 = .ok (.istore_n 1, 1) := by decide +kernel
theorem dX7_freedom_6 : decode cX7_freedom 6 = .ok (.iconst 0, 1) := by decide +kernel
theorem dX7_freedom_7 : decode cX7_freedom 7 = .ok (.istore_n 2, 1) := by decide +kernel
theorem dX7_freedom_8 : decode cX7_freedom 8 = .ok (.iconst 0, 1) := by decide +kernel
theorem dX7_freedom_9 : decode cX7_freedom 9 = .ok (.istore_n 3, 1) := by decide +kernel
theorem dX7_freedom_10 : decode cX7_freedom 10 = .ok (.iload_n 3, 1) := by decide +kernel
theorem dX7_freedom_11 : decode cX7_freedom 11 = .ok (.aload_n 0, 1) := by decide +kernel
theorem dX7_freedom_12 : decode cX7_freedom 12 = .ok (.getfield 39, 3) := by decide +kernel
theorem dX7_freedom_15 : decode cX7_freedom 15 = .ok (.getfield 283, 3) := by decide +kernel
theorem dX7_freedom_18 : decode cX7_freedom 18 = .ok (.if_icmp .ge 34, 3) := by decide +kernel
theorem dX7_freedom_21 : decode cX7_freedom 21 = .ok (.aload_n 0, 1) := by decide +kernel
theorem dX7_freedom_22 : decode cX7_freedom 22 = .ok (.getfield 39, 3) := by decide +kernel
theorem dX7_freedom_25 : decode cX7_freedom 25 = .ok (.iload_n 3, 1) := by decide +kernel
theorem dX7_freedom_26 : decode cX7_freedom 26 = .ok (.invokevirtual 285, 3) := by decide +kernel
theorem dX7_freedom_29 : decode cX7_freedom 29 = .ok (.ifCond .eq 17, 3) := by decide +kernel
theorem dX7_freedom_32 : decode cX7_freedom 32 = .ok (.iinc 1 1, 3) := by decide +kernel
theorem dX7_freedom_35 : decode cX7_freedom 35 = .ok (.iload_n 2, 1) := by decide +kernel
theorem dX7_freedom_36 : decode cX7_freedom 36 = .ok (.aload_n 0, 1) := by decide +kernel
theorem dX7_freedom_37 : decode cX7_freedom 37 = .ok (.getfield 39, 3) := by decide +kernel
theorem dX7_freedom_40 : decode cX7_freedom 40 = .ok (.iload_n 3, 1) := by decide +kernel
theorem dX7_freedom_41 : decode cX7_freedom 41 = .ok (.invokevirtual 335, 3) := by decide +kernel
theorem dX7_freedom_44 : decode cX7_freedom 44 = .ok (.iadd, 1) := by decide +kernel
theorem dX7_freedom_45 : decode cX7_freedom 45 = .ok (.istore_n 2, 1) := by decide +kernel
theorem dX7_freedom_46 : decode cX7_freedom 46 = .ok (.iinc 3 1, 3) := by decide +kernel
theorem dX7_freedom_49 : decode cX7_freedom 49 = .ok (.goto (-39), 3) := by decide +kernel
theorem dX7_freedom_52 : decode cX7_freedom 52 = .ok (.iload_n 1, 1) := by decide +kernel
theorem dX7_freedom_53 : decode cX7_freedom 53 = .ok (.ifCond .ne 14, 3) := by decide +kernel
theorem dX7_freedom_56 : decode cX7_freedom 56 = .ok (.new 338, 3) := by decide +kernel
theorem dX7_freedom_59 : decode cX7_freedom 59 = .ok (.dup, 1) := by decide +kernel
theorem dX7_freedom_60 : decode cX7_freedom 60 = .ok (.ldc_w 340, 3) := by decide +kernel
theorem dX7_freedom_63 : decode cX7_freedom 63 = .ok (.invokespecial 342, 3) := by decide +kernel
theorem dX7_freedom_66 : decode cX7_freedom 66 = .ok (.athrow, 1) := by decide +kernel
theorem dX7_freedom_67 : decode cX7_freedom 67 = .ok (.iload_n 2, 1) := by decide +kernel
theorem dX7_freedom_68 : decode cX7_freedom 68 = .ok (.i2d, 1) := by decide +kernel
theorem dX7_freedom_69 : decode cX7_freedom 69 = .ok (.iload_n 1, 1) := by decide +kernel
theorem dX7_freedom_70 : decode cX7_freedom 70 = .ok (.i2d, 1) := by decide +kernel
theorem dX7_freedom_71 : decode cX7_freedom 71 = .ok (.ddiv, 1) := by decide +kernel
theorem dX7_freedom_72 : decode cX7_freedom 72 = .ok (.dreturn, 1) := by decide +kernel
theorem dX7_planToPose_0 : decode cX7_planToPose 0 = .ok (.aload_n 0, 1) := by decide +kernel
theorem dX7_planToPose_1 : decode cX7_planToPose 1 = .ok (.iload_n 1, 1) := by decide +kernel
theorem dX7_planToPose_2 : decode cX7_planToPose 2 = .ok (.invokevirtual 294, 3) := by decide +kernel
theorem dX7_planToPose_5 : decode cX7_planToPose 5 = .ok (.aload_n 0, 1) := by decide +kernel
theorem dX7_planToPose_6 : decode cX7_planToPose 6 = .ok (.invokevirtual 280, 3) := by decide +kernel
theorem dX7_planToPose_9 : decode cX7_planToPose 9 = .ok (.aload_n 0, 1) := by decide +kernel
theorem dX7_planToPose_10 : decode cX7_planToPose 10 = .ok (.iload_n 1, 1) := by decide +kernel
theorem dX7_planToPose_11 : decode cX7_planToPose 11 = .ok (.invokevirtual 343, 3) := by decide +kernel
theorem dX7_planToPose_14 : decode cX7_planToPose 14 = .ok (.ireturn, 1) := by decide +kernel
theorem dX7_planToCell_0 : decode cX7_planToCell 0 = .ok (.iload_n 1, 1) := by decide +kernel
theorem dX7_planToCell_1 : decode cX7_planToCell 1 = .ok (.iload_n 2, 1) := by decide +kernel
theorem dX7_planToCell_2 : decode cX7_planToCell 2 = .ok (.invokestatic 137, 3) := by decide +kernel
theorem dX7_planToCell_5 : decode cX7_planToCell 5 = .ok (.aload_n 0, 1) := by decide +kernel
theorem dX7_planToCell_6 : decode cX7_planToCell 6 = .ok (.invokevirtual 280, 3) := by decide +kernel
theorem dX7_planToCell_9 : decode cX7_planToCell 9 = .ok (.aload_n 0, 1) := by decide +kernel
theorem dX7_planToCell_10 : decode cX7_planToCell 10 = .ok (.iload_n 1, 1) := by decide +kernel
theorem dX7_planToCell_11 : decode cX7_planToCell 11 = .ok (.iload_n 2, 1) := by decide +kernel
theorem dX7_planToCell_12 : decode cX7_planToCell 12 = .ok (.iconst 0, 1) := by decide +kernel
theorem dX7_planToCell_13 : decode cX7_planToCell 13 = .ok (.invokevirtual 346, 3) := by decide +kernel
theorem dX7_planToCell_16 : decode cX7_planToCell 16 = .ok (.aload_n 0, 1) := by decide +kernel
theorem dX7_planToCell_17 : decode cX7_planToCell 17 = .ok (.invokevirtual 349, 3) := by decide +kernel
theorem dX7_planToCell_20 : decode cX7_planToCell 20 = .ok (.ireturn, 1) := by decide +kernel
theorem dX7_planSmooth_0 : decode cX7_planSmooth 0 = .ok (.iload_n 1, 1) := by decide +kernel
theorem dX7_planSmooth_1 : decode cX7_planSmooth 1 = .ok (.iload_n 2, 1) := by decide +kernel
theorem dX7_planSmooth_2 : decode cX7_planSmooth 2 = .ok (.invokestatic 137, 3) := by decide +kernel
theorem dX7_planSmooth_5 : decode cX7_planSmooth 5 = .ok (.aload_n 0, 1) := by decide +kernel
theorem dX7_planSmooth_6 : decode cX7_planSmooth 6 = .ok (.invokevirtual 280, 3) := by decide +kernel
theorem dX7_planSmooth_9 : decode cX7_planSmooth 9 = .ok (.aload_n 0, 1) := by decide +kernel
theorem dX7_planSmooth_10 : decode cX7_planSmooth 10 = .ok (.iload_n 1, 1) := by decide +kernel
theorem dX7_planSmooth_11 : decode cX7_planSmooth 11 = .ok (.iload_n 2, 1) := by decide +kernel
theorem dX7_planSmooth_12 : decode cX7_planSmooth 12 = .ok (.iconst 0, 1) := by decide +kernel
theorem dX7_planSmooth_13 : decode cX7_planSmooth 13 = .ok (.invokevirtual 346, 3) := by decide +kernel
theorem dX7_planSmooth_16 : decode cX7_planSmooth 16 = .ok (.aload_n 0, 1) := by decide +kernel
theorem dX7_planSmooth_17 : decode cX7_planSmooth 17 = .ok (.invokevirtual 352, 3) := by decide +kernel
theorem dX7_planSmooth_20 : decode cX7_planSmooth 20 = .ok (.aload_n 0, 1) := by decide +kernel
theorem dX7_planSmooth_21 : decode cX7_planSmooth 21 = .ok (.getfield 39, 3) := by decide +kernel
theorem dX7_planSmooth_24 : decode cX7_planSmooth 24 = .ok (.invokevirtual 355, 3) := by decide +kernel
theorem dX7_planSmooth_27 : decode cX7_planSmooth 27 = .ok (.aload_n 0, 1) := by decide +kernel
theorem dX7_planSmooth_28 : decode cX7_planSmooth 28 = .ok (.getfield 46, 3) := by decide +kernel
theorem dX7_planSmooth_31 : decode cX7_planSmooth 31 = .ok (.aload_n 0, 1) := by decide +kernel
theorem dX7_planSmooth_32 : decode cX7_planSmooth 32 = .ok (.getfield 12, 3) := by decide +kernel
theorem dX7_planSmooth_35 : decode cX7_planSmooth 35 = .ok (.aload_n 0, 1) := by decide +kernel
theorem dX7_planSmooth_36 : decode cX7_planSmooth 36 = .ok (.getfield 12, 3) := by decide +kernel
theorem dX7_planSmooth_39 : decode cX7_planSmooth 39 = .ok (.getfield 172, 3) := by decide +kernel
theorem dX7_planSmooth_42 : decode cX7_planSmooth 42 = .ok (.invokevirtual 264, 3) := by decide +kernel
theorem dX7_planSmooth_45 : decode cX7_planSmooth 45 = .ok (.invokevirtual 358, 3) := by decide +kernel
theorem dX7_planSmooth_48 : decode cX7_planSmooth 48 = .ok (.aload_n 0, 1) := by decide +kernel
theorem dX7_planSmooth_49 : decode cX7_planSmooth 49 = .ok (.getfield 39, 3) := by decide +kernel
theorem dX7_planSmooth_52 : decode cX7_planSmooth 52 = .ok (.aload_n 0, 1) := by decide +kernel
theorem dX7_planSmooth_53 : decode cX7_planSmooth 53 = .ok (.getfield 46, 3) := by decide +kernel
theorem dX7_planSmooth_56 : decode cX7_planSmooth 56 = .ok (.invokevirtual 361, 3) := by decide +kernel
theorem dX7_planSmooth_59 : decode cX7_planSmooth 59 = .ok (.aload_n 0, 1) := by decide +kernel
theorem dX7_planSmooth_60 : decode cX7_planSmooth 60 = .ok (.getfield 46, 3) := by decide +kernel
theorem dX7_planSmooth_63 : decode cX7_planSmooth 63 = .ok (.invokevirtual 365, 3) := by decide +kernel
theorem dX7_planSmooth_66 : decode cX7_planSmooth 66 = .ok (.ireturn, 1) := by decide +kernel
theorem dX7_planNear_0 : decode cX7_planNear 0 = .ok (.iload_n 1, 1) := by decide +kernel
theorem dX7_planNear_1 : decode cX7_planNear 1 = .ok (.iload_n 2, 1) := by decide +kernel
theorem dX7_planNear_2 : decode cX7_planNear 2 = .ok (.invokestatic 137, 3) := by decide +kernel
theorem dX7_planNear_5 : decode cX7_planNear 5 = .ok (.aload_n 0, 1) := by decide +kernel
theorem dX7_planNear_6 : decode cX7_planNear 6 = .ok (.invokevirtual 304, 3) := by decide +kernel
theorem dX7_planNear_9 : decode cX7_planNear 9 = .ok (.aload_n 0, 1) := by decide +kernel
theorem dX7_planNear_10 : decode cX7_planNear 10 = .ok (.invokevirtual 313, 3) := by decide +kernel
theorem dX7_planNear_13 : decode cX7_planNear 13 = .ok (.bipush 20, 2) := by decide +kernel
theorem dX7_planNear_15 : decode cX7_planNear 15 = .ok (.istore_n 3, 1) := by decide +kernel
theorem dX7_planNear_16 : decode cX7_planNear 16 = .ok (.iconst 0, 1) := by decide +kernel
theorem dX7_planNear_17 : decode cX7_planNear 17 = .ok (.istore 4, 2) := by decide +kernel
theorem dX7_planNear_19 : decode cX7_planNear 19 = .ok (.iload 4, 2) := by decide +kernel
theorem dX7_planNear_21 : decode cX7_planNear 21 = .ok (.aload_n 0, 1) := by decide +kernel
theorem dX7_planNear_22 : decode cX7_planNear 22 = .ok (.getfield 39, 3) := by decide +kernel
theorem dX7_planNear_25 : decode cX7_planNear 25 = .ok (.getfield 307, 3) := by decide +kernel
theorem dX7_planNear_28 : decode cX7_planNear 28 = .ok (.if_icmp .ge 47, 3) := by decide +kernel
theorem dX7_planNear_31 : decode cX7_planNear 31 = .ok (.aload_n 0, 1) := by decide +kernel
theorem dX7_planNear_32 : decode cX7_planNear 32 = .ok (.getfield 39, 3) := by decide +kernel
theorem dX7_planNear_35 : decode cX7_planNear 35 = .ok (.aload_n 0, 1) := by decide +kernel
theorem dX7_planNear_36 : decode cX7_planNear 36 = .ok (.getfield 39, 3) := by decide +kernel
theorem dX7_planNear_39 : decode cX7_planNear 39 = .ok (.iload 4, 2) := by decide +kernel
theorem dX7_planNear_41 : decode cX7_planNear 41 = .ok (.invokevirtual 320, 3) := by decide +kernel
theorem dX7_planNear_44 : decode cX7_planNear 44 = .ok (.invokevirtual 298, 3) := by decide +kernel
theorem dX7_planNear_47 : decode cX7_planNear 47 = .ok (.istore 5, 2) := by decide +kernel
theorem dX7_planNear_49 : decode cX7_planNear 49 = .ok (.iload_n 3, 1) := by decide +kernel
theorem dX7_planNear_50 : decode cX7_planNear 50 = .ok (.iload 5, 2) := by decide +kernel
theorem dX7_planNear_52 : decode cX7_planNear 52 = .ok (.invokestatic 318, 3) := by decide +kernel
theorem dX7_planNear_55 : decode cX7_planNear 55 = .ok (.iload 5, 2) := by decide +kernel
theorem dX7_planNear_57 : decode cX7_planNear 57 = .ok (.invokestatic 316, 3) := by decide +kernel
theorem dX7_planNear_60 : decode cX7_planNear 60 = .ok (.iload_n 1, 1) := by decide +kernel
theorem dX7_planNear_61 : decode cX7_planNear 61 = .ok (.iload_n 2, 1) := by decide +kernel
theorem dX7_planNear_62 : decode cX7_planNear 62 = .ok (.invokestatic 368, 3) := by decide +kernel
theorem dX7_planNear_65 : decode cX7_planNear 65 = .ok (.invokestatic 274, 3) := by decide +kernel
theorem dX7_planNear_68 : decode cX7_planNear 68 = .ok (.istore_n 3, 1) := by decide +kernel
theorem dX7_planNear_69 : decode cX7_planNear 69 = .ok (.iinc 4 1, 3) := by decide +kernel
theorem dX7_planNear_72 : decode cX7_planNear 72 = .ok (.goto (-53), 3) := by decide +kernel
theorem dX7_planNear_75 : decode cX7_planNear 75 = .ok (.aload_n 0, 1) := by decide +kernel
theorem dX7_planNear_76 : decode cX7_planNear 76 = .ok (.iload_n 1, 1) := by decide +kernel
theorem dX7_planNear_77 : decode cX7_planNear 77 = .ok (.iload_n 2, 1) := by decide +kernel
theorem dX7_planNear_78 : decode cX7_planNear 78 = .ok (.iload_n 3, 1) := by decide +kernel
theorem dX7_planNear_79 : decode cX7_planNear 79 = .ok (.invokevirtual 346, 3) := by decide +kernel
theorem dX7_planNear_82 : decode cX7_planNear 82 = .ok (.aload_n 0, 1) := by decide +kernel
theorem dX7_planNear_83 : decode cX7_planNear 83 = .ok (.invokevirtual 349, 3) := by decide +kernel
theorem dX7_planNear_86 : decode cX7_planNear 86 = .ok (.pop, 1) := by decide +kernel
theorem dX7_planNear_87 : decode cX7_planNear 87 = .ok (.iload_n 3, 1) := by decide +kernel
theorem dX7_planNear_88 : decode cX7_planNear 88 = .ok (.ireturn, 1) := by decide +kernel
theorem dX7_pathLength_0 : decode cX7_pathLength 0 = .ok (.aload_n 0, 1) := by decide +kernel
theorem dX7_pathLength_1 : decode cX7_pathLength 1 = .ok (.invokevirtual 372, 3) := by decide +kernel
theorem dX7_pathLength_4 : decode cX7_pathLength 4 = .ok (.aload_n 0, 1) := by decide +kernel
theorem dX7_pathLength_5 : decode cX7_pathLength 5 = .ok (.getfield 46, 3) := by decide +kernel
theorem dX7_pathLength_8 : decode cX7_pathLength 8 = .ok (.getfield 375, 3) := by decide +kernel
theorem dX7_pathLength_11 : decode cX7_pathLength 11 = .ok (.ireturn, 1) := by decide +kernel
theorem dX7_pathMove_0 : decode cX7_pathMove 0 = .ok (.aload_n 0, 1) := by decide +kernel
theorem dX7_pathMove_1 : decode cX7_pathMove 1 = .ok (.invokevirtual 372, 3) := by decide +kernel
theorem dX7_pathMove_4 : decode cX7_pathMove 4 = .ok (.iload_n 1, 1) := by decide +kernel
theorem dX7_pathMove_5 : decode cX7_pathMove 5 = .ok (.ifCond .lt 14, 3) := by decide +kernel
theorem dX7_pathMove_8 : decode cX7_pathMove 8 = .ok (.iload_n 1, 1) := by decide +kernel
theorem dX7_pathMove_9 : decode cX7_pathMove 9 = .ok (.aload_n 0, 1) := by decide +kernel
theorem dX7_pathMove_10 : decode cX7_pathMove 10 = .ok (.getfield 46, 3) := by decide +kernel
theorem dX7_pathMove_13 : decode cX7_pathMove 13 = .ok (.getfield 375, 3) := by decide +kernel
theorem dX7_pathMove_16 : decode cX7_pathMove 16 = .ok (.if_icmp .lt 14, 3) := by decide +kernel
theorem dX7_pathMove_19 : decode cX7_pathMove 19 = .ok (.new 155, 3) := by decide +kernel
theorem dX7_pathMove_22 : decode cX7_pathMove 22 = .ok (.dup, 1) := by decide +kernel
theorem dX7_pathMove_23 : decode cX7_pathMove 23 = .ok (.ldc_w 378, 3) := by decide +kernel
theorem dX7_pathMove_26 : decode cX7_pathMove 26 = .ok (.invokespecial 159, 3) := by decide +kernel
theorem dX7_pathMove_29 : decode cX7_pathMove 29 = .ok (.athrow, 1) := by decide +kernel
theorem dX7_pathMove_30 : decode cX7_pathMove 30 = .ok (.aload_n 0, 1) := by decide +kernel
theorem dX7_pathMove_31 : decode cX7_pathMove 31 = .ok (.getfield 46, 3) := by decide +kernel
theorem dX7_pathMove_34 : decode cX7_pathMove 34 = .ok (.iload_n 1, 1) := by decide +kernel
theorem dX7_pathMove_35 : decode cX7_pathMove 35 = .ok (.invokevirtual 380, 3) := by decide +kernel
theorem dX7_pathMove_38 : decode cX7_pathMove 38 = .ok (.ireturn, 1) := by decide +kernel
theorem dX7_pathChanges_0 : decode cX7_pathChanges 0 = .ok (.aload_n 0, 1) := by decide +kernel
theorem dX7_pathChanges_1 : decode cX7_pathChanges 1 = .ok (.invokevirtual 372, 3) := by decide +kernel
theorem dX7_pathChanges_4 : decode cX7_pathChanges 4 = .ok (.aload_n 0, 1) := by decide +kernel
theorem dX7_pathChanges_5 : decode cX7_pathChanges 5 = .ok (.getfield 46, 3) := by decide +kernel
theorem dX7_pathChanges_8 : decode cX7_pathChanges 8 = .ok (.invokevirtual 365, 3) := by decide +kernel
theorem dX7_pathChanges_11 : decode cX7_pathChanges 11 = .ok (.ireturn, 1) := by decide +kernel
theorem dX7_follow_0 : decode cX7_follow 0 = .ok (.iload_n 1, 1) := by decide +kernel
theorem dX7_follow_1 : decode cX7_follow 1 = .ok (.ifCond .ge 14, 3) := by decide +kernel
theorem dX7_follow_4 : decode cX7_follow 4 = .ok (.new 95, 3) := by decide +kernel
theorem dX7_follow_7 : decode cX7_follow 7 = .ok (.dup, 1) := by decide +kernel
theorem dX7_follow_8 : decode cX7_follow 8 = .ok (.ldc_w 383, 3) := by decide +kernel
theorem dX7_follow_11 : decode cX7_follow 11 = .ok (.invokespecial 99, 3) := by decide +kernel
theorem dX7_follow_14 : decode cX7_follow 14 = .ok (.athrow, 1) := by decide +kernel
theorem dX7_follow_15 : decode cX7_follow 15 = .ok (.aload_n 0, 1) := by decide +kernel
theorem dX7_follow_16 : decode cX7_follow 16 = .ok (.invokevirtual 372, 3) := by decide +kernel
theorem dX7_follow_19 : decode cX7_follow 19 = .ok (.aload_n 0, 1) := by decide +kernel
theorem dX7_follow_20 : decode cX7_follow 20 = .ok (.getfield 46, 3) := by decide +kernel
theorem dX7_follow_23 : decode cX7_follow 23 = .ok (.getfield 385, 3) := by decide +kernel
theorem dX7_follow_26 : decode cX7_follow 26 = .ok (.iload_n 1, 1) := by decide +kernel
theorem dX7_follow_27 : decode cX7_follow 27 = .ok (.aload_n 0, 1) := by decide +kernel
theorem dX7_follow_28 : decode cX7_follow 28 = .ok (.getfield 46, 3) := by decide +kernel
theorem dX7_follow_31 : decode cX7_follow 31 = .ok (.getfield 375, 3) := by decide +kernel
theorem dX7_follow_34 : decode cX7_follow 34 = .ok (.aload_n 0, 1) := by decide +kernel
theorem dX7_follow_35 : decode cX7_follow 35 = .ok (.getfield 46, 3) := by decide +kernel
theorem dX7_follow_38 : decode cX7_follow 38 = .ok (.getfield 385, 3) := by decide +kernel
theorem dX7_follow_41 : decode cX7_follow 41 = .ok (.isub, 1) := by decide +kernel
theorem dX7_follow_42 : decode cX7_follow 42 = .ok (.invokestatic 274, 3) := by decide +kernel
theorem dX7_follow_45 : decode cX7_follow 45 = .ok (.iadd, 1) := by decide +kernel
theorem dX7_follow_46 : decode cX7_follow 46 = .ok (.istore_n 2, 1) := by decide +kernel
theorem dX7_follow_47 : decode cX7_follow 47 = .ok (.aload_n 0, 1) := by decide +kernel
theorem dX7_follow_48 : decode cX7_follow 48 = .ok (.getfield 46, 3) := by decide +kernel
theorem dX7_follow_51 : decode cX7_follow 51 = .ok (.getfield 385, 3) := by decide +kernel
theorem dX7_follow_54 : decode cX7_follow 54 = .ok (.istore_n 3, 1) := by decide +kernel
theorem dX7_follow_55 : decode cX7_follow 55 = .ok (.iload_n 3, 1) := by decide +kernel
theorem dX7_follow_56 : decode cX7_follow 56 = .ok (.iload_n 2, 1) := by decide +kernel
theorem dX7_follow_57 : decode cX7_follow 57 = .ok (.if_icmp .ge 36, 3) := by decide +kernel
theorem dX7_follow_60 : decode cX7_follow 60 = .ok (.aload_n 0, 1) := by decide +kernel
theorem dX7_follow_61 : decode cX7_follow 61 = .ok (.getfield 46, 3) := by decide +kernel
theorem dX7_follow_64 : decode cX7_follow 64 = .ok (.iload_n 3, 1) := by decide +kernel
theorem dX7_follow_65 : decode cX7_follow 65 = .ok (.invokevirtual 380, 3) := by decide +kernel
theorem dX7_follow_68 : decode cX7_follow 68 = .ok (.istore 4, 2) := by decide +kernel
theorem dX7_follow_70 : decode cX7_follow 70 = .ok (.aload_n 0, 1) := by decide +kernel
theorem dX7_follow_71 : decode cX7_follow 71 = .ok (.getfield 12, 3) := by decide +kernel
theorem dX7_follow_74 : decode cX7_follow 74 = .ok (.iload 4, 2) := by decide +kernel
theorem dX7_follow_76 : decode cX7_follow 76 = .ok (.invokestatic 224, 3) := by decide +kernel
theorem dX7_follow_79 : decode cX7_follow 79 = .ok (.iload 4, 2) := by decide +kernel
theorem dX7_follow_81 : decode cX7_follow 81 = .ok (.invokestatic 238, 3) := by decide +kernel
theorem dX7_follow_84 : decode cX7_follow 84 = .ok (.invokevirtual 241, 3) := by decide +kernel
theorem dX7_follow_87 : decode cX7_follow 87 = .ok (.iinc 3 1, 3) := by decide +kernel
theorem dX7_follow_90 : decode cX7_follow 90 = .ok (.goto (-35), 3) := by decide +kernel
theorem dX7_follow_93 : decode cX7_follow 93 = .ok (.aload_n 0, 1) := by decide +kernel
theorem dX7_follow_94 : decode cX7_follow 94 = .ok (.getfield 46, 3) := by decide +kernel
theorem dX7_follow_97 : decode cX7_follow 97 = .ok (.iload_n 2, 1) := by decide +kernel
theorem dX7_follow_98 : decode cX7_follow 98 = .ok (.putfield 385, 3) := by decide +kernel
theorem dX7_follow_101 : decode cX7_follow 101 = .ok (.aload_n 0, 1) := by decide +kernel
theorem dX7_follow_102 : decode cX7_follow 102 = .ok (.getfield 46, 3) := by decide +kernel
theorem dX7_follow_105 : decode cX7_follow 105 = .ok (.getfield 375, 3) := by decide +kernel
theorem dX7_follow_108 : decode cX7_follow 108 = .ok (.iload_n 2, 1) := by decide +kernel
theorem dX7_follow_109 : decode cX7_follow 109 = .ok (.isub, 1) := by decide +kernel
theorem dX7_follow_110 : decode cX7_follow 110 = .ok (.ireturn, 1) := by decide +kernel
theorem dX7_back_0 : decode cX7_back 0 = .ok (.iload_n 1, 1) := by decide +kernel
theorem dX7_back_1 : decode cX7_back 1 = .ok (.ifCond .ge 14, 3) := by decide +kernel
theorem dX7_back_4 : decode cX7_back 4 = .ok (.new 95, 3) := by decide +kernel
theorem dX7_back_7 : decode cX7_back 7 = .ok (.dup, 1) := by decide +kernel
theorem dX7_back_8 : decode cX7_back 8 = .ok (.ldc_w 383, 3) := by decide +kernel
theorem dX7_back_11 : decode cX7_back 11 = .ok (.invokespecial 99, 3) := by decide +kernel
theorem dX7_back_14 : decode cX7_back 14 = .ok (.athrow, 1) := by decide +kernel
theorem dX7_back_15 : decode cX7_back 15 = .ok (.aload_n 0, 1) := by decide +kernel
theorem dX7_back_16 : decode cX7_back 16 = .ok (.invokevirtual 372, 3) := by decide +kernel
theorem dX7_back_19 : decode cX7_back 19 = .ok (.aload_n 0, 1) := by decide +kernel
theorem dX7_back_20 : decode cX7_back 20 = .ok (.getfield 46, 3) := by decide +kernel
theorem dX7_back_23 : decode cX7_back 23 = .ok (.getfield 385, 3) := by decide +kernel
theorem dX7_back_26 : decode cX7_back 26 = .ok (.iload_n 1, 1) := by decide +kernel
theorem dX7_back_27 : decode cX7_back 27 = .ok (.aload_n 0, 1) := by decide +kernel
theorem dX7_back_28 : decode cX7_back 28 = .ok (.getfield 46, 3) := by decide +kernel
theorem dX7_back_31 : decode cX7_back 31 = .ok (.getfield 385, 3) := by decide +kernel
theorem dX7_back_34 : decode cX7_back 34 = .ok (.invokestatic 274, 3) := by decide +kernel
theorem dX7_back_37 : decode cX7_back 37 = .ok (.isub, 1) := by decide +kernel
theorem dX7_back_38 : decode cX7_back 38 = .ok (.istore_n 2, 1) := by decide +kernel
theorem dX7_back_39 : decode cX7_back 39 = .ok (.aload_n 0, 1) := by decide +kernel
theorem dX7_back_40 : decode cX7_back 40 = .ok (.getfield 46, 3) := by decide +kernel
theorem dX7_back_43 : decode cX7_back 43 = .ok (.getfield 385, 3) := by decide +kernel
theorem dX7_back_46 : decode cX7_back 46 = .ok (.iconst 1, 1) := by decide +kernel
theorem dX7_back_47 : decode cX7_back 47 = .ok (.isub, 1) := by decide +kernel
theorem dX7_back_48 : decode cX7_back 48 = .ok (.istore_n 3, 1) := by decide +kernel
theorem dX7_back_49 : decode cX7_back 49 = .ok (.iload_n 3, 1) := by decide +kernel
theorem dX7_back_50 : decode cX7_back 50 = .ok (.iload_n 2, 1) := by decide +kernel
theorem dX7_back_51 : decode cX7_back 51 = .ok (.if_icmp .lt 37, 3) := by decide +kernel
theorem dX7_back_54 : decode cX7_back 54 = .ok (.aload_n 0, 1) := by decide +kernel
theorem dX7_back_55 : decode cX7_back 55 = .ok (.getfield 46, 3) := by decide +kernel
theorem dX7_back_58 : decode cX7_back 58 = .ok (.iload_n 3, 1) := by decide +kernel
theorem dX7_back_59 : decode cX7_back 59 = .ok (.invokevirtual 380, 3) := by decide +kernel
theorem dX7_back_62 : decode cX7_back 62 = .ok (.istore 4, 2) := by decide +kernel
theorem dX7_back_64 : decode cX7_back 64 = .ok (.aload_n 0, 1) := by decide +kernel
theorem dX7_back_65 : decode cX7_back 65 = .ok (.getfield 12, 3) := by decide +kernel
theorem dX7_back_68 : decode cX7_back 68 = .ok (.iload 4, 2) := by decide +kernel
theorem dX7_back_70 : decode cX7_back 70 = .ok (.invokestatic 224, 3) := by decide +kernel
theorem dX7_back_73 : decode cX7_back 73 = .ok (.iload 4, 2) := by decide +kernel
theorem dX7_back_75 : decode cX7_back 75 = .ok (.invokestatic 238, 3) := by decide +kernel
theorem dX7_back_78 : decode cX7_back 78 = .ok (.ineg, 1) := by decide +kernel
theorem dX7_back_79 : decode cX7_back 79 = .ok (.invokevirtual 241, 3) := by decide +kernel
theorem dX7_back_82 : decode cX7_back 82 = .ok (.iinc 3 (-1), 3) := by decide +kernel
theorem dX7_back_85 : decode cX7_back 85 = .ok (.goto (-36), 3) := by decide +kernel
theorem dX7_back_88 : decode cX7_back 88 = .ok (.aload_n 0, 1) := by decide +kernel
theorem dX7_back_89 : decode cX7_back 89 = .ok (.getfield 46, 3) := by decide +kernel
theorem dX7_back_92 : decode cX7_back 92 = .ok (.iload_n 2, 1) := by decide +kernel
theorem dX7_back_93 : decode cX7_back 93 = .ok (.putfield 385, 3) := by decide +kernel
theorem dX7_back_96 : decode cX7_back 96 = .ok (.iload_n 2, 1) := by decide +kernel
theorem dX7_back_97 : decode cX7_back 97 = .ok (.ireturn, 1) := by decide +kernel
theorem dX7_pathCells_0 : decode cX7_pathCells 0 = .ok (.aload_n 0, 1) := by decide +kernel
theorem dX7_pathCells_1 : decode cX7_pathCells 1 = .ok (.invokevirtual 372, 3) := by decide +kernel
theorem dX7_pathCells_4 : decode cX7_pathCells 4 = .ok (.aload_n 0, 1) := by decide +kernel
theorem dX7_pathCells_5 : decode cX7_pathCells 5 = .ok (.getfield 68, 3) := by decide +kernel
theorem dX7_pathCells_8 : decode cX7_pathCells 8 = .ok (.iconst 0, 1) := by decide +kernel
theorem dX7_pathCells_9 : decode cX7_pathCells 9 = .ok (.invokestatic 388, 3) := by decide +kernel
theorem dX7_pathCells_12 : decode cX7_pathCells 12 = .ok (.iconst 0, 1) := by decide +kernel
theorem dX7_pathCells_13 : decode cX7_pathCells 13 = .ok (.istore_n 1, 1) := by decide +kernel
theorem dX7_pathCells_14 : decode cX7_pathCells 14 = .ok (.aload_n 0, 1) := by decide +kernel
theorem dX7_pathCells_15 : decode cX7_pathCells 15 = .ok (.getfield 46, 3) := by decide +kernel
theorem dX7_pathCells_18 : decode cX7_pathCells 18 = .ok (.getfield 394, 3) := by decide +kernel
theorem dX7_pathCells_21 : decode cX7_pathCells 21 = .ok (.istore_n 2, 1) := by decide +kernel
theorem dX7_pathCells_22 : decode cX7_pathCells 22 = .ok (.iconst 0, 1) := by decide +kernel
theorem dX7_pathCells_23 : decode cX7_pathCells 23 = .ok (.istore_n 3, 1) := by decide +kernel
theorem dX7_pathCells_24 : decode cX7_pathCells 24 = .ok (.iload_n 3, 1) := by decide +kernel
theorem dX7_pathCells_25 : decode cX7_pathCells 25 = .ok (.aload_n 0, 1) := by decide +kernel
theorem dX7_pathCells_26 : decode cX7_pathCells 26 = .ok (.getfield 46, 3) := by decide +kernel
theorem dX7_pathCells_29 : decode cX7_pathCells 29 = .ok (.getfield 375, 3) := by decide +kernel
theorem dX7_pathCells_32 : decode cX7_pathCells 32 = .ok (.if_icmp .gt 76, 3) := by decide +kernel
theorem dX7_pathCells_35 : decode cX7_pathCells 35 = .ok (.aload_n 0, 1) := by decide +kernel
theorem dX7_pathCells_36 : decode cX7_pathCells 36 = .ok (.getfield 39, 3) := by decide +kernel
theorem dX7_pathCells_39 : decode cX7_pathCells 39 = .ok (.iload_n 2, 1) := by decide +kernel
theorem dX7_pathCells_40 : decode cX7_pathCells 40 = .ok (.invokevirtual 298, 3) := by decide +kernel
theorem dX7_pathCells_43 : decode cX7_pathCells 43 = .ok (.istore 4, 2) := by decide +kernel
theorem dX7_pathCells_45 : decode cX7_pathCells 45 = .ok (.iload 4, 2) := by decide +kernel
theorem dX7_pathCells_47 : decode cX7_pathCells 47 = .ok (.invokestatic 397, 3) := by decide +kernel
theorem dX7_pathCells_50 : decode cX7_pathCells 50 = .ok (.ifCond .eq 24, 3) := by decide +kernel
theorem dX7_pathCells_53 : decode cX7_pathCells 53 = .ok (.aload_n 0, 1) := by decide +kernel
theorem dX7_pathCells_54 : decode cX7_pathCells 54 = .ok (.getfield 68, 3) := by decide +kernel
theorem dX7_pathCells_57 : decode cX7_pathCells 57 = .ok (.iload 4, 2) := by decide +kernel
theorem dX7_pathCells_59 : decode cX7_pathCells 59 = .ok (.iaload, 1) := by decide +kernel
theorem dX7_pathCells_60 : decode cX7_pathCells 60 = .ok (.ifCond .ne 14, 3) := by decide +kernel
theorem dX7_pathCells_63 : decode cX7_pathCells 63 = .ok (.aload_n 0, 1) := by decide +kernel
theorem dX7_pathCells_64 : decode cX7_pathCells 64 = .ok (.getfield 68, 3) := by decide +kernel
theorem dX7_pathCells_67 : decode cX7_pathCells 67 = .ok (.iload 4, 2) := by decide +kernel
theorem dX7_pathCells_69 : decode cX7_pathCells 69 = .ok (.iconst 1, 1) := by decide +kernel
theorem dX7_pathCells_70 : decode cX7_pathCells 70 = .ok (.iastore, 1) := by decide +kernel
theorem dX7_pathCells_71 : decode cX7_pathCells 71 = .ok (.iinc 1 1, 3) := by decide +kernel
theorem dX7_pathCells_74 : decode cX7_pathCells 74 = .ok (.iload_n 3, 1) := by decide +kernel
theorem dX7_pathCells_75 : decode cX7_pathCells 75 = .ok (.aload_n 0, 1) := by decide +kernel
theorem dX7_pathCells_76 : decode cX7_pathCells 76 = .ok (.getfield 46, 3) := by decide +kernel
theorem dX7_pathCells_79 : decode cX7_pathCells 79 = .ok (.getfield 375, 3) := by decide +kernel
theorem dX7_pathCells_82 : decode cX7_pathCells 82 = .ok (.if_icmp .ge 20, 3) := by decide +kernel
theorem dX7_pathCells_85 : decode cX7_pathCells 85 = .ok (.aload_n 0, 1) := by decide +kernel
theorem dX7_pathCells_86 : decode cX7_pathCells 86 = .ok (.getfield 39, 3) := by decide +kernel
theorem dX7_pathCells_89 : decode cX7_pathCells 89 = .ok (.iload_n 2, 1) := by decide +kernel
theorem dX7_pathCells_90 : decode cX7_pathCells 90 = .ok (.aload_n 0, 1) := by decide +kernel
theorem dX7_pathCells_91 : decode cX7_pathCells 91 = .ok (.getfield 46, 3) := by decide +kernel
theorem dX7_pathCells_94 : decode cX7_pathCells 94 = .ok (.iload_n 3, 1) := by decide +kernel
theorem dX7_pathCells_95 : decode cX7_pathCells 95 = .ok (.invokevirtual 380, 3) := by decide +kernel
theorem dX7_pathCells_98 : decode cX7_pathCells 98 = .ok (.invokevirtual 400, 3) := by decide +kernel
theorem dX7_pathCells_101 : decode cX7_pathCells 101 = .ok (.istore_n 2, 1) := by decide +kernel
theorem dX7_pathCells_102 : decode cX7_pathCells 102 = .ok (.iinc 3 1, 3) := by decide +kernel
theorem dX7_pathCells_105 : decode cX7_pathCells 105 = .ok (.goto (-81), 3) := by decide +kernel
theorem dX7_pathCells_108 : decode cX7_pathCells 108 = .ok (.iload_n 1, 1) := by decide +kernel
theorem dX7_pathCells_109 : decode cX7_pathCells 109 = .ok (.ireturn, 1) := by decide +kernel
theorem dX7_bookmark_0 : decode cX7_bookmark 0 = .ok (.iload_n 1, 1) := by decide +kernel
theorem dX7_bookmark_1 : decode cX7_bookmark 1 = .ok (.invokestatic 403, 3) := by decide +kernel
theorem dX7_bookmark_4 : decode cX7_bookmark 4 = .ok (.aload_n 0, 1) := by decide +kernel
theorem dX7_bookmark_5 : decode cX7_bookmark 5 = .ok (.getfield 53, 3) := by decide +kernel
theorem dX7_bookmark_8 : decode cX7_bookmark 8 = .ok (.iload_n 1, 1) := by decide +kernel
theorem dX7_bookmark_9 : decode cX7_bookmark 9 = .ok (.bipush 97, 2) := by decide +kernel
theorem dX7_bookmark_11 : decode cX7_bookmark 11 = .ok (.isub, 1) := by decide +kernel
theorem dX7_bookmark_12 : decode cX7_bookmark 12 = .ok (.invokevirtual 407, 3) := by decide +kernel
theorem dX7_bookmark_15 : decode cX7_bookmark 15 = .ok (.ifCond .ne 26, 3) := by decide +kernel
theorem dX7_bookmark_18 : decode cX7_bookmark 18 = .ok (.aload_n 0, 1) := by decide +kernel
theorem dX7_bookmark_19 : decode cX7_bookmark 19 = .ok (.getfield 53, 3) := by decide +kernel
theorem dX7_bookmark_22 : decode cX7_bookmark 22 = .ok (.getfield 410, 3) := by decide +kernel
theorem dX7_bookmark_25 : decode cX7_bookmark 25 = .ok (.bipush 6, 2) := by decide +kernel
theorem dX7_bookmark_27 : decode cX7_bookmark 27 = .ok (.if_icmp .lt 14, 3) := by decide +kernel
theorem dX7_bookmark_30 : decode cX7_bookmark 30 = .ok (.new 102, 3) := by decide +kernel
theorem dX7_bookmark_33 : decode cX7_bookmark 33 = .ok (.dup, 1) := by decide +kernel
theorem dX7_bookmark_34 : decode cX7_bookmark 34 = .ok (.ldc_w 413, 3) := by decide +kernel
theorem dX7_bookmark_37 : decode cX7_bookmark 37 = .ok (.invokespecial 106, 3) := by decide +kernel
theorem dX7_bookmark_40 : decode cX7_bookmark 40 = .ok (.athrow, 1) := by decide +kernel
theorem dX7_bookmark_41 : decode cX7_bookmark 41 = .ok (.aload_n 0, 1) := by decide +kernel
theorem dX7_bookmark_42 : decode cX7_bookmark 42 = .ok (.getfield 53, 3) := by decide +kernel
theorem dX7_bookmark_45 : decode cX7_bookmark 45 = .ok (.iload_n 1, 1) := by decide +kernel
theorem dX7_bookmark_46 : decode cX7_bookmark 46 = .ok (.bipush 97, 2) := by decide +kernel
theorem dX7_bookmark_48 : decode cX7_bookmark 48 = .ok (.isub, 1) := by decide +kernel
theorem dX7_bookmark_49 : decode cX7_bookmark 49 = .ok (.aload_n 0, 1) := by decide +kernel
theorem dX7_bookmark_50 : decode cX7_bookmark 50 = .ok (.getfield 12, 3) := by decide +kernel
theorem dX7_bookmark_53 : decode cX7_bookmark 53 = .ok (.invokevirtual 415, 3) := by decide +kernel
theorem dX7_bookmark_56 : decode cX7_bookmark 56 = .ok (.aload_n 0, 1) := by decide +kernel
theorem dX7_bookmark_57 : decode cX7_bookmark 57 = .ok (.getfield 53, 3) := by decide +kernel
theorem dX7_bookmark_60 : decode cX7_bookmark 60 = .ok (.getfield 410, 3) := by decide +kernel
theorem dX7_bookmark_63 : decode cX7_bookmark 63 = .ok (.ireturn, 1) := by decide +kernel
theorem dX7_planToName_0 : decode cX7_planToName 0 = .ok (.iload_n 1, 1) := by decide +kernel
theorem dX7_planToName_1 : decode cX7_planToName 1 = .ok (.invokestatic 403, 3) := by decide +kernel
theorem dX7_planToName_4 : decode cX7_planToName 4 = .ok (.aload_n 0, 1) := by decide +kernel
theorem dX7_planToName_5 : decode cX7_planToName 5 = .ok (.getfield 53, 3) := by decide +kernel
theorem dX7_planToName_8 : decode cX7_planToName 8 = .ok (.iload_n 1, 1) := by decide +kernel
theorem dX7_planToName_9 : decode cX7_planToName 9 = .ok (.bipush 97, 2) := by decide +kernel
theorem dX7_planToName_11 : decode cX7_planToName 11 = .ok (.isub, 1) := by decide +kernel
theorem dX7_planToName_12 : decode cX7_planToName 12 = .ok (.aload_n 0, 1) := by decide +kernel
theorem dX7_planToName_13 : decode cX7_planToName 13 = .ok (.getfield 12, 3) := by decide +kernel
theorem dX7_planToName_16 : decode cX7_planToName 16 = .ok (.invokevirtual 419, 3) := by decide +kernel
theorem dX7_planToName_19 : decode cX7_planToName 19 = .ok (.ifCond .ne 14, 3) := by decide +kernel
theorem dX7_planToName_22 : decode cX7_planToName 22 = .ok (.new 423, 3) := by decide +kernel
theorem dX7_planToName_25 : decode cX7_planToName 25 = .ok (.dup, 1) := by decide +kernel
theorem dX7_planToName_26 : decode cX7_planToName 26 = .ok (.ldc_w 425, 3) := by decide +kernel
theorem dX7_planToName_29 : decode cX7_planToName 29 = .ok (.invokespecial 427, 3) := by decide +kernel
theorem dX7_planToName_32 : decode cX7_planToName 32 = .ok (.athrow, 1) := by decide +kernel
theorem dX7_planToName_33 : decode cX7_planToName 33 = .ok (.aload_n 0, 1) := by decide +kernel
theorem dX7_planToName_34 : decode cX7_planToName 34 = .ok (.invokevirtual 280, 3) := by decide +kernel
theorem dX7_planToName_37 : decode cX7_planToName 37 = .ok (.aload_n 0, 1) := by decide +kernel
theorem dX7_planToName_38 : decode cX7_planToName 38 = .ok (.getfield 53, 3) := by decide +kernel
theorem dX7_planToName_41 : decode cX7_planToName 41 = .ok (.iload_n 1, 1) := by decide +kernel
theorem dX7_planToName_42 : decode cX7_planToName 42 = .ok (.bipush 97, 2) := by decide +kernel
theorem dX7_planToName_44 : decode cX7_planToName 44 = .ok (.isub, 1) := by decide +kernel
theorem dX7_planToName_45 : decode cX7_planToName 45 = .ok (.aload_n 0, 1) := by decide +kernel
theorem dX7_planToName_46 : decode cX7_planToName 46 = .ok (.getfield 64, 3) := by decide +kernel
theorem dX7_planToName_49 : decode cX7_planToName 49 = .ok (.invokevirtual 428, 3) := by decide +kernel
theorem dX7_planToName_52 : decode cX7_planToName 52 = .ok (.aload_n 0, 1) := by decide +kernel
theorem dX7_planToName_53 : decode cX7_planToName 53 = .ok (.aload_n 0, 1) := by decide +kernel
theorem dX7_planToName_54 : decode cX7_planToName 54 = .ok (.getfield 12, 3) := by decide +kernel
theorem dX7_planToName_57 : decode cX7_planToName 57 = .ok (.aload_n 0, 1) := by decide +kernel
theorem dX7_planToName_58 : decode cX7_planToName 58 = .ok (.getfield 64, 3) := by decide +kernel
theorem dX7_planToName_61 : decode cX7_planToName 61 = .ok (.invokevirtual 264, 3) := by decide +kernel
theorem dX7_planToName_64 : decode cX7_planToName 64 = .ok (.invokevirtual 343, 3) := by decide +kernel
theorem dX7_planToName_67 : decode cX7_planToName 67 = .ok (.ireturn, 1) := by decide +kernel
theorem dX7_append_0 : decode cX7_append 0 = .ok (.iload_n 1, 1) := by decide +kernel
theorem dX7_append_1 : decode cX7_append 1 = .ok (.bipush 32, 2) := by decide +kernel
theorem dX7_append_3 : decode cX7_append 3 = .ok (.if_icmp .lt 9, 3) := by decide +kernel
theorem dX7_append_6 : decode cX7_append 6 = .ok (.iload_n 1, 1) := by decide +kernel
theorem dX7_append_7 : decode cX7_append 7 = .ok (.bipush 126, 2) := by decide +kernel
theorem dX7_append_9 : decode cX7_append 9 = .ok (.if_icmp .le 14, 3) := by decide +kernel
theorem dX7_append_12 : decode cX7_append 12 = .ok (.new 95, 3) := by decide +kernel
theorem dX7_append_15 : decode cX7_append 15 = .ok (.dup, 1) := by decide +kernel
theorem dX7_append_16 : decode cX7_append 16 = .ok (.ldc_w 431, 3) := by decide +kernel
theorem dX7_append_19 : decode cX7_append 19 = .ok (.invokespecial 99, 3) := by decide +kernel
theorem dX7_append_22 : decode cX7_append 22 = .ok (.athrow, 1) := by decide +kernel
theorem dX7_append_23 : decode cX7_append 23 = .ok (.aload_n 0, 1) := by decide +kernel
theorem dX7_append_24 : decode cX7_append 24 = .ok (.getfield 60, 3) := by decide +kernel
theorem dX7_append_27 : decode cX7_append 27 = .ok (.getfield 433, 3) := by decide +kernel
theorem dX7_append_30 : decode cX7_append 30 = .ok (.bipush 60, 2) := by decide +kernel
theorem dX7_append_32 : decode cX7_append 32 = .ok (.if_icmp .lt 14, 3) := by decide +kernel
theorem dX7_append_35 : decode cX7_append 35 = .ok (.new 102, 3) := by decide +kernel
theorem dX7_append_38 : decode cX7_append 38 = .ok (.dup, 1) := by decide +kernel
theorem dX7_append_39 : decode cX7_append 39 = .ok (.ldc_w 434, 3) := by decide +kernel
theorem dX7_append_42 : decode cX7_append 42 = .ok (.invokespecial 106, 3) := by decide +kernel
theorem dX7_append_45 : decode cX7_append 45 = .ok (.athrow, 1) := by decide +kernel
theorem dX7_append_46 : decode cX7_append 46 = .ok (.aload_n 0, 1) := by decide +kernel
theorem dX7_append_47 : decode cX7_append 47 = .ok (.getfield 60, 3) := by decide +kernel
theorem dX7_append_50 : decode cX7_append 50 = .ok (.iload_n 1, 1) := by decide +kernel
theorem dX7_append_51 : decode cX7_append 51 = .ok (.invokevirtual 436, 3) := by decide +kernel
theorem dX7_append_54 : decode cX7_append 54 = .ok (.aload_n 0, 1) := by decide +kernel
theorem dX7_append_55 : decode cX7_append 55 = .ok (.getfield 60, 3) := by decide +kernel
theorem dX7_append_58 : decode cX7_append 58 = .ok (.getfield 433, 3) := by decide +kernel
theorem dX7_append_61 : decode cX7_append 61 = .ok (.ireturn, 1) := by decide +kernel
theorem dX7_read_0 : decode cX7_read 0 = .ok (.aload_n 0, 1) := by decide +kernel
theorem dX7_read_1 : decode cX7_read 1 = .ok (.getfield 60, 3) := by decide +kernel
theorem dX7_read_4 : decode cX7_read 4 = .ok (.invokevirtual 438, 3) := by decide +kernel
theorem dX7_read_7 : decode cX7_read 7 = .ok (.istore_n 1, 1) := by decide +kernel
theorem dX7_read_8 : decode cX7_read 8 = .ok (.aload_n 0, 1) := by decide +kernel
theorem dX7_read_9 : decode cX7_read 9 = .ok (.getfield 19, 3) := by decide +kernel
theorem dX7_read_12 : decode cX7_read 12 = .ok (.aload_n 0, 1) := by decide +kernel
theorem dX7_read_13 : decode cX7_read 13 = .ok (.getfield 12, 3) := by decide +kernel
theorem dX7_read_16 : decode cX7_read 16 = .ok (.invokevirtual 441, 3) := by decide +kernel
theorem dX7_read_19 : decode cX7_read 19 = .ok (.iload_n 1, 1) := by decide +kernel
theorem dX7_read_20 : decode cX7_read 20 = .ok (.ifCond .ge 17, 3) := by decide +kernel
theorem dX7_read_23 : decode cX7_read 23 = .ok (.aload_n 0, 1) := by decide +kernel
theorem dX7_read_24 : decode cX7_read 24 = .ok (.getfield 60, 3) := by decide +kernel
theorem dX7_read_27 : decode cX7_read 27 = .ok (.aload_n 0, 1) := by decide +kernel
theorem dX7_read_28 : decode cX7_read 28 = .ok (.getfield 19, 3) := by decide +kernel
theorem dX7_read_31 : decode cX7_read 31 = .ok (.invokevirtual 445, 3) := by decide +kernel
theorem dX7_read_34 : decode cX7_read 34 = .ok (.goto 4, 3) := by decide +kernel
theorem dX7_read_37 : decode cX7_read 37 = .ok (.iconst 0, 1) := by decide +kernel
theorem dX7_read_38 : decode cX7_read 38 = .ok (.istore_n 2, 1) := by decide +kernel
theorem dX7_read_39 : decode cX7_read 39 = .ok (.aload_n 0, 1) := by decide +kernel
theorem dX7_read_40 : decode cX7_read 40 = .ok (.getfield 60, 3) := by decide +kernel
theorem dX7_read_43 : decode cX7_read 43 = .ok (.iconst 0, 1) := by decide +kernel
theorem dX7_read_44 : decode cX7_read 44 = .ok (.putfield 433, 3) := by decide +kernel
theorem dX7_read_47 : decode cX7_read 47 = .ok (.iload_n 1, 1) := by decide +kernel
theorem dX7_read_48 : decode cX7_read 48 = .ok (.ifCond .lt 19, 3) := by decide +kernel
theorem dX7_read_51 : decode cX7_read 51 = .ok (.aload_n 0, 1) := by decide +kernel
theorem dX7_read_52 : decode cX7_read 52 = .ok (.iload_n 1, 1) := by decide +kernel
theorem dX7_read_53 : decode cX7_read 53 = .ok (.putfield 75, 3) := by decide +kernel
theorem dX7_read_56 : decode cX7_read 56 = .ok (.new 95, 3) := by decide +kernel
theorem dX7_read_59 : decode cX7_read 59 = .ok (.dup, 1) := by decide +kernel
theorem dX7_read_60 : decode cX7_read 60 = .ok (.ldc_w 449, 3) := by decide +kernel
theorem dX7_read_63 : decode cX7_read 63 = .ok (.invokespecial 99, 3) := by decide +kernel
theorem dX7_read_66 : decode cX7_read 66 = .ok (.athrow, 1) := by decide +kernel
theorem dX7_read_67 : decode cX7_read 67 = .ok (.iload_n 2, 1) := by decide +kernel
theorem dX7_read_68 : decode cX7_read 68 = .ok (.ifCond .ge 14, 3) := by decide +kernel
theorem dX7_read_71 : decode cX7_read 71 = .ok (.new 102, 3) := by decide +kernel
theorem dX7_read_74 : decode cX7_read 74 = .ok (.dup, 1) := by decide +kernel
theorem dX7_read_75 : decode cX7_read 75 = .ok (.ldc_w 451, 3) := by decide +kernel
theorem dX7_read_78 : decode cX7_read 78 = .ok (.invokespecial 106, 3) := by decide +kernel
theorem dX7_read_81 : decode cX7_read 81 = .ok (.athrow, 1) := by decide +kernel
theorem dX7_read_82 : decode cX7_read 82 = .ok (.aload_n 0, 1) := by decide +kernel
theorem dX7_read_83 : decode cX7_read 83 = .ok (.invokevirtual 107, 3) := by decide +kernel
theorem dX7_read_86 : decode cX7_read 86 = .ok (.aload_n 0, 1) := by decide +kernel
theorem dX7_read_87 : decode cX7_read 87 = .ok (.getfield 12, 3) := by decide +kernel
theorem dX7_read_90 : decode cX7_read 90 = .ok (.aload_n 0, 1) := by decide +kernel
theorem dX7_read_91 : decode cX7_read 91 = .ok (.getfield 19, 3) := by decide +kernel
theorem dX7_read_94 : decode cX7_read 94 = .ok (.invokevirtual 441, 3) := by decide +kernel
theorem dX7_read_97 : decode cX7_read 97 = .ok (.iload_n 2, 1) := by decide +kernel
theorem dX7_read_98 : decode cX7_read 98 = .ok (.ireturn, 1) := by decide +kernel
theorem dX7_errorPosition_0 : decode cX7_errorPosition 0 = .ok (.aload_n 0, 1) := by decide +kernel
theorem dX7_errorPosition_1 : decode cX7_errorPosition 1 = .ok (.getfield 75, 3) := by decide +kernel
theorem dX7_errorPosition_4 : decode cX7_errorPosition 4 = .ok (.ifCond .ge 14, 3) := by decide +kernel
theorem dX7_errorPosition_7 : decode cX7_errorPosition 7 = .ok (.new 155, 3) := by decide +kernel
theorem dX7_errorPosition_10 : decode cX7_errorPosition 10 = .ok (.dup, 1) := by decide +kernel
theorem dX7_errorPosition_11 : decode cX7_errorPosition 11 = .ok (.ldc_w 453, 3) := by decide +kernel
theorem dX7_errorPosition_14 : decode cX7_errorPosition 14 = .ok (.invokespecial 159, 3) := by decide +kernel
theorem dX7_errorPosition_17 : decode cX7_errorPosition 17 = .ok (.athrow, 1) := by decide +kernel
theorem dX7_errorPosition_18 : decode cX7_errorPosition 18 = .ok (.aload_n 0, 1) := by decide +kernel
theorem dX7_errorPosition_19 : decode cX7_errorPosition 19 = .ok (.getfield 75, 3) := by decide +kernel
theorem dX7_errorPosition_22 : decode cX7_errorPosition 22 = .ok (.ireturn, 1) := by decide +kernel
theorem dX7_undo_0 : decode cX7_undo 0 = .ok (.aload_n 0, 1) := by decide +kernel
theorem dX7_undo_1 : decode cX7_undo 1 = .ok (.getfield 25, 3) := by decide +kernel
theorem dX7_undo_4 : decode cX7_undo 4 = .ok (.getfield 455, 3) := by decide +kernel
theorem dX7_undo_7 : decode cX7_undo 7 = .ok (.ifCond .gt 14, 3) := by decide +kernel
theorem dX7_undo_10 : decode cX7_undo 10 = .ok (.new 155, 3) := by decide +kernel
theorem dX7_undo_13 : decode cX7_undo 13 = .ok (.dup, 1) := by decide +kernel
theorem dX7_undo_14 : decode cX7_undo 14 = .ok (.ldc_w 457, 3) := by decide +kernel
theorem dX7_undo_17 : decode cX7_undo 17 = .ok (.invokespecial 159, 3) := by decide +kernel
theorem dX7_undo_20 : decode cX7_undo 20 = .ok (.athrow, 1) := by decide +kernel
theorem dX7_undo_21 : decode cX7_undo 21 = .ok (.aload_n 0, 1) := by decide +kernel
theorem dX7_undo_22 : decode cX7_undo 22 = .ok (.getfield 25, 3) := by decide +kernel
theorem dX7_undo_25 : decode cX7_undo 25 = .ok (.aload_n 0, 1) := by decide +kernel
theorem dX7_undo_26 : decode cX7_undo 26 = .ok (.getfield 12, 3) := by decide +kernel
theorem dX7_undo_29 : decode cX7_undo 29 = .ok (.invokevirtual 459, 3) := by decide +kernel
theorem dX7_undo_32 : decode cX7_undo 32 = .ok (.aload_n 0, 1) := by decide +kernel
theorem dX7_undo_33 : decode cX7_undo 33 = .ok (.invokevirtual 88, 3) := by decide +kernel
theorem dX7_undo_36 : decode cX7_undo 36 = .ok (.aload_n 0, 1) := by decide +kernel
theorem dX7_undo_37 : decode cX7_undo 37 = .ok (.getfield 25, 3) := by decide +kernel
theorem dX7_undo_40 : decode cX7_undo 40 = .ok (.getfield 455, 3) := by decide +kernel
theorem dX7_undo_43 : decode cX7_undo 43 = .ok (.ireturn, 1) := by decide +kernel
theorem dX7_save_0 : decode cX7_save 0 = .ok (.aload_n 0, 1) := by decide +kernel
theorem dX7_save_1 : decode cX7_save 1 = .ok (.getfield 16, 3) := by decide +kernel
theorem dX7_save_4 : decode cX7_save 4 = .ok (.aload_n 0, 1) := by decide +kernel
theorem dX7_save_5 : decode cX7_save 5 = .ok (.getfield 12, 3) := by decide +kernel
theorem dX7_save_8 : decode cX7_save 8 = .ok (.invokevirtual 441, 3) := by decide +kernel
theorem dX7_save_11 : decode cX7_save 11 = .ok (.aload_n 0, 1) := by decide +kernel
theorem dX7_save_12 : decode cX7_save 12 = .ok (.iconst 1, 1) := by decide +kernel
theorem dX7_save_13 : decode cX7_save 13 = .ok (.putfield 71, 3) := by decide +kernel
theorem dX7_save_16 : decode cX7_save 16 = .ok (.aload_n 0, 1) := by decide +kernel
theorem dX7_save_17 : decode cX7_save 17 = .ok (.getfield 12, 3) := by decide +kernel
theorem dX7_save_20 : decode cX7_save 20 = .ok (.getfield 79, 3) := by decide +kernel
theorem dX7_save_23 : decode cX7_save 23 = .ok (.ireturn, 1) := by decide +kernel
theorem dX7_restore_0 : decode cX7_restore 0 = .ok (.aload_n 0, 1) := by decide +kernel
theorem dX7_restore_1 : decode cX7_restore 1 = .ok (.getfield 71, 3) := by decide +kernel
theorem dX7_restore_4 : decode cX7_restore 4 = .ok (.ifCond .ne 14, 3) := by decide +kernel
theorem dX7_restore_7 : decode cX7_restore 7 = .ok (.new 102, 3) := by decide +kernel
theorem dX7_restore_10 : decode cX7_restore 10 = .ok (.dup, 1) := by decide +kernel
theorem dX7_restore_11 : decode cX7_restore 11 = .ok (.ldc_w 462, 3) := by decide +kernel
theorem dX7_restore_14 : decode cX7_restore 14 = .ok (.invokespecial 106, 3) := by decide +kernel
theorem dX7_restore_17 : decode cX7_restore 17 = .ok (.athrow, 1) := by decide +kernel
theorem dX7_restore_18 : decode cX7_restore 18 = .ok (.aload_n 0, 1) := by decide +kernel
theorem dX7_restore_19 : decode cX7_restore 19 = .ok (.getfield 12, 3) := by decide +kernel
theorem dX7_restore_22 : decode cX7_restore 22 = .ok (.aload_n 0, 1) := by decide +kernel
theorem dX7_restore_23 : decode cX7_restore 23 = .ok (.getfield 16, 3) := by decide +kernel
theorem dX7_restore_26 : decode cX7_restore 26 = .ok (.invokevirtual 441, 3) := by decide +kernel
theorem dX7_restore_29 : decode cX7_restore 29 = .ok (.aload_n 0, 1) := by decide +kernel
theorem dX7_restore_30 : decode cX7_restore 30 = .ok (.getfield 25, 3) := by decide +kernel
theorem dX7_restore_33 : decode cX7_restore 33 = .ok (.invokevirtual 85, 3) := by decide +kernel
theorem dX7_restore_36 : decode cX7_restore 36 = .ok (.aload_n 0, 1) := by decide +kernel
theorem dX7_restore_37 : decode cX7_restore 37 = .ok (.invokevirtual 88, 3) := by decide +kernel
theorem dX7_restore_40 : decode cX7_restore 40 = .ok (.aload_n 0, 1) := by decide +kernel
theorem dX7_restore_41 : decode cX7_restore 41 = .ok (.getfield 12, 3) := by decide +kernel
theorem dX7_restore_44 : decode cX7_restore 44 = .ok (.getfield 79, 3) := by decide +kernel
theorem dX7_restore_47 : decode cX7_restore 47 = .ok (.ireturn, 1) := by decide +kernel
theorem dX7_beginTurn_0 : decode cX7_beginTurn 0 = .ok (.aload_n 0, 1) := by decide +kernel
theorem dX7_beginTurn_1 : decode cX7_beginTurn 1 = .ok (.getfield 25, 3) := by decide +kernel
theorem dX7_beginTurn_4 : decode cX7_beginTurn 4 = .ok (.aload_n 0, 1) := by decide +kernel
theorem dX7_beginTurn_5 : decode cX7_beginTurn 5 = .ok (.getfield 12, 3) := by decide +kernel
theorem dX7_beginTurn_8 : decode cX7_beginTurn 8 = .ok (.invokevirtual 464, 3) := by decide +kernel
theorem dX7_beginTurn_11 : decode cX7_beginTurn 11 = .ok (.aload_n 0, 1) := by decide +kernel
theorem dX7_beginTurn_12 : decode cX7_beginTurn 12 = .ok (.getfield 46, 3) := by decide +kernel
theorem dX7_beginTurn_15 : decode cX7_beginTurn 15 = .ok (.iconst 0, 1) := by decide +kernel
theorem dX7_beginTurn_16 : decode cX7_beginTurn 16 = .ok (.putfield 467, 3) := by decide +kernel
theorem dX7_beginTurn_19 : decode cX7_beginTurn 19 = .ok (.return_, 1) := by decide +kernel
theorem dX7_beginChange_0 : decode cX7_beginChange 0 = .ok (.aload_n 0, 1) := by decide +kernel
theorem dX7_beginChange_1 : decode cX7_beginChange 1 = .ok (.getfield 25, 3) := by decide +kernel
theorem dX7_beginChange_4 : decode cX7_beginChange 4 = .ok (.aload_n 0, 1) := by decide +kernel
theorem dX7_beginChange_5 : decode cX7_beginChange 5 = .ok (.getfield 12, 3) := by decide +kernel
theorem dX7_beginChange_8 : decode cX7_beginChange 8 = .ok (.invokevirtual 464, 3) := by decide +kernel
theorem dX7_beginChange_11 : decode cX7_beginChange 11 = .ok (.aload_n 0, 1) := by decide +kernel
theorem dX7_beginChange_12 : decode cX7_beginChange 12 = .ok (.invokevirtual 88, 3) := by decide +kernel
theorem dX7_beginChange_15 : decode cX7_beginChange 15 = .ok (.return_, 1) := by decide +kernel
theorem dX7_dropPlans_0 : decode cX7_dropPlans 0 = .ok (.aload_n 0, 1) := by decide +kernel
theorem dX7_dropPlans_1 : decode cX7_dropPlans 1 = .ok (.getfield 46, 3) := by decide +kernel
theorem dX7_dropPlans_4 : decode cX7_dropPlans 4 = .ok (.iconst 0, 1) := by decide +kernel
theorem dX7_dropPlans_5 : decode cX7_dropPlans 5 = .ok (.putfield 467, 3) := by decide +kernel
theorem dX7_dropPlans_8 : decode cX7_dropPlans 8 = .ok (.aload_n 0, 1) := by decide +kernel
theorem dX7_dropPlans_9 : decode cX7_dropPlans 9 = .ok (.getfield 39, 3) := by decide +kernel
theorem dX7_dropPlans_12 : decode cX7_dropPlans 12 = .ok (.iconst 0, 1) := by decide +kernel
theorem dX7_dropPlans_13 : decode cX7_dropPlans 13 = .ok (.putfield 470, 3) := by decide +kernel
theorem dX7_dropPlans_16 : decode cX7_dropPlans 16 = .ok (.return_, 1) := by decide +kernel
theorem dX7_surveyPoses_0 : decode cX7_surveyPoses 0 = .ok (.aload_n 0, 1) := by decide +kernel
theorem dX7_surveyPoses_1 : decode cX7_surveyPoses 1 = .ok (.getfield 12, 3) := by decide +kernel
theorem dX7_surveyPoses_4 : decode cX7_surveyPoses 4 = .ok (.invokevirtual 163, 3) := by decide +kernel
theorem dX7_surveyPoses_7 : decode cX7_surveyPoses 7 = .ok (.sipush 5000, 3) := by decide +kernel
theorem dX7_surveyPoses_10 : decode cX7_surveyPoses 10 = .ok (.if_icmp .le 14, 3) := by decide +kernel
theorem dX7_surveyPoses_13 : decode cX7_surveyPoses 13 = .ok (.new 102, 3) := by decide +kernel
theorem dX7_surveyPoses_16 : decode cX7_surveyPoses 16 = .ok (.dup, 1) := by decide +kernel
theorem dX7_surveyPoses_17 : decode cX7_surveyPoses 17 = .ok (.ldc_w 473, 3) := by decide +kernel
theorem dX7_surveyPoses_20 : decode cX7_surveyPoses 20 = .ok (.invokespecial 106, 3) := by decide +kernel
theorem dX7_surveyPoses_23 : decode cX7_surveyPoses 23 = .ok (.athrow, 1) := by decide +kernel
theorem dX7_surveyPoses_24 : decode cX7_surveyPoses 24 = .ok (.aload_n 0, 1) := by decide +kernel
theorem dX7_surveyPoses_25 : decode cX7_surveyPoses 25 = .ok (.getfield 39, 3) := by decide +kernel
theorem dX7_surveyPoses_28 : decode cX7_surveyPoses 28 = .ok (.aload_n 0, 1) := by decide +kernel
theorem dX7_surveyPoses_29 : decode cX7_surveyPoses 29 = .ok (.getfield 12, 3) := by decide +kernel
theorem dX7_surveyPoses_32 : decode cX7_surveyPoses 32 = .ok (.invokevirtual 475, 3) := by decide +kernel
theorem dX7_surveyPoses_35 : decode cX7_surveyPoses 35 = .ok (.return_, 1) := by decide +kernel
theorem dX7_searchFromPresent_0 : decode cX7_searchFromPresent 0 = .ok (.aload_n 0, 1) := by decide +kernel
theorem dX7_searchFromPresent_1 : decode cX7_searchFromPresent 1 = .ok (.invokevirtual 280, 3) := by decide +kernel
theorem dX7_searchFromPresent_4 : decode cX7_searchFromPresent 4 = .ok (.aload_n 0, 1) := by decide +kernel
theorem dX7_searchFromPresent_5 : decode cX7_searchFromPresent 5 = .ok (.getfield 39, 3) := by decide +kernel
theorem dX7_searchFromPresent_8 : decode cX7_searchFromPresent 8 = .ok (.invokevirtual 326, 3) := by decide +kernel
theorem dX7_searchFromPresent_11 : decode cX7_searchFromPresent 11 = .ok (.aload_n 0, 1) := by decide +kernel
theorem dX7_searchFromPresent_12 : decode cX7_searchFromPresent 12 = .ok (.getfield 39, 3) := by decide +kernel
theorem dX7_searchFromPresent_15 : decode cX7_searchFromPresent 15 = .ok (.aload_n 0, 1) := by decide +kernel
theorem dX7_searchFromPresent_16 : decode cX7_searchFromPresent 16 = .ok (.getfield 12, 3) := by decide +kernel
theorem dX7_searchFromPresent_19 : decode cX7_searchFromPresent 19 = .ok (.aload_n 0, 1) := by decide +kernel
theorem dX7_searchFromPresent_20 : decode cX7_searchFromPresent 20 = .ok (.getfield 12, 3) := by decide +kernel
theorem dX7_searchFromPresent_23 : decode cX7_searchFromPresent 23 = .ok (.getfield 172, 3) := by decide +kernel
theorem dX7_searchFromPresent_26 : decode cX7_searchFromPresent 26 = .ok (.invokevirtual 264, 3) := by decide +kernel
theorem dX7_searchFromPresent_29 : decode cX7_searchFromPresent 29 = .ok (.iconst 0, 1) := by decide +kernel
theorem dX7_searchFromPresent_30 : decode cX7_searchFromPresent 30 = .ok (.invokevirtual 329, 3) := by decide +kernel
theorem dX7_searchFromPresent_33 : decode cX7_searchFromPresent 33 = .ok (.aload_n 0, 1) := by decide +kernel
theorem dX7_searchFromPresent_34 : decode cX7_searchFromPresent 34 = .ok (.getfield 39, 3) := by decide +kernel
theorem dX7_searchFromPresent_37 : decode cX7_searchFromPresent 37 = .ok (.iconst 0, 1) := by decide +kernel
theorem dX7_searchFromPresent_38 : decode cX7_searchFromPresent 38 = .ok (.invokevirtual 332, 3) := by decide +kernel
theorem dX7_searchFromPresent_41 : decode cX7_searchFromPresent 41 = .ok (.return_, 1) := by decide +kernel
theorem dX7_searchFromTips_0 : decode cX7_searchFromTips 0 = .ok (.aload_n 0, 1) := by decide +kernel
theorem dX7_searchFromTips_1 : decode cX7_searchFromTips 1 = .ok (.getfield 39, 3) := by decide +kernel
theorem dX7_searchFromTips_4 : decode cX7_searchFromTips 4 = .ok (.invokevirtual 326, 3) := by decide +kernel
theorem dX7_searchFromTips_7 : decode cX7_searchFromTips 7 = .ok (.iconst 0, 1) := by decide +kernel
theorem dX7_searchFromTips_8 : decode cX7_searchFromTips 8 = .ok (.istore 4, 2) := by decide +kernel
theorem dX7_searchFromTips_10 : decode cX7_searchFromTips 10 = .ok (.iload 4, 2) := by decide +kernel
theorem dX7_searchFromTips_12 : decode cX7_searchFromTips 12 = .ok (.aload_n 0, 1) := by decide +kernel
theorem dX7_searchFromTips_13 : decode cX7_searchFromTips 13 = .ok (.getfield 39, 3) := by decide +kernel
theorem dX7_searchFromTips_16 : decode cX7_searchFromTips 16 = .ok (.getfield 283, 3) := by decide +kernel
theorem dX7_searchFromTips_19 : decode cX7_searchFromTips 19 = .ok (.if_icmp .ge 57, 3) := by decide +kernel
theorem dX7_searchFromTips_22 : decode cX7_searchFromTips 22 = .ok (.aload_n 0, 1) := by decide +kernel
theorem dX7_searchFromTips_23 : decode cX7_searchFromTips 23 = .ok (.getfield 39, 3) := by decide +kernel
theorem dX7_searchFromTips_26 : decode cX7_searchFromTips 26 = .ok (.iload 4, 2) := by decide +kernel
theorem dX7_searchFromTips_28 : decode cX7_searchFromTips 28 = .ok (.invokevirtual 298, 3) := by decide +kernel
theorem dX7_searchFromTips_31 : decode cX7_searchFromTips 31 = .ok (.istore 5, 2) := by decide +kernel
theorem dX7_searchFromTips_33 : decode cX7_searchFromTips 33 = .ok (.iload 5, 2) := by decide +kernel
theorem dX7_searchFromTips_35 : decode cX7_searchFromTips 35 = .ok (.invokestatic 397, 3) := by decide +kernel
theorem dX7_searchFromTips_38 : decode cX7_searchFromTips 38 = .ok (.ifCond .eq 32, 3) := by decide +kernel
theorem dX7_searchFromTips_41 : decode cX7_searchFromTips 41 = .ok (.iload 5, 2) := by decide +kernel
theorem dX7_searchFromTips_43 : decode cX7_searchFromTips 43 = .ok (.invokestatic 318, 3) := by decide +kernel
theorem dX7_searchFromTips_46 : decode cX7_searchFromTips 46 = .ok (.iload 5, 2) := by decide +kernel
theorem dX7_searchFromTips_48 : decode cX7_searchFromTips 48 = .ok (.invokestatic 316, 3) := by decide +kernel
theorem dX7_searchFromTips_51 : decode cX7_searchFromTips 51 = .ok (.iload_n 1, 1) := by decide +kernel
theorem dX7_searchFromTips_52 : decode cX7_searchFromTips 52 = .ok (.iload_n 2, 1) := by decide +kernel
theorem dX7_searchFromTips_53 : decode cX7_searchFromTips 53 = .ok (.invokestatic 368, 3) := by decide +kernel
theorem dX7_searchFromTips_56 : decode cX7_searchFromTips 56 = .ok (.iload_n 3, 1) := by decide +kernel
theorem dX7_searchFromTips_57 : decode cX7_searchFromTips 57 = .ok (.if_icmp .ne 13, 3) := by decide +kernel
theorem dX7_searchFromTips_60 : decode cX7_searchFromTips 60 = .ok (.aload_n 0, 1) := by decide +kernel
theorem dX7_searchFromTips_61 : decode cX7_searchFromTips 61 = .ok (.getfield 39, 3) := by decide +kernel
theorem dX7_searchFromTips_64 : decode cX7_searchFromTips 64 = .ok (.iload 4, 2) := by decide +kernel
theorem dX7_searchFromTips_66 : decode cX7_searchFromTips 66 = .ok (.iconst 0, 1) := by decide +kernel
theorem dX7_searchFromTips_67 : decode cX7_searchFromTips 67 = .ok (.invokevirtual 329, 3) := by decide +kernel
theorem dX7_searchFromTips_70 : decode cX7_searchFromTips 70 = .ok (.iinc 4 1, 3) := by decide +kernel
theorem dX7_searchFromTips_73 : decode cX7_searchFromTips 73 = .ok (.goto (-63), 3) := by decide +kernel
theorem dX7_searchFromTips_76 : decode cX7_searchFromTips 76 = .ok (.aload_n 0, 1) := by decide +kernel
theorem dX7_searchFromTips_77 : decode cX7_searchFromTips 77 = .ok (.getfield 39, 3) := by decide +kernel
theorem dX7_searchFromTips_80 : decode cX7_searchFromTips 80 = .ok (.iconst 0, 1) := by decide +kernel
theorem dX7_searchFromTips_81 : decode cX7_searchFromTips 81 = .ok (.invokevirtual 332, 3) := by decide +kernel
theorem dX7_searchFromTips_84 : decode cX7_searchFromTips 84 = .ok (.return_, 1) := by decide +kernel
theorem dX7_planBestToPose_0 : decode cX7_planBestToPose 0 = .ok (.aload_n 0, 1) := by decide +kernel
theorem dX7_planBestToPose_1 : decode cX7_planBestToPose 1 = .ok (.getfield 39, 3) := by decide +kernel
theorem dX7_planBestToPose_4 : decode cX7_planBestToPose 4 = .ok (.invokevirtual 326, 3) := by decide +kernel
theorem dX7_planBestToPose_7 : decode cX7_planBestToPose 7 = .ok (.aload_n 0, 1) := by decide +kernel
theorem dX7_planBestToPose_8 : decode cX7_planBestToPose 8 = .ok (.getfield 39, 3) := by decide +kernel
theorem dX7_planBestToPose_11 : decode cX7_planBestToPose 11 = .ok (.iload_n 1, 1) := by decide +kernel
theorem dX7_planBestToPose_12 : decode cX7_planBestToPose 12 = .ok (.iconst 0, 1) := by decide +kernel
theorem dX7_planBestToPose_13 : decode cX7_planBestToPose 13 = .ok (.invokevirtual 329, 3) := by decide +kernel
theorem dX7_planBestToPose_16 : decode cX7_planBestToPose 16 = .ok (.aload_n 0, 1) := by decide +kernel
theorem dX7_planBestToPose_17 : decode cX7_planBestToPose 17 = .ok (.getfield 39, 3) := by decide +kernel
theorem dX7_planBestToPose_20 : decode cX7_planBestToPose 20 = .ok (.iconst 0, 1) := by decide +kernel
theorem dX7_planBestToPose_21 : decode cX7_planBestToPose 21 = .ok (.invokevirtual 332, 3) := by decide +kernel
theorem dX7_planBestToPose_24 : decode cX7_planBestToPose 24 = .ok (.aload_n 0, 1) := by decide +kernel
theorem dX7_planBestToPose_25 : decode cX7_planBestToPose 25 = .ok (.invokevirtual 349, 3) := by decide +kernel
theorem dX7_planBestToPose_28 : decode cX7_planBestToPose 28 = .ok (.ireturn, 1) := by decide +kernel
theorem dX7_takeBest_0 : decode cX7_takeBest 0 = .ok (.aload_n 0, 1) := by decide +kernel
theorem dX7_takeBest_1 : decode cX7_takeBest 1 = .ok (.invokevirtual 352, 3) := by decide +kernel
theorem dX7_takeBest_4 : decode cX7_takeBest 4 = .ok (.aload_n 0, 1) := by decide +kernel
theorem dX7_takeBest_5 : decode cX7_takeBest 5 = .ok (.getfield 46, 3) := by decide +kernel
theorem dX7_takeBest_8 : decode cX7_takeBest 8 = .ok (.aload_n 0, 1) := by decide +kernel
theorem dX7_takeBest_9 : decode cX7_takeBest 9 = .ok (.getfield 12, 3) := by decide +kernel
theorem dX7_takeBest_12 : decode cX7_takeBest 12 = .ok (.aload_n 0, 1) := by decide +kernel
theorem dX7_takeBest_13 : decode cX7_takeBest 13 = .ok (.getfield 12, 3) := by decide +kernel
theorem dX7_takeBest_16 : decode cX7_takeBest 16 = .ok (.getfield 172, 3) := by decide +kernel
theorem dX7_takeBest_19 : decode cX7_takeBest 19 = .ok (.invokevirtual 264, 3) := by decide +kernel
theorem dX7_takeBest_22 : decode cX7_takeBest 22 = .ok (.invokevirtual 358, 3) := by decide +kernel
theorem dX7_takeBest_25 : decode cX7_takeBest 25 = .ok (.aload_n 0, 1) := by decide +kernel
theorem dX7_takeBest_26 : decode cX7_takeBest 26 = .ok (.getfield 39, 3) := by decide +kernel
theorem dX7_takeBest_29 : decode cX7_takeBest 29 = .ok (.aload_n 0, 1) := by decide +kernel
theorem dX7_takeBest_30 : decode cX7_takeBest 30 = .ok (.getfield 46, 3) := by decide +kernel
theorem dX7_takeBest_33 : decode cX7_takeBest 33 = .ok (.invokevirtual 478, 3) := by decide +kernel
theorem dX7_takeBest_36 : decode cX7_takeBest 36 = .ok (.aload_n 0, 1) := by decide +kernel
theorem dX7_takeBest_37 : decode cX7_takeBest 37 = .ok (.getfield 46, 3) := by decide +kernel
theorem dX7_takeBest_40 : decode cX7_takeBest 40 = .ok (.getfield 375, 3) := by decide +kernel
theorem dX7_takeBest_43 : decode cX7_takeBest 43 = .ok (.ireturn, 1) := by decide +kernel
theorem dX7_requireWay_0 : decode cX7_requireWay 0 = .ok (.aload_n 0, 1) := by decide +kernel
theorem dX7_requireWay_1 : decode cX7_requireWay 1 = .ok (.getfield 39, 3) := by decide +kernel
theorem dX7_requireWay_4 : decode cX7_requireWay 4 = .ok (.aload_n 0, 1) := by decide +kernel
theorem dX7_requireWay_5 : decode cX7_requireWay 5 = .ok (.getfield 12, 3) := by decide +kernel
theorem dX7_requireWay_8 : decode cX7_requireWay 8 = .ok (.aload_n 0, 1) := by decide +kernel
theorem dX7_requireWay_9 : decode cX7_requireWay 9 = .ok (.getfield 12, 3) := by decide +kernel
theorem dX7_requireWay_12 : decode cX7_requireWay 12 = .ok (.getfield 172, 3) := by decide +kernel
theorem dX7_requireWay_15 : decode cX7_requireWay 15 = .ok (.invokevirtual 264, 3) := by decide +kernel
theorem dX7_requireWay_18 : decode cX7_requireWay 18 = .ok (.invokevirtual 323, 3) := by decide +kernel
theorem dX7_requireWay_21 : decode cX7_requireWay 21 = .ok (.ifCond .ge 14, 3) := by decide +kernel
theorem dX7_requireWay_24 : decode cX7_requireWay 24 = .ok (.new 155, 3) := by decide +kernel
theorem dX7_requireWay_27 : decode cX7_requireWay 27 = .ok (.dup, 1) := by decide +kernel
theorem dX7_requireWay_28 : decode cX7_requireWay 28 = .ok (.ldc_w 481, 3) := by decide +kernel
theorem dX7_requireWay_31 : decode cX7_requireWay 31 = .ok (.invokespecial 159, 3) := by decide +kernel
theorem dX7_requireWay_34 : decode cX7_requireWay 34 = .ok (.athrow, 1) := by decide +kernel
theorem dX7_requireWay_35 : decode cX7_requireWay 35 = .ok (.return_, 1) := by decide +kernel
theorem dX7_requireReached_0 : decode cX7_requireReached 0 = .ok (.aload_n 0, 1) := by decide +kernel
theorem dX7_requireReached_1 : decode cX7_requireReached 1 = .ok (.getfield 39, 3) := by decide +kernel
theorem dX7_requireReached_4 : decode cX7_requireReached 4 = .ok (.getfield 307, 3) := by decide +kernel
theorem dX7_requireReached_7 : decode cX7_requireReached 7 = .ok (.ifCond .gt 14, 3) := by decide +kernel
theorem dX7_requireReached_10 : decode cX7_requireReached 10 = .ok (.new 155, 3) := by decide +kernel
theorem dX7_requireReached_13 : decode cX7_requireReached 13 = .ok (.dup, 1) := by decide +kernel
theorem dX7_requireReached_14 : decode cX7_requireReached 14 = .ok (.ldc_w 483, 3) := by decide +kernel
theorem dX7_requireReached_17 : decode cX7_requireReached 17 = .ok (.invokespecial 159, 3) := by decide +kernel
theorem dX7_requireReached_20 : decode cX7_requireReached 20 = .ok (.athrow, 1) := by decide +kernel
theorem dX7_requireReached_21 : decode cX7_requireReached 21 = .ok (.return_, 1) := by decide +kernel
theorem dX7_requirePath_0 : decode cX7_requirePath 0 = .ok (.aload_n 0, 1) := by decide +kernel
theorem dX7_requirePath_1 : decode cX7_requirePath 1 = .ok (.getfield 46, 3) := by decide +kernel
theorem dX7_requirePath_4 : decode cX7_requirePath 4 = .ok (.getfield 467, 3) := by decide +kernel
theorem dX7_requirePath_7 : decode cX7_requirePath 7 = .ok (.ifCond .ne 14, 3) := by decide +kernel
theorem dX7_requirePath_10 : decode cX7_requirePath 10 = .ok (.new 155, 3) := by decide +kernel
theorem dX7_requirePath_13 : decode cX7_requirePath 13 = .ok (.dup, 1) := by decide +kernel
theorem dX7_requirePath_14 : decode cX7_requirePath 14 = .ok (.ldc_w 481, 3) := by decide +kernel
theorem dX7_requirePath_17 : decode cX7_requirePath 17 = .ok (.invokespecial 159, 3) := by decide +kernel
theorem dX7_requirePath_20 : decode cX7_requirePath 20 = .ok (.athrow, 1) := by decide +kernel
theorem dX7_requirePath_21 : decode cX7_requirePath 21 = .ok (.return_, 1) := by decide +kernel
theorem dX7_requirePose_0 : decode cX7_requirePose 0 = .ok (.iload_n 1, 1) := by decide +kernel
theorem dX7_requirePose_1 : decode cX7_requirePose 1 = .ok (.ifCond .lt 14, 3) := by decide +kernel
theorem dX7_requirePose_4 : decode cX7_requirePose 4 = .ok (.iload_n 1, 1) := by decide +kernel
theorem dX7_requirePose_5 : decode cX7_requirePose 5 = .ok (.aload_n 0, 1) := by decide +kernel
theorem dX7_requirePose_6 : decode cX7_requirePose 6 = .ok (.getfield 12, 3) := by decide +kernel
theorem dX7_requirePose_9 : decode cX7_requirePose 9 = .ok (.invokevirtual 163, 3) := by decide +kernel
theorem dX7_requirePose_12 : decode cX7_requirePose 12 = .ok (.if_icmp .lt 14, 3) := by decide +kernel
theorem dX7_requirePose_15 : decode cX7_requirePose 15 = .ok (.new 122, 3) := by decide +kernel
theorem dX7_requirePose_18 : decode cX7_requirePose 18 = .ok (.dup, 1) := by decide +kernel
theorem dX7_requirePose_19 : decode cX7_requirePose 19 = .ok (.ldc_w 485, 3) := by decide +kernel
theorem dX7_requirePose_22 : decode cX7_requirePose 22 = .ok (.invokespecial 126, 3) := by decide +kernel
theorem dX7_requirePose_25 : decode cX7_requirePose 25 = .ok (.athrow, 1) := by decide +kernel
theorem dX7_requirePose_26 : decode cX7_requirePose 26 = .ok (.return_, 1) := by decide +kernel
theorem dX7_tallyTips_0 : decode cX7_tallyTips 0 = .ok (.aload_n 0, 1) := by decide +kernel
theorem dX7_tallyTips_1 : decode cX7_tallyTips 1 = .ok (.getfield 68, 3) := by decide +kernel
theorem dX7_tallyTips_4 : decode cX7_tallyTips 4 = .ok (.iconst 0, 1) := by decide +kernel
theorem dX7_tallyTips_5 : decode cX7_tallyTips 5 = .ok (.invokestatic 388, 3) := by decide +kernel
theorem dX7_tallyTips_8 : decode cX7_tallyTips 8 = .ok (.iconst 0, 1) := by decide +kernel
theorem dX7_tallyTips_9 : decode cX7_tallyTips 9 = .ok (.istore_n 1, 1) := by decide +kernel
theorem dX7_tallyTips_10 : decode cX7_tallyTips 10 = .ok (.iload_n 1, 1) := by decide +kernel
theorem dX7_tallyTips_11 : decode cX7_tallyTips 11 = .ok (.aload_n 0, 1) := by decide +kernel
theorem dX7_tallyTips_12 : decode cX7_tallyTips 12 = .ok (.getfield 39, 3) := by decide +kernel
theorem dX7_tallyTips_15 : decode cX7_tallyTips 15 = .ok (.getfield 307, 3) := by decide +kernel
theorem dX7_tallyTips_18 : decode cX7_tallyTips 18 = .ok (.if_icmp .ge 42, 3) := by decide +kernel
theorem dX7_tallyTips_21 : decode cX7_tallyTips 21 = .ok (.aload_n 0, 1) := by decide +kernel
theorem dX7_tallyTips_22 : decode cX7_tallyTips 22 = .ok (.getfield 39, 3) := by decide +kernel
theorem dX7_tallyTips_25 : decode cX7_tallyTips 25 = .ok (.aload_n 0, 1) := by decide +kernel
theorem dX7_tallyTips_26 : decode cX7_tallyTips 26 = .ok (.getfield 39, 3) := by decide +kernel
theorem dX7_tallyTips_29 : decode cX7_tallyTips 29 = .ok (.iload_n 1, 1) := by decide +kernel
theorem dX7_tallyTips_30 : decode cX7_tallyTips 30 = .ok (.invokevirtual 320, 3) := by decide +kernel
theorem dX7_tallyTips_33 : decode cX7_tallyTips 33 = .ok (.invokevirtual 298, 3) := by decide +kernel
theorem dX7_tallyTips_36 : decode cX7_tallyTips 36 = .ok (.istore_n 2, 1) := by decide +kernel
theorem dX7_tallyTips_37 : decode cX7_tallyTips 37 = .ok (.iload_n 2, 1) := by decide +kernel
theorem dX7_tallyTips_38 : decode cX7_tallyTips 38 = .ok (.invokestatic 397, 3) := by decide +kernel
theorem dX7_tallyTips_41 : decode cX7_tallyTips 41 = .ok (.ifCond .eq 13, 3) := by decide +kernel
theorem dX7_tallyTips_44 : decode cX7_tallyTips 44 = .ok (.aload_n 0, 1) := by decide +kernel
theorem dX7_tallyTips_45 : decode cX7_tallyTips 45 = .ok (.getfield 68, 3) := by decide +kernel
theorem dX7_tallyTips_48 : decode cX7_tallyTips 48 = .ok (.iload_n 2, 1) := by decide +kernel
theorem dX7_tallyTips_49 : decode cX7_tallyTips 49 = .ok (.dup2, 1) := by decide +kernel
theorem dX7_tallyTips_50 : decode cX7_tallyTips 50 = .ok (.iaload, 1) := by decide +kernel
theorem dX7_tallyTips_51 : decode cX7_tallyTips 51 = .ok (.iconst 1, 1) := by decide +kernel
theorem dX7_tallyTips_52 : decode cX7_tallyTips 52 = .ok (.iadd, 1) := by decide +kernel
theorem dX7_tallyTips_53 : decode cX7_tallyTips 53 = .ok (.iastore, 1) := by decide +kernel
theorem dX7_tallyTips_54 : decode cX7_tallyTips 54 = .ok (.iinc 1 1, 3) := by decide +kernel
theorem dX7_tallyTips_57 : decode cX7_tallyTips 57 = .ok (.goto (-47), 3) := by decide +kernel
theorem dX7_tallyTips_60 : decode cX7_tallyTips 60 = .ok (.return_, 1) := by decide +kernel
theorem dX7_isFreeNow_0 : decode cX7_isFreeNow 0 = .ok (.aload_n 0, 1) := by decide +kernel
theorem dX7_isFreeNow_1 : decode cX7_isFreeNow 1 = .ok (.getfield 32, 3) := by decide +kernel
theorem dX7_isFreeNow_4 : decode cX7_isFreeNow 4 = .ok (.aload_n 0, 1) := by decide +kernel
theorem dX7_isFreeNow_5 : decode cX7_isFreeNow 5 = .ok (.getfield 12, 3) := by decide +kernel
theorem dX7_isFreeNow_8 : decode cX7_isFreeNow 8 = .ok (.aload_n 0, 1) := by decide +kernel
theorem dX7_isFreeNow_9 : decode cX7_isFreeNow 9 = .ok (.getfield 12, 3) := by decide +kernel
theorem dX7_isFreeNow_12 : decode cX7_isFreeNow 12 = .ok (.getfield 172, 3) := by decide +kernel
theorem dX7_isFreeNow_15 : decode cX7_isFreeNow 15 = .ok (.invokevirtual 175, 3) := by decide +kernel
theorem dX7_isFreeNow_18 : decode cX7_isFreeNow 18 = .ok (.aload_n 0, 1) := by decide +kernel
theorem dX7_isFreeNow_19 : decode cX7_isFreeNow 19 = .ok (.getfield 32, 3) := by decide +kernel
theorem dX7_isFreeNow_22 : decode cX7_isFreeNow 22 = .ok (.getfield 250, 3) := by decide +kernel
theorem dX7_isFreeNow_25 : decode cX7_isFreeNow 25 = .ok (.ifCond .ne 7, 3) := by decide +kernel
theorem dX7_isFreeNow_28 : decode cX7_isFreeNow 28 = .ok (.iconst 1, 1) := by decide +kernel
theorem dX7_isFreeNow_29 : decode cX7_isFreeNow 29 = .ok (.goto 4, 3) := by decide +kernel
theorem dX7_isFreeNow_32 : decode cX7_isFreeNow 32 = .ok (.iconst 0, 1) := by decide +kernel
theorem dX7_isFreeNow_33 : decode cX7_isFreeNow 33 = .ok (.ireturn, 1) := by decide +kernel
theorem dX7_leadsToFree_0 : decode cX7_leadsToFree 0 = .ok (.iload_n 1, 1) := by decide +kernel
theorem dX7_leadsToFree_1 : decode cX7_leadsToFree 1 = .ok (.invokestatic 224, 3) := by decide +kernel
theorem dX7_leadsToFree_4 : decode cX7_leadsToFree 4 = .ok (.istore_n 2, 1) := by decide +kernel
theorem dX7_leadsToFree_5 : decode cX7_leadsToFree 5 = .ok (.aload_n 0, 1) := by decide +kernel
theorem dX7_leadsToFree_6 : decode cX7_leadsToFree 6 = .ok (.getfield 12, 3) := by decide +kernel
theorem dX7_leadsToFree_9 : decode cX7_leadsToFree 9 = .ok (.iload_n 2, 1) := by decide +kernel
theorem dX7_leadsToFree_10 : decode cX7_leadsToFree 10 = .ok (.invokevirtual 133, 3) := by decide +kernel
theorem dX7_leadsToFree_13 : decode cX7_leadsToFree 13 = .ok (.iload_n 1, 1) := by decide +kernel
theorem dX7_leadsToFree_14 : decode cX7_leadsToFree 14 = .ok (.invokestatic 238, 3) := by decide +kernel
theorem dX7_leadsToFree_17 : decode cX7_leadsToFree 17 = .ok (.iadd, 1) := by decide +kernel
theorem dX7_leadsToFree_18 : decode cX7_leadsToFree 18 = .ok (.istore_n 3, 1) := by decide +kernel
theorem dX7_leadsToFree_19 : decode cX7_leadsToFree 19 = .ok (.iload_n 2, 1) := by decide +kernel
theorem dX7_leadsToFree_20 : decode cX7_leadsToFree 20 = .ok (.ifCond .lt 20, 3) := by decide +kernel
theorem dX7_leadsToFree_23 : decode cX7_leadsToFree 23 = .ok (.iload_n 2, 1) := by decide +kernel
theorem dX7_leadsToFree_24 : decode cX7_leadsToFree 24 = .ok (.iconst 4, 1) := by decide +kernel
theorem dX7_leadsToFree_25 : decode cX7_leadsToFree 25 = .ok (.if_icmp .ge 15, 3) := by decide +kernel
theorem dX7_leadsToFree_28 : decode cX7_leadsToFree 28 = .ok (.aload_n 0, 1) := by decide +kernel
theorem dX7_leadsToFree_29 : decode cX7_leadsToFree 29 = .ok (.getfield 12, 3) := by decide +kernel
theorem dX7_leadsToFree_32 : decode cX7_leadsToFree 32 = .ok (.iload_n 2, 1) := by decide +kernel
theorem dX7_leadsToFree_33 : decode cX7_leadsToFree 33 = .ok (.iload_n 3, 1) := by decide +kernel
theorem dX7_leadsToFree_34 : decode cX7_leadsToFree 34 = .ok (.invokevirtual 213, 3) := by decide +kernel
theorem dX7_leadsToFree_37 : decode cX7_leadsToFree 37 = .ok (.ifCond .ne 5, 3) := by decide +kernel
theorem dX7_leadsToFree_40 : decode cX7_leadsToFree 40 = .ok (.iconst 0, 1) := by decide +kernel
theorem dX7_leadsToFree_41 : decode cX7_leadsToFree 41 = .ok (.ireturn, 1) := by decide +kernel
theorem dX7_leadsToFree_42 : decode cX7_leadsToFree 42 = .ok (.aload_n 0, 1) := by decide +kernel
theorem dX7_leadsToFree_43 : decode cX7_leadsToFree 43 = .ok (.getfield 12, 3) := by decide +kernel
theorem dX7_leadsToFree_46 : decode cX7_leadsToFree 46 = .ok (.getfield 172, 3) := by decide +kernel
theorem dX7_leadsToFree_49 : decode cX7_leadsToFree 49 = .ok (.iconst 0, 1) := by decide +kernel
theorem dX7_leadsToFree_50 : decode cX7_leadsToFree 50 = .ok (.aload_n 0, 1) := by decide +kernel
theorem dX7_leadsToFree_51 : decode cX7_leadsToFree 51 = .ok (.getfield 64, 3) := by decide +kernel
theorem dX7_leadsToFree_54 : decode cX7_leadsToFree 54 = .ok (.iconst 0, 1) := by decide +kernel
theorem dX7_leadsToFree_55 : decode cX7_leadsToFree 55 = .ok (.iconst 4, 1) := by decide +kernel
theorem dX7_leadsToFree_56 : decode cX7_leadsToFree 56 = .ok (.invokestatic 487, 3) := by decide +kernel
theorem dX7_leadsToFree_59 : decode cX7_leadsToFree 59 = .ok (.aload_n 0, 1) := by decide +kernel
theorem dX7_leadsToFree_60 : decode cX7_leadsToFree 60 = .ok (.getfield 64, 3) := by decide +kernel
theorem dX7_leadsToFree_63 : decode cX7_leadsToFree 63 = .ok (.iload_n 2, 1) := by decide +kernel
theorem dX7_leadsToFree_64 : decode cX7_leadsToFree 64 = .ok (.iload_n 3, 1) := by decide +kernel
theorem dX7_leadsToFree_65 : decode cX7_leadsToFree 65 = .ok (.iastore, 1) := by decide +kernel
theorem dX7_leadsToFree_66 : decode cX7_leadsToFree 66 = .ok (.aload_n 0, 1) := by decide +kernel
theorem dX7_leadsToFree_67 : decode cX7_leadsToFree 67 = .ok (.getfield 32, 3) := by decide +kernel
theorem dX7_leadsToFree_70 : decode cX7_leadsToFree 70 = .ok (.aload_n 0, 1) := by decide +kernel
theorem dX7_leadsToFree_71 : decode cX7_leadsToFree 71 = .ok (.getfield 12, 3) := by decide +kernel
theorem dX7_leadsToFree_74 : decode cX7_leadsToFree 74 = .ok (.aload_n 0, 1) := by decide +kernel
theorem dX7_leadsToFree_75 : decode cX7_leadsToFree 75 = .ok (.getfield 64, 3) := by decide +kernel
theorem dX7_leadsToFree_78 : decode cX7_leadsToFree 78 = .ok (.invokevirtual 175, 3) := by decide +kernel
theorem dX7_leadsToFree_81 : decode cX7_leadsToFree 81 = .ok (.aload_n 0, 1) := by decide +kernel
theorem dX7_leadsToFree_82 : decode cX7_leadsToFree 82 = .ok (.getfield 32, 3) := by decide +kernel
theorem dX7_leadsToFree_85 : decode cX7_leadsToFree 85 = .ok (.getfield 250, 3) := by decide +kernel
theorem dX7_leadsToFree_88 : decode cX7_leadsToFree 88 = .ok (.ifCond .ne 7, 3) := by decide +kernel
theorem dX7_leadsToFree_91 : decode cX7_leadsToFree 91 = .ok (.iconst 1, 1) := by decide +kernel
theorem dX7_leadsToFree_92 : decode cX7_leadsToFree 92 = .ok (.goto 4, 3) := by decide +kernel
theorem dX7_leadsToFree_95 : decode cX7_leadsToFree 95 = .ok (.iconst 0, 1) := by decide +kernel
theorem dX7_leadsToFree_96 : decode cX7_leadsToFree 96 = .ok (.ireturn, 1) := by decide +kernel
theorem dX7_distanceToObstacles_0 : decode cX7_distanceToObstacles 0 = .ok (.ldc_w 270, 3) := by decide +kernel
theorem dX7_distanceToObstacles_3 : decode cX7_distanceToObstacles 3 = .ok (.istore_n 3, 1) := by decide +kernel
theorem dX7_distanceToObstacles_4 : decode cX7_distanceToObstacles 4 = .ok (.iconst 0, 1) := by decide +kernel
theorem dX7_distanceToObstacles_5 : decode cX7_distanceToObstacles 5 = .ok (.istore 4, 2) := by decide +kernel
theorem dX7_distanceToObstacles_7 : decode cX7_distanceToObstacles 7 = .ok (.iload 4, 2) := by decide +kernel
theorem dX7_distanceToObstacles_9 : decode cX7_distanceToObstacles 9 = .ok (.aload_n 0, 1) := by decide +kernel
theorem dX7_distanceToObstacles_10 : decode cX7_distanceToObstacles 10 = .ok (.getfield 12, 3) := by decide +kernel
theorem dX7_distanceToObstacles_13 : decode cX7_distanceToObstacles 13 = .ok (.getfield 143, 3) := by decide +kernel
theorem dX7_distanceToObstacles_16 : decode cX7_distanceToObstacles 16 = .ok (.if_icmp .ge 46, 3) := by decide +kernel
theorem dX7_distanceToObstacles_19 : decode cX7_distanceToObstacles 19 = .ok (.iload 4, 2) := by decide +kernel
theorem dX7_distanceToObstacles_21 : decode cX7_distanceToObstacles 21 = .ok (.bipush 60, 2) := by decide +kernel
theorem dX7_distanceToObstacles_23 : decode cX7_distanceToObstacles 23 = .ok (.if_icmp .ge 39, 3) := by decide +kernel
theorem dX7_distanceToObstacles_26 : decode cX7_distanceToObstacles 26 = .ok (.iload_n 3, 1) := by decide +kernel
theorem dX7_distanceToObstacles_27 : decode cX7_distanceToObstacles 27 = .ok (.iload_n 1, 1) := by decide +kernel
theorem dX7_distanceToObstacles_28 : decode cX7_distanceToObstacles 28 = .ok (.iload_n 2, 1) := by decide +kernel
theorem dX7_distanceToObstacles_29 : decode cX7_distanceToObstacles 29 = .ok (.aload_n 0, 1) := by decide +kernel
theorem dX7_distanceToObstacles_30 : decode cX7_distanceToObstacles 30 = .ok (.getfield 12, 3) := by decide +kernel
theorem dX7_distanceToObstacles_33 : decode cX7_distanceToObstacles 33 = .ok (.getfield 210, 3) := by decide +kernel
theorem dX7_distanceToObstacles_36 : decode cX7_distanceToObstacles 36 = .ok (.iload 4, 2) := by decide +kernel
theorem dX7_distanceToObstacles_38 : decode cX7_distanceToObstacles 38 = .ok (.iaload, 1) := by decide +kernel
theorem dX7_distanceToObstacles_39 : decode cX7_distanceToObstacles 39 = .ok (.aload_n 0, 1) := by decide +kernel
theorem dX7_distanceToObstacles_40 : decode cX7_distanceToObstacles 40 = .ok (.getfield 12, 3) := by decide +kernel
theorem dX7_distanceToObstacles_43 : decode cX7_distanceToObstacles 43 = .ok (.getfield 207, 3) := by decide +kernel
theorem dX7_distanceToObstacles_46 : decode cX7_distanceToObstacles 46 = .ok (.iload 4, 2) := by decide +kernel
theorem dX7_distanceToObstacles_48 : decode cX7_distanceToObstacles 48 = .ok (.iaload, 1) := by decide +kernel
theorem dX7_distanceToObstacles_49 : decode cX7_distanceToObstacles 49 = .ok (.invokestatic 368, 3) := by decide +kernel
theorem dX7_distanceToObstacles_52 : decode cX7_distanceToObstacles 52 = .ok (.invokestatic 274, 3) := by decide +kernel
theorem dX7_distanceToObstacles_55 : decode cX7_distanceToObstacles 55 = .ok (.istore_n 3, 1) := by decide +kernel
theorem dX7_distanceToObstacles_56 : decode cX7_distanceToObstacles 56 = .ok (.iinc 4 1, 3) := by decide +kernel
theorem dX7_distanceToObstacles_59 : decode cX7_distanceToObstacles 59 = .ok (.goto (-52), 3) := by decide +kernel
theorem dX7_distanceToObstacles_62 : decode cX7_distanceToObstacles 62 = .ok (.iload_n 3, 1) := by decide +kernel
theorem dX7_distanceToObstacles_63 : decode cX7_distanceToObstacles 63 = .ok (.ireturn, 1) := by decide +kernel
theorem dX7_requireCell_0 : decode cX7_requireCell 0 = .ok (.iload_n 0, 1) := by decide +kernel
theorem dX7_requireCell_1 : decode cX7_requireCell 1 = .ok (.iload_n 1, 1) := by decide +kernel
theorem dX7_requireCell_2 : decode cX7_requireCell 2 = .ok (.invokestatic 493, 3) := by decide +kernel
theorem dX7_requireCell_5 : decode cX7_requireCell 5 = .ok (.ifCond .ne 14, 3) := by decide +kernel
theorem dX7_requireCell_8 : decode cX7_requireCell 8 = .ok (.new 122, 3) := by decide +kernel
theorem dX7_requireCell_11 : decode cX7_requireCell 11 = .ok (.dup, 1) := by decide +kernel
theorem dX7_requireCell_12 : decode cX7_requireCell 12 = .ok (.ldc_w 496, 3) := by decide +kernel
theorem dX7_requireCell_15 : decode cX7_requireCell 15 = .ok (.invokespecial 126, 3) := by decide +kernel
theorem dX7_requireCell_18 : decode cX7_requireCell 18 = .ok (.athrow, 1) := by decide +kernel
theorem dX7_requireCell_19 : decode cX7_requireCell 19 = .ok (.return_, 1) := by decide +kernel
theorem dX7_requireName_0 : decode cX7_requireName 0 = .ok (.iload_n 0, 1) := by decide +kernel
theorem dX7_requireName_1 : decode cX7_requireName 1 = .ok (.bipush 97, 2) := by decide +kernel
theorem dX7_requireName_3 : decode cX7_requireName 3 = .ok (.if_icmp .lt 9, 3) := by decide +kernel
theorem dX7_requireName_6 : decode cX7_requireName 6 = .ok (.iload_n 0, 1) := by decide +kernel
theorem dX7_requireName_7 : decode cX7_requireName 7 = .ok (.bipush 122, 2) := by decide +kernel
theorem dX7_requireName_9 : decode cX7_requireName 9 = .ok (.if_icmp .le 14, 3) := by decide +kernel
theorem dX7_requireName_12 : decode cX7_requireName 12 = .ok (.new 95, 3) := by decide +kernel
theorem dX7_requireName_15 : decode cX7_requireName 15 = .ok (.dup, 1) := by decide +kernel
theorem dX7_requireName_16 : decode cX7_requireName 16 = .ok (.ldc_w 498, 3) := by decide +kernel
theorem dX7_requireName_19 : decode cX7_requireName 19 = .ok (.invokespecial 99, 3) := by decide +kernel
theorem dX7_requireName_22 : decode cX7_requireName 22 = .ok (.athrow, 1) := by decide +kernel
theorem dX7_requireName_23 : decode cX7_requireName 23 = .ok (.return_, 1) := by decide +kernel
theorem dX7_isLimit_0 : decode cX7_isLimit 0 = .ok (.iload_n 0, 1) := by decide +kernel
theorem dX7_isLimit_1 : decode cX7_isLimit 1 = .ok (.ifCond .lt 13, 3) := by decide +kernel
theorem dX7_isLimit_4 : decode cX7_isLimit 4 = .ok (.iload_n 0, 1) := by decide +kernel
theorem dX7_isLimit_5 : decode cX7_isLimit 5 = .ok (.bipush 8, 2) := by decide +kernel
theorem dX7_isLimit_7 : decode cX7_isLimit 7 = .ok (.if_icmp .gt 7, 3) := by decide +kernel
theorem dX7_isLimit_10 : decode cX7_isLimit 10 = .ok (.iconst 1, 1) := by decide +kernel
theorem dX7_isLimit_11 : decode cX7_isLimit 11 = .ok (.goto 4, 3) := by decide +kernel
theorem dX7_isLimit_14 : decode cX7_isLimit 14 = .ok (.iconst 0, 1) := by decide +kernel
theorem dX7_isLimit_15 : decode cX7_isLimit 15 = .ok (.ireturn, 1) := by decide +kernel
theorem dX7_isInside_0 : decode cX7_isInside 0 = .ok (.iload_n 0, 1) := by decide +kernel
theorem dX7_isInside_1 : decode cX7_isInside 1 = .ok (.bipush (-10), 2) := by decide +kernel
theorem dX7_isInside_3 : decode cX7_isInside 3 = .ok (.if_icmp .lt 25, 3) := by decide +kernel
theorem dX7_isInside_6 : decode cX7_isInside 6 = .ok (.iload_n 0, 1) := by decide +kernel
theorem dX7_isInside_7 : decode cX7_isInside 7 = .ok (.bipush 10, 2) := by decide +kernel
theorem dX7_isInside_9 : decode cX7_isInside 9 = .ok (.if_icmp .gt 19, 3) := by decide +kernel
theorem dX7_isInside_12 : decode cX7_isInside 12 = .ok (.iload_n 1, 1) := by decide +kernel
theorem dX7_isInside_13 : decode cX7_isInside 13 = .ok (.bipush (-10), 2) := by decide +kernel
theorem dX7_isInside_15 : decode cX7_isInside 15 = .ok (.if_icmp .lt 13, 3) := by decide +kernel
theorem dX7_isInside_18 : decode cX7_isInside 18 = .ok (.iload_n 1, 1) := by decide +kernel
theorem dX7_isInside_19 : decode cX7_isInside 19 = .ok (.bipush 10, 2) := by decide +kernel
theorem dX7_isInside_21 : decode cX7_isInside 21 = .ok (.if_icmp .gt 7, 3) := by decide +kernel
theorem dX7_isInside_24 : decode cX7_isInside 24 = .ok (.iconst 1, 1) := by decide +kernel
theorem dX7_isInside_25 : decode cX7_isInside 25 = .ok (.goto 4, 3) := by decide +kernel
theorem dX7_isInside_28 : decode cX7_isInside 28 = .ok (.iconst 0, 1) := by decide +kernel
theorem dX7_isInside_29 : decode cX7_isInside 29 = .ok (.ireturn, 1) := by decide +kernel
theorem dX7_isCellNumber_0 : decode cX7_isCellNumber 0 = .ok (.iload_n 0, 1) := by decide +kernel
theorem dX7_isCellNumber_1 : decode cX7_isCellNumber 1 = .ok (.ifCond .lt 14, 3) := by decide +kernel
theorem dX7_isCellNumber_4 : decode cX7_isCellNumber 4 = .ok (.iload_n 0, 1) := by decide +kernel
theorem dX7_isCellNumber_5 : decode cX7_isCellNumber 5 = .ok (.sipush 441, 3) := by decide +kernel
theorem dX7_isCellNumber_8 : decode cX7_isCellNumber 8 = .ok (.if_icmp .ge 7, 3) := by decide +kernel
theorem dX7_isCellNumber_11 : decode cX7_isCellNumber 11 = .ok (.iconst 1, 1) := by decide +kernel
theorem dX7_isCellNumber_12 : decode cX7_isCellNumber 12 = .ok (.goto 4, 3) := by decide +kernel
theorem dX7_isCellNumber_15 : decode cX7_isCellNumber 15 = .ok (.iconst 0, 1) := by decide +kernel
theorem dX7_isCellNumber_16 : decode cX7_isCellNumber 16 = .ok (.ireturn, 1) := by decide +kernel
theorem dX7_cellNumber_0 : decode cX7_cellNumber 0 = .ok (.iload_n 0, 1) := by decide +kernel
theorem dX7_cellNumber_1 : decode cX7_cellNumber 1 = .ok (.bipush 10, 2) := by decide +kernel
theorem dX7_cellNumber_3 : decode cX7_cellNumber 3 = .ok (.iadd, 1) := by decide +kernel
theorem dX7_cellNumber_4 : decode cX7_cellNumber 4 = .ok (.bipush 21, 2) := by decide +kernel
theorem dX7_cellNumber_6 : decode cX7_cellNumber 6 = .ok (.imul, 1) := by decide +kernel
theorem dX7_cellNumber_7 : decode cX7_cellNumber 7 = .ok (.iload_n 1, 1) := by decide +kernel
theorem dX7_cellNumber_8 : decode cX7_cellNumber 8 = .ok (.iadd, 1) := by decide +kernel
theorem dX7_cellNumber_9 : decode cX7_cellNumber 9 = .ok (.bipush 10, 2) := by decide +kernel
theorem dX7_cellNumber_11 : decode cX7_cellNumber 11 = .ok (.iadd, 1) := by decide +kernel
theorem dX7_cellNumber_12 : decode cX7_cellNumber 12 = .ok (.ireturn, 1) := by decide +kernel
theorem dX7_cellX_0 : decode cX7_cellX 0 = .ok (.iload_n 0, 1) := by decide +kernel
theorem dX7_cellX_1 : decode cX7_cellX 1 = .ok (.bipush 21, 2) := by decide +kernel
theorem dX7_cellX_3 : decode cX7_cellX 3 = .ok (.idiv, 1) := by decide +kernel
theorem dX7_cellX_4 : decode cX7_cellX 4 = .ok (.bipush 10, 2) := by decide +kernel
theorem dX7_cellX_6 : decode cX7_cellX 6 = .ok (.isub, 1) := by decide +kernel
theorem dX7_cellX_7 : decode cX7_cellX 7 = .ok (.ireturn, 1) := by decide +kernel
theorem dX7_cellY_0 : decode cX7_cellY 0 = .ok (.iload_n 0, 1) := by decide +kernel
theorem dX7_cellY_1 : decode cX7_cellY 1 = .ok (.bipush 21, 2) := by decide +kernel
theorem dX7_cellY_3 : decode cX7_cellY 3 = .ok (.irem, 1) := by decide +kernel
theorem dX7_cellY_4 : decode cX7_cellY 4 = .ok (.bipush 10, 2) := by decide +kernel
theorem dX7_cellY_6 : decode cX7_cellY 6 = .ok (.isub, 1) := by decide +kernel
theorem dX7_cellY_7 : decode cX7_cellY 7 = .ok (.ireturn, 1) := by decide +kernel
theorem dX7_distance_0 : decode cX7_distance 0 = .ok (.iload_n 0, 1) := by decide +kernel
theorem dX7_distance_1 : decode cX7_distance 1 = .ok (.iload_n 2, 1) := by decide +kernel
theorem dX7_distance_2 : decode cX7_distance 2 = .ok (.isub, 1) := by decide +kernel
theorem dX7_distance_3 : decode cX7_distance 3 = .ok (.invokestatic 500, 3) := by decide +kernel
theorem dX7_distance_6 : decode cX7_distance 6 = .ok (.iload_n 1, 1) := by decide +kernel
theorem dX7_distance_7 : decode cX7_distance 7 = .ok (.iload_n 3, 1) := by decide +kernel
theorem dX7_distance_8 : decode cX7_distance 8 = .ok (.isub, 1) := by decide +kernel
theorem dX7_distance_9 : decode cX7_distance 9 = .ok (.invokestatic 500, 3) := by decide +kernel
theorem dX7_distance_12 : decode cX7_distance 12 = .ok (.invokestatic 503, 3) := by decide +kernel
theorem dX7_distance_15 : decode cX7_distance 15 = .ok (.ireturn, 1) := by decide +kernel
theorem dX7_jointOf_0 : decode cX7_jointOf 0 = .ok (.iload_n 0, 1) := by decide +kernel
theorem dX7_jointOf_1 : decode cX7_jointOf 1 = .ok (.iconst 1, 1) := by decide +kernel
theorem dX7_jointOf_2 : decode cX7_jointOf 2 = .ok (.ishr, 1) := by decide +kernel
theorem dX7_jointOf_3 : decode cX7_jointOf 3 = .ok (.ireturn, 1) := by decide +kernel
theorem dX7_turnOf_0 : decode cX7_turnOf 0 = .ok (.iload_n 0, 1) := by decide +kernel
theorem dX7_turnOf_1 : decode cX7_turnOf 1 = .ok (.iconst 1, 1) := by decide +kernel
theorem dX7_turnOf_2 : decode cX7_turnOf 2 = .ok (.iand, 1) := by decide +kernel
theorem dX7_turnOf_3 : decode cX7_turnOf 3 = .ok (.ifCond .ne 7, 3) := by decide +kernel
theorem dX7_turnOf_6 : decode cX7_turnOf 6 = .ok (.iconst (-1), 1) := by decide +kernel
theorem dX7_turnOf_7 : decode cX7_turnOf 7 = .ok (.goto 4, 3) := by decide +kernel
theorem dX7_turnOf_10 : decode cX7_turnOf 10 = .ok (.iconst 1, 1) := by decide +kernel
theorem dX7_turnOf_11 : decode cX7_turnOf 11 = .ok (.ireturn, 1) := by decide +kernel
theorem dX8_init_0 : decode cX8_init 0 = .ok (.aload_n 0, 1) := by decide +kernel
theorem dX8_init_1 : decode cX8_init 1 = .ok (.invokespecial 1, 3) := by decide +kernel
theorem dX8_init_4 : decode cX8_init 4 = .ok (.aload_n 0, 1) := by decide +kernel
theorem dX8_init_5 : decode cX8_init 5 = .ok (.sipush 141, 3) := by decide +kernel
theorem dX8_init_8 : decode cX8_init 8 = .ok (.newarray .int, 2) := by decide +kernel
theorem dX8_init_10 : decode cX8_init 10 = .ok (.putfield 7, 3) := by decide +kernel
theorem dX8_init_13 : decode cX8_init 13 = .ok (.aload_n 0, 1) := by decide +kernel
theorem dX8_init_14 : decode cX8_init 14 = .ok (.sipush 141, 3) := by decide +kernel
theorem dX8_init_17 : decode cX8_init 17 = .ok (.newarray .int, 2) := by decide +kernel
theorem dX8_init_19 : decode cX8_init 19 = .ok (.putfield 13, 3) := by decide +kernel
theorem dX8_init_22 : decode cX8_init 22 = .ok (.aload_n 0, 1) := by decide +kernel
theorem dX8_init_23 : decode cX8_init 23 = .ok (.sipush 1128, 3) := by decide +kernel
theorem dX8_init_26 : decode cX8_init 26 = .ok (.newarray .int, 2) := by decide +kernel
theorem dX8_init_28 : decode cX8_init 28 = .ok (.putfield 16, 3) := by decide +kernel
theorem dX8_init_31 : decode cX8_init 31 = .ok (.aload_n 0, 1) := by decide +kernel
theorem dX8_init_32 : decode cX8_init 32 = .ok (.sipush 5000, 3) := by decide +kernel
theorem dX8_init_35 : decode cX8_init 35 = .ok (.newarray .int, 2) := by decide +kernel
theorem dX8_init_37 : decode cX8_init 37 = .ok (.putfield 19, 3) := by decide +kernel
theorem dX8_init_40 : decode cX8_init 40 = .ok (.aload_n 0, 1) := by decide +kernel
theorem dX8_init_41 : decode cX8_init 41 = .ok (.iconst (-1), 1) := by decide +kernel
theorem dX8_init_42 : decode cX8_init 42 = .ok (.putfield 22, 3) := by decide +kernel
theorem dX8_init_45 : decode cX8_init 45 = .ok (.aload_n 0, 1) := by decide +kernel
theorem dX8_init_46 : decode cX8_init 46 = .ok (.iconst 4, 1) := by decide +kernel
theorem dX8_init_47 : decode cX8_init 47 = .ok (.newarray .int, 2) := by decide +kernel
theorem dX8_init_49 : decode cX8_init 49 = .ok (.putfield 26, 3) := by decide +kernel
theorem dX8_init_52 : decode cX8_init 52 = .ok (.aload_n 0, 1) := by decide +kernel
theorem dX8_init_53 : decode cX8_init 53 = .ok (.iconst 4, 1) := by decide +kernel
theorem dX8_init_54 : decode cX8_init 54 = .ok (.newarray .int, 2) := by decide +kernel
theorem dX8_init_56 : decode cX8_init 56 = .ok (.putfield 29, 3) := by decide +kernel
theorem dX8_init_59 : decode cX8_init 59 = .ok (.aload_n 0, 1) := by decide +kernel
theorem dX8_init_60 : decode cX8_init 60 = .ok (.iconst 5, 1) := by decide +kernel
theorem dX8_init_61 : decode cX8_init 61 = .ok (.newarray .int, 2) := by decide +kernel
theorem dX8_init_63 : decode cX8_init 63 = .ok (.putfield 32, 3) := by decide +kernel
theorem dX8_init_66 : decode cX8_init 66 = .ok (.aload_n 0, 1) := by decide +kernel
theorem dX8_init_67 : decode cX8_init 67 = .ok (.iconst 5, 1) := by decide +kernel
theorem dX8_init_68 : decode cX8_init 68 = .ok (.newarray .int, 2) := by decide +kernel
theorem dX8_init_70 : decode cX8_init 70 = .ok (.putfield 35, 3) := by decide +kernel
theorem dX8_init_73 : decode cX8_init 73 = .ok (.aload_n 0, 1) := by decide +kernel
theorem dX8_init_74 : decode cX8_init 74 = .ok (.sipush 5000, 3) := by decide +kernel
theorem dX8_init_77 : decode cX8_init 77 = .ok (.newarray .boolean, 2) := by decide +kernel
theorem dX8_init_79 : decode cX8_init 79 = .ok (.putfield 38, 3) := by decide +kernel
theorem dX8_init_82 : decode cX8_init 82 = .ok (.aload_n 0, 1) := by decide +kernel
theorem dX8_init_83 : decode cX8_init 83 = .ok (.sipush 5000, 3) := by decide +kernel
theorem dX8_init_86 : decode cX8_init 86 = .ok (.newarray .int, 2) := by decide +kernel
theorem dX8_init_88 : decode cX8_init 88 = .ok (.putfield 42, 3) := by decide +kernel
theorem dX8_init_91 : decode cX8_init 91 = .ok (.aload_n 0, 1) := by decide +kernel
theorem dX8_init_92 : decode cX8_init 92 = .ok (.sipush 5000, 3) := by decide +kernel
theorem dX8_init_95 : decode cX8_init 95 = .ok (.newarray .int, 2) := by decide +kernel
theorem dX8_init_97 : decode cX8_init 97 = .ok (.putfield 45, 3) := by decide +kernel
theorem dX8_init_100 : decode cX8_init 100 = .ok (.aload_n 0, 1) := by decide +kernel
theorem dX8_init_101 : decode cX8_init 101 = .ok (.sipush 5000, 3) := by decide +kernel
theorem dX8_init_104 : decode cX8_init 104 = .ok (.newarray .int, 2) := by decide +kernel
theorem dX8_init_106 : decode cX8_init 106 = .ok (.putfield 48, 3) := by decide +kernel
theorem dX8_init_109 : decode cX8_init 109 = .ok (.aload_n 0, 1) := by decide +kernel
theorem dX8_init_110 : decode cX8_init 110 = .ok (.sipush 441, 3) := by decide +kernel
theorem dX8_init_113 : decode cX8_init 113 = .ok (.newarray .int, 2) := by decide +kernel
theorem dX8_init_115 : decode cX8_init 115 = .ok (.putfield 51, 3) := by decide +kernel
theorem dX8_init_118 : decode cX8_init 118 = .ok (.aload_n 0, 1) := by decide +kernel
theorem dX8_init_119 : decode cX8_init 119 = .ok (.ldc 54, 2) := by decide +kernel
theorem dX8_init_121 : decode cX8_init 121 = .ok (.newarray .int, 2) := by decide +kernel
theorem dX8_init_123 : decode cX8_init 123 = .ok (.putfield 55, 3) := by decide +kernel
theorem dX8_init_126 : decode cX8_init 126 = .ok (.aload_n 0, 1) := by decide +kernel
theorem dX8_init_127 : decode cX8_init 127 = .ok (.bipush 26, 2) := by decide +kernel
theorem dX8_init_129 : decode cX8_init 129 = .ok (.newarray .int, 2) := by decide +kernel
theorem dX8_init_131 : decode cX8_init 131 = .ok (.dup, 1) := by decide +kernel
theorem dX8_init_132 : decode cX8_init 132 = .ok (.iconst 0, 1) := by decide +kernel
theorem dX8_init_133 : decode cX8_init 133 = .ok (.iconst (-1), 1) := by decide +kernel
theorem dX8_init_134 : decode cX8_init 134 = .ok (.iastore, 1) := by decide +kernel
theorem dX8_init_135 : decode cX8_init 135 = .ok (.dup, 1) := by decide +kernel
theorem dX8_init_136 : decode cX8_init 136 = .ok (.iconst 1, 1) := by decide +kernel
theorem dX8_init_137 : decode cX8_init 137 = .ok (.iconst (-1), 1) := by decide +kernel
theorem dX8_init_138 : decode cX8_init 138 = .ok (.iastore, 1) := by decide +kernel
theorem dX8_init_139 : decode cX8_init 139 = .ok (.dup, 1) := by decide +kernel
theorem dX8_init_140 : decode cX8_init 140 = .ok (.iconst 2, 1) := by decide +kernel
theorem dX8_init_141 : decode cX8_init 141 = .ok (.iconst (-1), 1) := by decide +kernel
theorem dX8_init_142 : decode cX8_init 142 = .ok (.iastore, 1) := by decide +kernel
theorem dX8_init_143 : decode cX8_init 143 = .ok (.dup, 1) := by decide +kernel
theorem dX8_init_144 : decode cX8_init 144 = .ok (.iconst 3, 1) := by decide +kernel
theorem dX8_init_145 : decode cX8_init 145 = .ok (.iconst (-1), 1) := by decide +kernel
theorem dX8_init_146 : decode cX8_init 146 = .ok (.iastore, 1) := by decide +kernel
theorem dX8_init_147 : decode cX8_init 147 = .ok (.dup, 1) := by decide +kernel
theorem dX8_init_148 : decode cX8_init 148 = .ok (.iconst 4, 1) := by decide +kernel
theorem dX8_init_149 : decode cX8_init 149 = .ok (.iconst (-1), 1) := by decide +kernel
theorem dX8_init_150 : decode cX8_init 150 = .ok (.iastore, 1) := by decide +kernel
theorem dX8_init_151 : decode cX8_init 151 = .ok (.dup, 1) := by decide +kernel
theorem dX8_init_152 : decode cX8_init 152 = .ok (.iconst 5, 1) := by decide +kernel
theorem dX8_init_153 : decode cX8_init 153 = .ok (.iconst (-1), 1) := by decide +kernel
theorem dX8_init_154 : decode cX8_init 154 = .ok (.iastore, 1) := by decide +kernel
theorem dX8_init_155 : decode cX8_init 155 = .ok (.dup, 1) := by decide +kernel
theorem dX8_init_156 : decode cX8_init 156 = .ok (.bipush 6, 2) := by decide +kernel
theorem dX8_init_158 : decode cX8_init 158 = .ok (.iconst (-1), 1) := by decide +kernel
theorem dX8_init_159 : decode cX8_init 159 = .ok (.iastore, 1) := by decide +kernel
theorem dX8_init_160 : decode cX8_init 160 = .ok (.dup, 1) := by decide +kernel
theorem dX8_init_161 : decode cX8_init 161 = .ok (.bipush 7, 2) := by decide +kernel
theorem dX8_init_163 : decode cX8_init 163 = .ok (.iconst (-1), 1) := by decide +kernel
theorem dX8_init_164 : decode cX8_init 164 = .ok (.iastore, 1) := by decide +kernel
theorem dX8_init_165 : decode cX8_init 165 = .ok (.dup, 1) := by decide +kernel
theorem dX8_init_166 : decode cX8_init 166 = .ok (.bipush 8, 2) := by decide +kernel
theorem dX8_init_168 : decode cX8_init 168 = .ok (.iconst (-1), 1) := by decide +kernel
theorem dX8_init_169 : decode cX8_init 169 = .ok (.iastore, 1) := by decide +kernel
theorem dX8_init_170 : decode cX8_init 170 = .ok (.dup, 1) := by decide +kernel
theorem dX8_init_171 : decode cX8_init 171 = .ok (.bipush 9, 2) := by decide +kernel
theorem dX8_init_173 : decode cX8_init 173 = .ok (.iconst (-1), 1) := by decide +kernel
theorem dX8_init_174 : decode cX8_init 174 = .ok (.iastore, 1) := by decide +kernel
theorem dX8_init_175 : decode cX8_init 175 = .ok (.dup, 1) := by decide +kernel
theorem dX8_init_176 : decode cX8_init 176 = .ok (.bipush 10, 2) := by decide +kernel
theorem dX8_init_178 : decode cX8_init 178 = .ok (.iconst (-1), 1) := by decide +kernel
theorem dX8_init_179 : decode cX8_init 179 = .ok (.iastore, 1) := by decide +kernel
theorem dX8_init_180 : decode cX8_init 180 = .ok (.dup, 1) := by decide +kernel
theorem dX8_init_181 : decode cX8_init 181 = .ok (.bipush 11, 2) := by decide +kernel
theorem dX8_init_183 : decode cX8_init 183 = .ok (.iconst (-1), 1) := by decide +kernel
theorem dX8_init_184 : decode cX8_init 184 = .ok (.iastore, 1) := by decide +kernel
theorem dX8_init_185 : decode cX8_init 185 = .ok (.dup, 1) := by decide +kernel
theorem dX8_init_186 : decode cX8_init 186 = .ok (.bipush 12, 2) := by decide +kernel
theorem dX8_init_188 : decode cX8_init 188 = .ok (.iconst (-1), 1) := by decide +kernel
theorem dX8_init_189 : decode cX8_init 189 = .ok (.iastore, 1) := by decide +kernel
theorem dX8_init_190 : decode cX8_init 190 = .ok (.dup, 1) := by decide +kernel
theorem dX8_init_191 : decode cX8_init 191 = .ok (.bipush 13, 2) := by decide +kernel
theorem dX8_init_193 : decode cX8_init 193 = .ok (.iconst (-1), 1) := by decide +kernel
theorem dX8_init_194 : decode cX8_init 194 = .ok (.iastore, 1) := by decide +kernel
theorem dX8_init_195 : decode cX8_init 195 = .ok (.dup, 1) := by decide +kernel
theorem dX8_init_196 : decode cX8_init 196 = .ok (.bipush 14, 2) := by decide +kernel
theorem dX8_init_198 : decode cX8_init 198 = .ok (.iconst (-1), 1) := by decide +kernel
theorem dX8_init_199 : decode cX8_init 199 = .ok (.iastore, 1) := by decide +kernel
theorem dX8_init_200 : decode cX8_init 200 = .ok (.dup, 1) := by decide +kernel
theorem dX8_init_201 : decode cX8_init 201 = .ok (.bipush 15, 2) := by decide +kernel
theorem dX8_init_203 : decode cX8_init 203 = .ok (.iconst (-1), 1) := by decide +kernel
theorem dX8_init_204 : decode cX8_init 204 = .ok (.iastore, 1) := by decide +kernel
theorem dX8_init_205 : decode cX8_init 205 = .ok (.dup, 1) := by decide +kernel
theorem dX8_init_206 : decode cX8_init 206 = .ok (.bipush 16, 2) := by decide +kernel
theorem dX8_init_208 : decode cX8_init 208 = .ok (.iconst (-1), 1) := by decide +kernel
theorem dX8_init_209 : decode cX8_init 209 = .ok (.iastore, 1) := by decide +kernel
theorem dX8_init_210 : decode cX8_init 210 = .ok (.dup, 1) := by decide +kernel
theorem dX8_init_211 : decode cX8_init 211 = .ok (.bipush 17, 2) := by decide +kernel
theorem dX8_init_213 : decode cX8_init 213 = .ok (.iconst (-1), 1) := by decide +kernel
theorem dX8_init_214 : decode cX8_init 214 = .ok (.iastore, 1) := by decide +kernel
theorem dX8_init_215 : decode cX8_init 215 = .ok (.dup, 1) := by decide +kernel
theorem dX8_init_216 : decode cX8_init 216 = .ok (.bipush 18, 2) := by decide +kernel
theorem dX8_init_218 : decode cX8_init 218 = .ok (.iconst (-1), 1) := by decide +kernel
theorem dX8_init_219 : decode cX8_init 219 = .ok (.iastore, 1) := by decide +kernel
theorem dX8_init_220 : decode cX8_init 220 = .ok (.dup, 1) := by decide +kernel
theorem dX8_init_221 : decode cX8_init 221 = .ok (.bipush 19, 2) := by decide +kernel
theorem dX8_init_223 : decode cX8_init 223 = .ok (.iconst (-1), 1) := by decide +kernel
theorem dX8_init_224 : decode cX8_init 224 = .ok (.iastore, 1) := by decide +kernel
theorem dX8_init_225 : decode cX8_init 225 = .ok (.dup, 1) := by decide +kernel
theorem dX8_init_226 : decode cX8_init 226 = .ok (.bipush 20, 2) := by decide +kernel
theorem dX8_init_228 : decode cX8_init 228 = .ok (.iconst (-1), 1) := by decide +kernel
theorem dX8_init_229 : decode cX8_init 229 = .ok (.iastore, 1) := by decide +kernel
theorem dX8_init_230 : decode cX8_init 230 = .ok (.dup, 1) := by decide +kernel
theorem dX8_init_231 : decode cX8_init 231 = .ok (.bipush 21, 2) := by decide +kernel
theorem dX8_init_233 : decode cX8_init 233 = .ok (.iconst (-1), 1) := by decide +kernel
theorem dX8_init_234 : decode cX8_init 234 = .ok (.iastore, 1) := by decide +kernel
theorem dX8_init_235 : decode cX8_init 235 = .ok (.dup, 1) := by decide +kernel
theorem dX8_init_236 : decode cX8_init 236 = .ok (.bipush 22, 2) := by decide +kernel
theorem dX8_init_238 : decode cX8_init 238 = .ok (.iconst (-1), 1) := by decide +kernel
theorem dX8_init_239 : decode cX8_init 239 = .ok (.iastore, 1) := by decide +kernel
theorem dX8_init_240 : decode cX8_init 240 = .ok (.dup, 1) := by decide +kernel
theorem dX8_init_241 : decode cX8_init 241 = .ok (.bipush 23, 2) := by decide +kernel
theorem dX8_init_243 : decode cX8_init 243 = .ok (.iconst (-1), 1) := by decide +kernel
theorem dX8_init_244 : decode cX8_init 244 = .ok (.iastore, 1) := by decide +kernel
theorem dX8_init_245 : decode cX8_init 245 = .ok (.dup, 1) := by decide +kernel
theorem dX8_init_246 : decode cX8_init 246 = .ok (.bipush 24, 2) := by decide +kernel
theorem dX8_init_248 : decode cX8_init 248 = .ok (.iconst (-1), 1) := by decide +kernel
theorem dX8_init_249 : decode cX8_init 249 = .ok (.iastore, 1) := by decide +kernel
theorem dX8_init_250 : decode cX8_init 250 = .ok (.dup, 1) := by decide +kernel
theorem dX8_init_251 : decode cX8_init 251 = .ok (.bipush 25, 2) := by decide +kernel
theorem dX8_init_253 : decode cX8_init 253 = .ok (.iconst (-1), 1) := by decide +kernel
theorem dX8_init_254 : decode cX8_init 254 = .ok (.iastore, 1) := by decide +kernel
theorem dX8_init_255 : decode cX8_init 255 = .ok (.putfield 58, 3) := by decide +kernel
theorem dX8_init_258 : decode cX8_init 258 = .ok (.aload_n 0, 1) := by decide +kernel
theorem dX8_init_259 : decode cX8_init 259 = .ok (.bipush 104, 2) := by decide +kernel
theorem dX8_init_261 : decode cX8_init 261 = .ok (.newarray .int, 2) := by decide +kernel
theorem dX8_init_263 : decode cX8_init 263 = .ok (.putfield 61, 3) := by decide +kernel
theorem dX8_init_266 : decode cX8_init 266 = .ok (.aload_n 0, 1) := by decide +kernel
theorem dX8_init_267 : decode cX8_init 267 = .ok (.bipush 60, 2) := by decide +kernel
theorem dX8_init_269 : decode cX8_init 269 = .ok (.newarray .int, 2) := by decide +kernel
theorem dX8_init_271 : decode cX8_init 271 = .ok (.putfield 64, 3) := by decide +kernel
theorem dX8_init_274 : decode cX8_init 274 = .ok (.aload_n 0, 1) := by decide +kernel
theorem dX8_init_275 : decode cX8_init 275 = .ok (.iconst (-1), 1) := by decide +kernel
theorem dX8_init_276 : decode cX8_init 276 = .ok (.putfield 67, 3) := by decide +kernel
theorem dX8_init_279 : decode cX8_init 279 = .ok (.aload_n 0, 1) := by decide +kernel
theorem dX8_init_280 : decode cX8_init 280 = .ok (.bipush 60, 2) := by decide +kernel
theorem dX8_init_282 : decode cX8_init 282 = .ok (.newarray .int, 2) := by decide +kernel
theorem dX8_init_284 : decode cX8_init 284 = .ok (.putfield 70, 3) := by decide +kernel
theorem dX8_init_287 : decode cX8_init 287 = .ok (.aload_n 0, 1) := by decide +kernel
theorem dX8_init_288 : decode cX8_init 288 = .ok (.sipush 141, 3) := by decide +kernel
theorem dX8_init_291 : decode cX8_init 291 = .ok (.newarray .int, 2) := by decide +kernel
theorem dX8_init_293 : decode cX8_init 293 = .ok (.putfield 73, 3) := by decide +kernel
theorem dX8_init_296 : decode cX8_init 296 = .ok (.return_, 1) := by decide +kernel
theorem dX8_thrown_0 : decode cX8_thrown 0 = .ok (.aload_n 0, 1) := by decide +kernel
theorem dX8_thrown_1 : decode cX8_thrown 1 = .ok (.getfield 76, 3) := by decide +kernel
theorem dX8_thrown_4 : decode cX8_thrown 4 = .ok (.ireturn, 1) := by decide +kernel
theorem dX8_fails_0 : decode cX8_fails 0 = .ok (.aload_n 0, 1) := by decide +kernel
theorem dX8_fails_1 : decode cX8_fails 1 = .ok (.iload_n 1, 1) := by decide +kernel
theorem dX8_fails_2 : decode cX8_fails 2 = .ok (.putfield 76, 3) := by decide +kernel
theorem dX8_fails_5 : decode cX8_fails 5 = .ok (.iconst 0, 1) := by decide +kernel
theorem dX8_fails_6 : decode cX8_fails 6 = .ok (.ireturn, 1) := by decide +kernel
theorem dX8_in_0 : decode cX8_in 0 = .ok (.iload_n 0, 1) := by decide +kernel
theorem dX8_in_1 : decode cX8_in 1 = .ok (.iload_n 1, 1) := by decide +kernel
theorem dX8_in_2 : decode cX8_in 2 = .ok (.if_icmp .lt 12, 3) := by decide +kernel
theorem dX8_in_5 : decode cX8_in 5 = .ok (.iload_n 0, 1) := by decide +kernel
theorem dX8_in_6 : decode cX8_in 6 = .ok (.iload_n 2, 1) := by decide +kernel
theorem dX8_in_7 : decode cX8_in 7 = .ok (.if_icmp .gt 7, 3) := by decide +kernel
theorem dX8_in_10 : decode cX8_in 10 = .ok (.iconst 1, 1) := by decide +kernel
theorem dX8_in_11 : decode cX8_in 11 = .ok (.goto 4, 3) := by decide +kernel
theorem dX8_in_14 : decode cX8_in 14 = .ok (.iconst 0, 1) := by decide +kernel
theorem dX8_in_15 : decode cX8_in 15 = .ok (.ireturn, 1) := by decide +kernel
theorem dX8_isCell_0 : decode cX8_isCell 0 = .ok (.iload_n 0, 1) := by decide +kernel
theorem dX8_isCell_1 : decode cX8_isCell 1 = .ok (.bipush (-10), 2) := by decide +kernel
theorem dX8_isCell_3 : decode cX8_isCell 3 = .ok (.bipush 10, 2) := by decide +kernel
theorem dX8_isCell_5 : decode cX8_isCell 5 = .ok (.invokestatic 79, 3) := by decide +kernel
theorem dX8_isCell_8 : decode cX8_isCell 8 = .ok (.ifCond .eq 18, 3) := by decide +kernel
theorem dX8_isCell_11 : decode cX8_isCell 11 = .ok (.iload_n 1, 1) := by decide +kernel
theorem dX8_isCell_12 : decode cX8_isCell 12 = .ok (.bipush (-10), 2) := by decide +kernel
theorem dX8_isCell_14 : decode cX8_isCell 14 = .ok (.bipush 10, 2) := by decide +kernel
theorem dX8_isCell_16 : decode cX8_isCell 16 = .ok (.invokestatic 79, 3) := by decide +kernel
theorem dX8_isCell_19 : decode cX8_isCell 19 = .ok (.ifCond .eq 7, 3) := by decide +kernel
theorem dX8_isCell_22 : decode cX8_isCell 22 = .ok (.iconst 1, 1) := by decide +kernel
theorem dX8_isCell_23 : decode cX8_isCell 23 = .ok (.goto 4, 3) := by decide +kernel
theorem dX8_isCell_26 : decode cX8_isCell 26 = .ok (.iconst 0, 1) := by decide +kernel
theorem dX8_isCell_27 : decode cX8_isCell 27 = .ok (.ireturn, 1) := by decide +kernel
theorem dX8_isJoint_0 : decode cX8_isJoint 0 = .ok (.iload_n 1, 1) := by decide +kernel
theorem dX8_isJoint_1 : decode cX8_isJoint 1 = .ok (.iconst 0, 1) := by decide +kernel
theorem dX8_isJoint_2 : decode cX8_isJoint 2 = .ok (.aload_n 0, 1) := by decide +kernel
theorem dX8_isJoint_3 : decode cX8_isJoint 3 = .ok (.getfield 7, 3) := by decide +kernel
theorem dX8_isJoint_6 : decode cX8_isJoint 6 = .ok (.iconst 0, 1) := by decide +kernel
theorem dX8_isJoint_7 : decode cX8_isJoint 7 = .ok (.iaload, 1) := by decide +kernel
theorem dX8_isJoint_8 : decode cX8_isJoint 8 = .ok (.iconst 1, 1) := by decide +kernel
theorem dX8_isJoint_9 : decode cX8_isJoint 9 = .ok (.isub, 1) := by decide +kernel
theorem dX8_isJoint_10 : decode cX8_isJoint 10 = .ok (.invokestatic 79, 3) := by decide +kernel
theorem dX8_isJoint_13 : decode cX8_isJoint 13 = .ok (.ireturn, 1) := by decide +kernel
theorem dX8_lengthOf_0 : decode cX8_lengthOf 0 = .ok (.aload_n 0, 1) := by decide +kernel
theorem dX8_lengthOf_1 : decode cX8_lengthOf 1 = .ok (.getfield 7, 3) := by decide +kernel
theorem dX8_lengthOf_4 : decode cX8_lengthOf 4 = .ok (.iconst 1, 1) := by decide +kernel
theorem dX8_lengthOf_5 : decode cX8_lengthOf 5 = .ok (.iconst 4, 1) := by decide +kernel
theorem dX8_lengthOf_6 : decode cX8_lengthOf 6 = .ok (.iload_n 1, 1) := by decide +kernel
theorem dX8_lengthOf_7 : decode cX8_lengthOf 7 = .ok (.imul, 1) := by decide +kernel
theorem dX8_lengthOf_8 : decode cX8_lengthOf 8 = .ok (.iadd, 1) := by decide +kernel
theorem dX8_lengthOf_9 : decode cX8_lengthOf 9 = .ok (.iaload, 1) := by decide +kernel
theorem dX8_lengthOf_10 : decode cX8_lengthOf 10 = .ok (.ireturn, 1) := by decide +kernel
theorem dX8_down_0 : decode cX8_down 0 = .ok (.aload_n 0, 1) := by decide +kernel
theorem dX8_down_1 : decode cX8_down 1 = .ok (.getfield 7, 3) := by decide +kernel
theorem dX8_down_4 : decode cX8_down 4 = .ok (.iconst 2, 1) := by decide +kernel
theorem dX8_down_5 : decode cX8_down 5 = .ok (.iconst 4, 1) := by decide +kernel
theorem dX8_down_6 : decode cX8_down 6 = .ok (.iload_n 1, 1) := by decide +kernel
theorem dX8_down_7 : decode cX8_down 7 = .ok (.imul, 1) := by decide +kernel
theorem dX8_down_8 : decode cX8_down 8 = .ok (.iadd, 1) := by decide +kernel
theorem dX8_down_9 : decode cX8_down 9 = .ok (.iaload, 1) := by decide +kernel
theorem dX8_down_10 : decode cX8_down 10 = .ok (.ireturn, 1) := by decide +kernel
theorem dX8_up_0 : decode cX8_up 0 = .ok (.aload_n 0, 1) := by decide +kernel
theorem dX8_up_1 : decode cX8_up 1 = .ok (.getfield 7, 3) := by decide +kernel
theorem dX8_up_4 : decode cX8_up 4 = .ok (.iconst 3, 1) := by decide +kernel
theorem dX8_up_5 : decode cX8_up 5 = .ok (.iconst 4, 1) := by decide +kernel
theorem dX8_up_6 : decode cX8_up 6 = .ok (.iload_n 1, 1) := by decide +kernel
theorem dX8_up_7 : decode cX8_up 7 = .ok (.imul, 1) := by decide +kernel
theorem dX8_up_8 : decode cX8_up 8 = .ok (.iadd, 1) := by decide +kernel
theorem dX8_up_9 : decode cX8_up 9 = .ok (.iaload, 1) := by decide +kernel
theorem dX8_up_10 : decode cX8_up 10 = .ok (.ireturn, 1) := by decide +kernel
theorem dX8_changes_0 : decode cX8_changes 0 = .ok (.aload_n 0, 1) := by decide +kernel
theorem dX8_changes_1 : decode cX8_changes 1 = .ok (.getfield 83, 3) := by decide +kernel
theorem dX8_changes_4 : decode cX8_changes 4 = .ok (.bipush 8, 2) := by decide +kernel
theorem dX8_changes_6 : decode cX8_changes 6 = .ok (.if_icmp .ne 44, 3) := by decide +kernel
theorem dX8_changes_9 : decode cX8_changes 9 = .ok (.iconst 0, 1) := by decide +kernel
theorem dX8_changes_10 : decode cX8_changes 10 = .ok (.istore_n 1, 1) := by decide +kernel
theorem dX8_changes_11 : decode cX8_changes 11 = .ok (.iload_n 1, 1) := by decide +kernel
theorem dX8_changes_12 : decode cX8_changes 12 = .ok (.sipush 987, 3) := by decide +kernel
theorem dX8_changes_15 : decode cX8_changes 15 = .ok (.if_icmp .ge 25, 3) := by decide +kernel
theorem dX8_changes_18 : decode cX8_changes 18 = .ok (.aload_n 0, 1) := by decide +kernel
theorem dX8_changes_19 : decode cX8_changes 19 = .ok (.getfield 16, 3) := by decide +kernel
theorem dX8_changes_22 : decode cX8_changes 22 = .ok (.iload_n 1, 1) := by decide +kernel
theorem dX8_changes_23 : decode cX8_changes 23 = .ok (.aload_n 0, 1) := by decide +kernel
theorem dX8_changes_24 : decode cX8_changes 24 = .ok (.getfield 16, 3) := by decide +kernel
theorem dX8_changes_27 : decode cX8_changes 27 = .ok (.iload_n 1, 1) := by decide +kernel
theorem dX8_changes_28 : decode cX8_changes 28 = .ok (.sipush 141, 3) := by decide +kernel
theorem dX8_changes_31 : decode cX8_changes 31 = .ok (.iadd, 1) := by decide +kernel
theorem dX8_changes_32 : decode cX8_changes 32 = .ok (.iaload, 1) := by decide +kernel
theorem dX8_changes_33 : decode cX8_changes 33 = .ok (.iastore, 1) := by decide +kernel
theorem dX8_changes_34 : decode cX8_changes 34 = .ok (.iinc 1 1, 3) := by decide +kernel
theorem dX8_changes_37 : decode cX8_changes 37 = .ok (.goto (-26), 3) := by decide +kernel
theorem dX8_changes_40 : decode cX8_changes 40 = .ok (.aload_n 0, 1) := by decide +kernel
theorem dX8_changes_41 : decode cX8_changes 41 = .ok (.dup, 1) := by decide +kernel
theorem dX8_changes_42 : decode cX8_changes 42 = .ok (.getfield 83, 3) := by decide +kernel
theorem dX8_changes_45 : decode cX8_changes 45 = .ok (.iconst 1, 1) := by decide +kernel
theorem dX8_changes_46 : decode cX8_changes 46 = .ok (.isub, 1) := by decide +kernel
theorem dX8_changes_47 : decode cX8_changes 47 = .ok (.putfield 83, 3) := by decide +kernel
theorem dX8_changes_50 : decode cX8_changes 50 = .ok (.iconst 0, 1) := by decide +kernel
theorem dX8_changes_51 : decode cX8_changes 51 = .ok (.istore_n 1, 1) := by decide +kernel
theorem dX8_changes_52 : decode cX8_changes 52 = .ok (.iload_n 1, 1) := by decide +kernel
theorem dX8_changes_53 : decode cX8_changes 53 = .ok (.sipush 141, 3) := by decide +kernel
theorem dX8_changes_56 : decode cX8_changes 56 = .ok (.if_icmp .ge 30, 3) := by decide +kernel
theorem dX8_changes_59 : decode cX8_changes 59 = .ok (.aload_n 0, 1) := by decide +kernel
theorem dX8_changes_60 : decode cX8_changes 60 = .ok (.getfield 16, 3) := by decide +kernel
theorem dX8_changes_63 : decode cX8_changes 63 = .ok (.sipush 141, 3) := by decide +kernel
theorem dX8_changes_66 : decode cX8_changes 66 = .ok (.aload_n 0, 1) := by decide +kernel
theorem dX8_changes_67 : decode cX8_changes 67 = .ok (.getfield 83, 3) := by decide +kernel
theorem dX8_changes_70 : decode cX8_changes 70 = .ok (.imul, 1) := by decide +kernel
theorem dX8_changes_71 : decode cX8_changes 71 = .ok (.iload_n 1, 1) := by decide +kernel
theorem dX8_changes_72 : decode cX8_changes 72 = .ok (.iadd, 1) := by decide +kernel
theorem dX8_changes_73 : decode cX8_changes 73 = .ok (.aload_n 0, 1) := by decide +kernel
theorem dX8_changes_74 : decode cX8_changes 74 = .ok (.getfield 7, 3) := by decide +kernel
theorem dX8_changes_77 : decode cX8_changes 77 = .ok (.iload_n 1, 1) := by decide +kernel
theorem dX8_changes_78 : decode cX8_changes 78 = .ok (.iaload, 1) := by decide +kernel
theorem dX8_changes_79 : decode cX8_changes 79 = .ok (.iastore, 1) := by decide +kernel
theorem dX8_changes_80 : decode cX8_changes 80 = .ok (.iinc 1 1, 3) := by decide +kernel
theorem dX8_changes_83 : decode cX8_changes 83 = .ok (.goto (-31), 3) := by decide +kernel
theorem dX8_changes_86 : decode cX8_changes 86 = .ok (.aload_n 0, 1) := by decide +kernel
theorem dX8_changes_87 : decode cX8_changes 87 = .ok (.dup, 1) := by decide +kernel
theorem dX8_changes_88 : decode cX8_changes 88 = .ok (.getfield 83, 3) := by decide +kernel
theorem dX8_changes_91 : decode cX8_changes 91 = .ok (.iconst 1, 1) := by decide +kernel
theorem dX8_changes_92 : decode cX8_changes 92 = .ok (.iadd, 1) := by decide +kernel
theorem dX8_changes_93 : decode cX8_changes 93 = .ok (.putfield 83, 3) := by decide +kernel
theorem dX8_changes_96 : decode cX8_changes 96 = .ok (.aload_n 0, 1) := by decide +kernel
theorem dX8_changes_97 : decode cX8_changes 97 = .ok (.iconst (-1), 1) := by decide +kernel
theorem dX8_changes_98 : decode cX8_changes 98 = .ok (.putfield 22, 3) := by decide +kernel
theorem dX8_changes_101 : decode cX8_changes 101 = .ok (.return_, 1) := by decide +kernel
theorem dX8_undo_0 : decode cX8_undo 0 = .ok (.aload_n 0, 1) := by decide +kernel
theorem dX8_undo_1 : decode cX8_undo 1 = .ok (.iconst 0, 1) := by decide +kernel
theorem dX8_undo_2 : decode cX8_undo 2 = .ok (.putfield 76, 3) := by decide +kernel
theorem dX8_undo_5 : decode cX8_undo 5 = .ok (.aload_n 0, 1) := by decide +kernel
theorem dX8_undo_6 : decode cX8_undo 6 = .ok (.getfield 83, 3) := by decide +kernel
theorem dX8_undo_9 : decode cX8_undo 9 = .ok (.ifCond .ne 9, 3) := by decide +kernel
theorem dX8_undo_12 : decode cX8_undo 12 = .ok (.aload_n 0, 1) := by decide +kernel
theorem dX8_undo_13 : decode cX8_undo 13 = .ok (.iconst 1, 1) := by decide +kernel
theorem dX8_undo_14 : decode cX8_undo 14 = .ok (.invokevirtual 86, 3) := by decide +kernel
theorem dX8_undo_17 : decode cX8_undo 17 = .ok (.ireturn, 1) := by decide +kernel
theorem dX8_undo_18 : decode cX8_undo 18 = .ok (.aload_n 0, 1) := by decide +kernel
theorem dX8_undo_19 : decode cX8_undo 19 = .ok (.dup, 1) := by decide +kernel
theorem dX8_undo_20 : decode cX8_undo 20 = .ok (.getfield 83, 3) := by decide +kernel
theorem dX8_undo_23 : decode cX8_undo 23 = .ok (.iconst 1, 1) := by decide +kernel
theorem dX8_undo_24 : decode cX8_undo 24 = .ok (.isub, 1) := by decide +kernel
theorem dX8_undo_25 : decode cX8_undo 25 = .ok (.putfield 83, 3) := by decide +kernel
theorem dX8_undo_28 : decode cX8_undo 28 = .ok (.iconst 0, 1) := by decide +kernel
theorem dX8_undo_29 : decode cX8_undo 29 = .ok (.istore_n 1, 1) := by decide +kernel
theorem dX8_undo_30 : decode cX8_undo 30 = .ok (.iload_n 1, 1) := by decide +kernel
theorem dX8_undo_31 : decode cX8_undo 31 = .ok (.sipush 141, 3) := by decide +kernel
theorem dX8_undo_34 : decode cX8_undo 34 = .ok (.if_icmp .ge 30, 3) := by decide +kernel
theorem dX8_undo_37 : decode cX8_undo 37 = .ok (.aload_n 0, 1) := by decide +kernel
theorem dX8_undo_38 : decode cX8_undo 38 = .ok (.getfield 7, 3) := by decide +kernel
theorem dX8_undo_41 : decode cX8_undo 41 = .ok (.iload_n 1, 1) := by decide +kernel
theorem dX8_undo_42 : decode cX8_undo 42 = .ok (.aload_n 0, 1) := by decide +kernel
theorem dX8_undo_43 : decode cX8_undo 43 = .ok (.getfield 16, 3) := by decide +kernel
theorem dX8_undo_46 : decode cX8_undo 46 = .ok (.sipush 141, 3) := by decide +kernel
theorem dX8_undo_49 : decode cX8_undo 49 = .ok (.aload_n 0, 1) := by decide +kernel
theorem dX8_undo_50 : decode cX8_undo 50 = .ok (.getfield 83, 3) := by decide +kernel
theorem dX8_undo_53 : decode cX8_undo 53 = .ok (.imul, 1) := by decide +kernel
theorem dX8_undo_54 : decode cX8_undo 54 = .ok (.iload_n 1, 1) := by decide +kernel
theorem dX8_undo_55 : decode cX8_undo 55 = .ok (.iadd, 1) := by decide +kernel
theorem dX8_undo_56 : decode cX8_undo 56 = .ok (.iaload, 1) := by decide +kernel
theorem dX8_undo_57 : decode cX8_undo 57 = .ok (.iastore, 1) := by decide +kernel
theorem dX8_undo_58 : decode cX8_undo 58 = .ok (.iinc 1 1, 3) := by decide +kernel
theorem dX8_undo_61 : decode cX8_undo 61 = .ok (.goto (-31), 3) := by decide +kernel
theorem dX8_undo_64 : decode cX8_undo 64 = .ok (.aload_n 0, 1) := by decide +kernel
theorem dX8_undo_65 : decode cX8_undo 65 = .ok (.iconst (-1), 1) := by decide +kernel
theorem dX8_undo_66 : decode cX8_undo 66 = .ok (.putfield 22, 3) := by decide +kernel
theorem dX8_undo_69 : decode cX8_undo 69 = .ok (.aload_n 0, 1) := by decide +kernel
theorem dX8_undo_70 : decode cX8_undo 70 = .ok (.getfield 83, 3) := by decide +kernel
theorem dX8_undo_73 : decode cX8_undo 73 = .ok (.ireturn, 1) := by decide +kernel
theorem dX8_save_0 : decode cX8_save 0 = .ok (.aload_n 0, 1) := by decide +kernel
theorem dX8_save_1 : decode cX8_save 1 = .ok (.iconst 0, 1) := by decide +kernel
theorem dX8_save_2 : decode cX8_save 2 = .ok (.putfield 76, 3) := by decide +kernel
theorem dX8_save_5 : decode cX8_save 5 = .ok (.aload_n 0, 1) := by decide +kernel
theorem dX8_save_6 : decode cX8_save 6 = .ok (.iconst 1, 1) := by decide +kernel
theorem dX8_save_7 : decode cX8_save 7 = .ok (.putfield 90, 3) := by decide +kernel
theorem dX8_save_10 : decode cX8_save 10 = .ok (.iconst 0, 1) := by decide +kernel
theorem dX8_save_11 : decode cX8_save 11 = .ok (.istore_n 1, 1) := by decide +kernel
theorem dX8_save_12 : decode cX8_save 12 = .ok (.iload_n 1, 1) := by decide +kernel
theorem dX8_save_13 : decode cX8_save 13 = .ok (.sipush 141, 3) := by decide +kernel
theorem dX8_save_16 : decode cX8_save 16 = .ok (.if_icmp .ge 21, 3) := by decide +kernel
theorem dX8_save_19 : decode cX8_save 19 = .ok (.aload_n 0, 1) := by decide +kernel
theorem dX8_save_20 : decode cX8_save 20 = .ok (.getfield 13, 3) := by decide +kernel
theorem dX8_save_23 : decode cX8_save 23 = .ok (.iload_n 1, 1) := by decide +kernel
theorem dX8_save_24 : decode cX8_save 24 = .ok (.aload_n 0, 1) := by decide +kernel
theorem dX8_save_25 : decode cX8_save 25 = .ok (.getfield 7, 3) := by decide +kernel
theorem dX8_save_28 : decode cX8_save 28 = .ok (.iload_n 1, 1) := by decide +kernel
theorem dX8_save_29 : decode cX8_save 29 = .ok (.iaload, 1) := by decide +kernel
theorem dX8_save_30 : decode cX8_save 30 = .ok (.iastore, 1) := by decide +kernel
theorem dX8_save_31 : decode cX8_save 31 = .ok (.iinc 1 1, 3) := by decide +kernel
theorem dX8_save_34 : decode cX8_save 34 = .ok (.goto (-22), 3) := by decide +kernel
theorem dX8_save_37 : decode cX8_save 37 = .ok (.aload_n 0, 1) := by decide +kernel
theorem dX8_save_38 : decode cX8_save 38 = .ok (.getfield 7, 3) := by decide +kernel
theorem dX8_save_41 : decode cX8_save 41 = .ok (.iconst 0, 1) := by decide +kernel
theorem dX8_save_42 : decode cX8_save 42 = .ok (.iaload, 1) := by decide +kernel
theorem dX8_save_43 : decode cX8_save 43 = .ok (.ireturn, 1) := by decide +kernel
theorem dX8_restore_0 : decode cX8_restore 0 = .ok (.aload_n 0, 1) := by decide +kernel
theorem dX8_restore_1 : decode cX8_restore 1 = .ok (.iconst 0, 1) := by decide +kernel
theorem dX8_restore_2 : decode cX8_restore 2 = .ok (.putfield 76, 3) := by decide +kernel
theorem dX8_restore_5 : decode cX8_restore 5 = .ok (.aload_n 0, 1) := by decide +kernel
theorem dX8_restore_6 : decode cX8_restore 6 = .ok (.getfield 90, 3) := by decide +kernel
theorem dX8_restore_9 : decode cX8_restore 9 = .ok (.ifCond .ne 9, 3) := by decide +kernel
theorem dX8_restore_12 : decode cX8_restore 12 = .ok (.aload_n 0, 1) := by decide +kernel
theorem dX8_restore_13 : decode cX8_restore 13 = .ok (.iconst 1, 1) := by decide +kernel
theorem dX8_restore_14 : decode cX8_restore 14 = .ok (.invokevirtual 86, 3) := by decide +kernel
theorem dX8_restore_17 : decode cX8_restore 17 = .ok (.ireturn, 1) := by decide +kernel
theorem dX8_restore_18 : decode cX8_restore 18 = .ok (.iconst 0, 1) := by decide +kernel
theorem dX8_restore_19 : decode cX8_restore 19 = .ok (.istore_n 1, 1) := by decide +kernel
theorem dX8_restore_20 : decode cX8_restore 20 = .ok (.iload_n 1, 1) := by decide +kernel
theorem dX8_restore_21 : decode cX8_restore 21 = .ok (.sipush 141, 3) := by decide +kernel
theorem dX8_restore_24 : decode cX8_restore 24 = .ok (.if_icmp .ge 21, 3) := by decide +kernel
theorem dX8_restore_27 : decode cX8_restore 27 = .ok (.aload_n 0, 1) := by decide +kernel
theorem dX8_restore_28 : decode cX8_restore 28 = .ok (.getfield 7, 3) := by decide +kernel
theorem dX8_restore_31 : decode cX8_restore 31 = .ok (.iload_n 1, 1) := by decide +kernel
theorem dX8_restore_32 : decode cX8_restore 32 = .ok (.aload_n 0, 1) := by decide +kernel
theorem dX8_restore_33 : decode cX8_restore 33 = .ok (.getfield 13, 3) := by decide +kernel
theorem dX8_restore_36 : decode cX8_restore 36 = .ok (.iload_n 1, 1) := by decide +kernel
theorem dX8_restore_37 : decode cX8_restore 37 = .ok (.iaload, 1) := by decide +kernel
theorem dX8_restore_38 : decode cX8_restore 38 = .ok (.iastore, 1) := by decide +kernel
theorem dX8_restore_39 : decode cX8_restore 39 = .ok (.iinc 1 1, 3) := by decide +kernel
theorem dX8_restore_42 : decode cX8_restore 42 = .ok (.goto (-22), 3) := by decide +kernel
theorem dX8_restore_45 : decode cX8_restore 45 = .ok (.aload_n 0, 1) := by decide +kernel
theorem dX8_restore_46 : decode cX8_restore 46 = .ok (.iconst 0, 1) := by decide +kernel
theorem dX8_restore_47 : decode cX8_restore 47 = .ok (.putfield 83, 3) := by decide +kernel
theorem dX8_restore_50 : decode cX8_restore 50 = .ok (.aload_n 0, 1) := by decide +kernel
theorem dX8_restore_51 : decode cX8_restore 51 = .ok (.iconst (-1), 1) := by decide +kernel
theorem dX8_restore_52 : decode cX8_restore 52 = .ok (.putfield 22, 3) := by decide +kernel
theorem dX8_restore_55 : decode cX8_restore 55 = .ok (.aload_n 0, 1) := by decide +kernel
theorem dX8_restore_56 : decode cX8_restore 56 = .ok (.getfield 7, 3) := by decide +kernel
theorem dX8_restore_59 : decode cX8_restore 59 = .ok (.iconst 0, 1) := by decide +kernel
theorem dX8_restore_60 : decode cX8_restore 60 = .ok (.iaload, 1) := by decide +kernel
theorem dX8_restore_61 : decode cX8_restore 61 = .ok (.ireturn, 1) := by decide +kernel
theorem dX8_clear_0 : decode cX8_clear 0 = .ok (.aload_n 0, 1) := by decide +kernel
theorem dX8_clear_1 : decode cX8_clear 1 = .ok (.iconst 0, 1) := by decide +kernel
theorem dX8_clear_2 : decode cX8_clear 2 = .ok (.putfield 76, 3) := by decide +kernel
theorem dX8_clear_5 : decode cX8_clear 5 = .ok (.aload_n 0, 1) := by decide +kernel
theorem dX8_clear_6 : decode cX8_clear 6 = .ok (.getfield 7, 3) := by decide +kernel
theorem dX8_clear_9 : decode cX8_clear 9 = .ok (.iconst 0, 1) := by decide +kernel
theorem dX8_clear_10 : decode cX8_clear 10 = .ok (.iaload, 1) := by decide +kernel
theorem dX8_clear_11 : decode cX8_clear 11 = .ok (.istore_n 1, 1) := by decide +kernel
theorem dX8_clear_12 : decode cX8_clear 12 = .ok (.aload_n 0, 1) := by decide +kernel
theorem dX8_clear_13 : decode cX8_clear 13 = .ok (.getfield 7, 3) := by decide +kernel
theorem dX8_clear_16 : decode cX8_clear 16 = .ok (.iconst 0, 1) := by decide +kernel
theorem dX8_clear_17 : decode cX8_clear 17 = .ok (.iconst 0, 1) := by decide +kernel
theorem dX8_clear_18 : decode cX8_clear 18 = .ok (.iastore, 1) := by decide +kernel
theorem dX8_clear_19 : decode cX8_clear 19 = .ok (.aload_n 0, 1) := by decide +kernel
theorem dX8_clear_20 : decode cX8_clear 20 = .ok (.getfield 7, 3) := by decide +kernel
theorem dX8_clear_23 : decode cX8_clear 23 = .ok (.bipush 20, 2) := by decide +kernel
theorem dX8_clear_25 : decode cX8_clear 25 = .ok (.iconst 0, 1) := by decide +kernel
theorem dX8_clear_26 : decode cX8_clear 26 = .ok (.iastore, 1) := by decide +kernel
theorem dX8_clear_27 : decode cX8_clear 27 = .ok (.aload_n 0, 1) := by decide +kernel
theorem dX8_clear_28 : decode cX8_clear 28 = .ok (.iconst 0, 1) := by decide +kernel
theorem dX8_clear_29 : decode cX8_clear 29 = .ok (.putfield 83, 3) := by decide +kernel
theorem dX8_clear_32 : decode cX8_clear 32 = .ok (.aload_n 0, 1) := by decide +kernel
theorem dX8_clear_33 : decode cX8_clear 33 = .ok (.iconst (-1), 1) := by decide +kernel
theorem dX8_clear_34 : decode cX8_clear 34 = .ok (.putfield 22, 3) := by decide +kernel
theorem dX8_clear_37 : decode cX8_clear 37 = .ok (.iload_n 1, 1) := by decide +kernel
theorem dX8_clear_38 : decode cX8_clear 38 = .ok (.ireturn, 1) := by decide +kernel
theorem dX8_linkStops_0 : decode cX8_linkStops 0 = .ok (.iload_n 1, 1) := by decide +kernel
theorem dX8_linkStops_1 : decode cX8_linkStops 1 = .ok (.iconst 1, 1) := by decide +kernel
theorem dX8_linkStops_2 : decode cX8_linkStops 2 = .ok (.iconst 5, 1) := by decide +kernel
theorem dX8_linkStops_3 : decode cX8_linkStops 3 = .ok (.invokestatic 79, 3) := by decide +kernel
theorem dX8_linkStops_6 : decode cX8_linkStops 6 = .ok (.ifCond .eq 41, 3) := by decide +kernel
theorem dX8_linkStops_9 : decode cX8_linkStops 9 = .ok (.iload_n 2, 1) := by decide +kernel
theorem dX8_linkStops_10 : decode cX8_linkStops 10 = .ok (.iconst 0, 1) := by decide +kernel
theorem dX8_linkStops_11 : decode cX8_linkStops 11 = .ok (.bipush 8, 2) := by decide +kernel
theorem dX8_linkStops_13 : decode cX8_linkStops 13 = .ok (.invokestatic 79, 3) := by decide +kernel
theorem dX8_linkStops_16 : decode cX8_linkStops 16 = .ok (.ifCond .eq 31, 3) := by decide +kernel
theorem dX8_linkStops_19 : decode cX8_linkStops 19 = .ok (.iload_n 3, 1) := by decide +kernel
theorem dX8_linkStops_20 : decode cX8_linkStops 20 = .ok (.iconst 0, 1) := by decide +kernel
theorem dX8_linkStops_21 : decode cX8_linkStops 21 = .ok (.bipush 8, 2) := by decide +kernel
theorem dX8_linkStops_23 : decode cX8_linkStops 23 = .ok (.invokestatic 79, 3) := by decide +kernel
theorem dX8_linkStops_26 : decode cX8_linkStops 26 = .ok (.ifCond .eq 21, 3) := by decide +kernel
theorem dX8_linkStops_29 : decode cX8_linkStops 29 = .ok (.aload_n 0, 1) := by decide +kernel
theorem dX8_linkStops_30 : decode cX8_linkStops 30 = .ok (.getfield 7, 3) := by decide +kernel
theorem dX8_linkStops_33 : decode cX8_linkStops 33 = .ok (.iconst 0, 1) := by decide +kernel
theorem dX8_linkStops_34 : decode cX8_linkStops 34 = .ok (.iaload, 1) := by decide +kernel
theorem dX8_linkStops_35 : decode cX8_linkStops 35 = .ok (.iconst 4, 1) := by decide +kernel
theorem dX8_linkStops_36 : decode cX8_linkStops 36 = .ok (.if_icmp .ne 7, 3) := by decide +kernel
theorem dX8_linkStops_39 : decode cX8_linkStops 39 = .ok (.iconst 2, 1) := by decide +kernel
theorem dX8_linkStops_40 : decode cX8_linkStops 40 = .ok (.goto 8, 3) := by decide +kernel
theorem dX8_linkStops_43 : decode cX8_linkStops 43 = .ok (.iconst 0, 1) := by decide +kernel
theorem dX8_linkStops_44 : decode cX8_linkStops 44 = .ok (.goto 4, 3) := by decide +kernel
theorem dX8_linkStops_47 : decode cX8_linkStops 47 = .ok (.iconst 1, 1) := by decide +kernel
theorem dX8_linkStops_48 : decode cX8_linkStops 48 = .ok (.ireturn, 1) := by decide +kernel
theorem dX8_linkComes_0 : decode cX8_linkComes 0 = .ok (.iconst 1, 1) := by decide +kernel
theorem dX8_linkComes_1 : decode cX8_linkComes 1 = .ok (.iconst 4, 1) := by decide +kernel
theorem dX8_linkComes_2 : decode cX8_linkComes 2 = .ok (.aload_n 0, 1) := by decide +kernel
theorem dX8_linkComes_3 : decode cX8_linkComes 3 = .ok (.getfield 7, 3) := by decide +kernel
theorem dX8_linkComes_6 : decode cX8_linkComes 6 = .ok (.iconst 0, 1) := by decide +kernel
theorem dX8_linkComes_7 : decode cX8_linkComes 7 = .ok (.iaload, 1) := by decide +kernel
theorem dX8_linkComes_8 : decode cX8_linkComes 8 = .ok (.imul, 1) := by decide +kernel
theorem dX8_linkComes_9 : decode cX8_linkComes 9 = .ok (.iadd, 1) := by decide +kernel
theorem dX8_linkComes_10 : decode cX8_linkComes 10 = .ok (.istore 4, 2) := by decide +kernel
theorem dX8_linkComes_12 : decode cX8_linkComes 12 = .ok (.aload_n 0, 1) := by decide +kernel
theorem dX8_linkComes_13 : decode cX8_linkComes 13 = .ok (.getfield 7, 3) := by decide +kernel
theorem dX8_linkComes_16 : decode cX8_linkComes 16 = .ok (.iload 4, 2) := by decide +kernel
theorem dX8_linkComes_18 : decode cX8_linkComes 18 = .ok (.iload_n 1, 1) := by decide +kernel
theorem dX8_linkComes_19 : decode cX8_linkComes 19 = .ok (.iastore, 1) := by decide +kernel
theorem dX8_linkComes_20 : decode cX8_linkComes 20 = .ok (.aload_n 0, 1) := by decide +kernel
theorem dX8_linkComes_21 : decode cX8_linkComes 21 = .ok (.getfield 7, 3) := by decide +kernel
theorem dX8_linkComes_24 : decode cX8_linkComes 24 = .ok (.iload 4, 2) := by decide +kernel
theorem dX8_linkComes_26 : decode cX8_linkComes 26 = .ok (.iconst 1, 1) := by decide +kernel
theorem dX8_linkComes_27 : decode cX8_linkComes 27 = .ok (.iadd, 1) := by decide +kernel
theorem dX8_linkComes_28 : decode cX8_linkComes 28 = .ok (.iload_n 2, 1) := by decide +kernel
theorem dX8_linkComes_29 : decode cX8_linkComes 29 = .ok (.iastore, 1) := by decide +kernel
theorem dX8_linkComes_30 : decode cX8_linkComes 30 = .ok (.aload_n 0, 1) := by decide +kernel
theorem dX8_linkComes_31 : decode cX8_linkComes 31 = .ok (.getfield 7, 3) := by decide +kernel
theorem dX8_linkComes_34 : decode cX8_linkComes 34 = .ok (.iload 4, 2) := by decide +kernel
theorem dX8_linkComes_36 : decode cX8_linkComes 36 = .ok (.iconst 2, 1) := by decide +kernel
theorem dX8_linkComes_37 : decode cX8_linkComes 37 = .ok (.iadd, 1) := by decide +kernel
theorem dX8_linkComes_38 : decode cX8_linkComes 38 = .ok (.iload_n 3, 1) := by decide +kernel
theorem dX8_linkComes_39 : decode cX8_linkComes 39 = .ok (.iastore, 1) := by decide +kernel
theorem dX8_linkComes_40 : decode cX8_linkComes 40 = .ok (.aload_n 0, 1) := by decide +kernel
theorem dX8_linkComes_41 : decode cX8_linkComes 41 = .ok (.getfield 7, 3) := by decide +kernel
theorem dX8_linkComes_44 : decode cX8_linkComes 44 = .ok (.iload 4, 2) := by decide +kernel
theorem dX8_linkComes_46 : decode cX8_linkComes 46 = .ok (.iconst 3, 1) := by decide +kernel
theorem dX8_linkComes_47 : decode cX8_linkComes 47 = .ok (.iadd, 1) := by decide +kernel
theorem dX8_linkComes_48 : decode cX8_linkComes 48 = .ok (.iconst 0, 1) := by decide +kernel
theorem dX8_linkComes_49 : decode cX8_linkComes 49 = .ok (.iastore, 1) := by decide +kernel
theorem dX8_linkComes_50 : decode cX8_linkComes 50 = .ok (.aload_n 0, 1) := by decide +kernel
theorem dX8_linkComes_51 : decode cX8_linkComes 51 = .ok (.getfield 7, 3) := by decide +kernel
theorem dX8_linkComes_54 : decode cX8_linkComes 54 = .ok (.iconst 0, 1) := by decide +kernel
theorem dX8_linkComes_55 : decode cX8_linkComes 55 = .ok (.dup2, 1) := by decide +kernel
theorem dX8_linkComes_56 : decode cX8_linkComes 56 = .ok (.iaload, 1) := by decide +kernel
theorem dX8_linkComes_57 : decode cX8_linkComes 57 = .ok (.iconst 1, 1) := by decide +kernel
theorem dX8_linkComes_58 : decode cX8_linkComes 58 = .ok (.iadd, 1) := by decide +kernel
theorem dX8_linkComes_59 : decode cX8_linkComes 59 = .ok (.iastore, 1) := by decide +kernel
theorem dX8_linkComes_60 : decode cX8_linkComes 60 = .ok (.return_, 1) := by decide +kernel
theorem dX8_addLink_0 : decode cX8_addLink 0 = .ok (.aload_n 0, 1) := by decide +kernel
theorem dX8_addLink_1 : decode cX8_addLink 1 = .ok (.aload_n 0, 1) := by decide +kernel
theorem dX8_addLink_2 : decode cX8_addLink 2 = .ok (.iload_n 1, 1) := by decide +kernel
theorem dX8_addLink_3 : decode cX8_addLink 3 = .ok (.iload_n 2, 1) := by decide +kernel
theorem dX8_addLink_4 : decode cX8_addLink 4 = .ok (.iload_n 3, 1) := by decide +kernel
theorem dX8_addLink_5 : decode cX8_addLink 5 = .ok (.invokevirtual 94, 3) := by decide +kernel
theorem dX8_addLink_8 : decode cX8_addLink 8 = .ok (.putfield 76, 3) := by decide +kernel
theorem dX8_addLink_11 : decode cX8_addLink 11 = .ok (.aload_n 0, 1) := by decide +kernel
theorem dX8_addLink_12 : decode cX8_addLink 12 = .ok (.getfield 76, 3) := by decide +kernel
theorem dX8_addLink_15 : decode cX8_addLink 15 = .ok (.ifCond .le 5, 3) := by decide +kernel
theorem dX8_addLink_18 : decode cX8_addLink 18 = .ok (.iconst 0, 1) := by decide +kernel
theorem dX8_addLink_19 : decode cX8_addLink 19 = .ok (.ireturn, 1) := by decide +kernel
theorem dX8_addLink_20 : decode cX8_addLink 20 = .ok (.aload_n 0, 1) := by decide +kernel
theorem dX8_addLink_21 : decode cX8_addLink 21 = .ok (.invokevirtual 98, 3) := by decide +kernel
theorem dX8_addLink_24 : decode cX8_addLink 24 = .ok (.aload_n 0, 1) := by decide +kernel
theorem dX8_addLink_25 : decode cX8_addLink 25 = .ok (.iload_n 1, 1) := by decide +kernel
theorem dX8_addLink_26 : decode cX8_addLink 26 = .ok (.iload_n 2, 1) := by decide +kernel
theorem dX8_addLink_27 : decode cX8_addLink 27 = .ok (.iload_n 3, 1) := by decide +kernel
theorem dX8_addLink_28 : decode cX8_addLink 28 = .ok (.invokevirtual 101, 3) := by decide +kernel
theorem dX8_addLink_31 : decode cX8_addLink 31 = .ok (.aload_n 0, 1) := by decide +kernel
theorem dX8_addLink_32 : decode cX8_addLink 32 = .ok (.getfield 7, 3) := by decide +kernel
theorem dX8_addLink_35 : decode cX8_addLink 35 = .ok (.iconst 0, 1) := by decide +kernel
theorem dX8_addLink_36 : decode cX8_addLink 36 = .ok (.iaload, 1) := by decide +kernel
theorem dX8_addLink_37 : decode cX8_addLink 37 = .ok (.iconst 1, 1) := by decide +kernel
theorem dX8_addLink_38 : decode cX8_addLink 38 = .ok (.isub, 1) := by decide +kernel
theorem dX8_addLink_39 : decode cX8_addLink 39 = .ok (.ireturn, 1) := by decide +kernel
theorem dX8_removeLink_0 : decode cX8_removeLink 0 = .ok (.aload_n 0, 1) := by decide +kernel
theorem dX8_removeLink_1 : decode cX8_removeLink 1 = .ok (.aload_n 0, 1) := by decide +kernel
theorem dX8_removeLink_2 : decode cX8_removeLink 2 = .ok (.getfield 7, 3) := by decide +kernel
theorem dX8_removeLink_5 : decode cX8_removeLink 5 = .ok (.iconst 0, 1) := by decide +kernel
theorem dX8_removeLink_6 : decode cX8_removeLink 6 = .ok (.iaload, 1) := by decide +kernel
theorem dX8_removeLink_7 : decode cX8_removeLink 7 = .ok (.ifCond .ne 7, 3) := by decide +kernel
theorem dX8_removeLink_10 : decode cX8_removeLink 10 = .ok (.iconst 1, 1) := by decide +kernel
theorem dX8_removeLink_11 : decode cX8_removeLink 11 = .ok (.goto 4, 3) := by decide +kernel
theorem dX8_removeLink_14 : decode cX8_removeLink 14 = .ok (.iconst 0, 1) := by decide +kernel
theorem dX8_removeLink_15 : decode cX8_removeLink 15 = .ok (.putfield 76, 3) := by decide +kernel
theorem dX8_removeLink_18 : decode cX8_removeLink 18 = .ok (.aload_n 0, 1) := by decide +kernel
theorem dX8_removeLink_19 : decode cX8_removeLink 19 = .ok (.getfield 76, 3) := by decide +kernel
theorem dX8_removeLink_22 : decode cX8_removeLink 22 = .ok (.ifCond .le 5, 3) := by decide +kernel
theorem dX8_removeLink_25 : decode cX8_removeLink 25 = .ok (.iconst 0, 1) := by decide +kernel
theorem dX8_removeLink_26 : decode cX8_removeLink 26 = .ok (.ireturn, 1) := by decide +kernel
theorem dX8_removeLink_27 : decode cX8_removeLink 27 = .ok (.aload_n 0, 1) := by decide +kernel
theorem dX8_removeLink_28 : decode cX8_removeLink 28 = .ok (.invokevirtual 98, 3) := by decide +kernel
theorem dX8_removeLink_31 : decode cX8_removeLink 31 = .ok (.aload_n 0, 1) := by decide +kernel
theorem dX8_removeLink_32 : decode cX8_removeLink 32 = .ok (.getfield 7, 3) := by decide +kernel
theorem dX8_removeLink_35 : decode cX8_removeLink 35 = .ok (.iconst 0, 1) := by decide +kernel
theorem dX8_removeLink_36 : decode cX8_removeLink 36 = .ok (.dup2, 1) := by decide +kernel
theorem dX8_removeLink_37 : decode cX8_removeLink 37 = .ok (.iaload, 1) := by decide +kernel
theorem dX8_removeLink_38 : decode cX8_removeLink 38 = .ok (.iconst 1, 1) := by decide +kernel
theorem dX8_removeLink_39 : decode cX8_removeLink 39 = .ok (.isub, 1) := by decide +kernel
theorem dX8_removeLink_40 : decode cX8_removeLink 40 = .ok (.iastore, 1) := by decide +kernel
theorem dX8_removeLink_41 : decode cX8_removeLink 41 = .ok (.aload_n 0, 1) := by decide +kernel
theorem dX8_removeLink_42 : decode cX8_removeLink 42 = .ok (.getfield 7, 3) := by decide +kernel
theorem dX8_removeLink_45 : decode cX8_removeLink 45 = .ok (.iconst 0, 1) := by decide +kernel
theorem dX8_removeLink_46 : decode cX8_removeLink 46 = .ok (.iaload, 1) := by decide +kernel
theorem dX8_removeLink_47 : decode cX8_removeLink 47 = .ok (.ireturn, 1) := by decide +kernel
theorem dX8_setLimits_0 : decode cX8_setLimits 0 = .ok (.aload_n 0, 1) := by decide +kernel
theorem dX8_setLimits_1 : decode cX8_setLimits 1 = .ok (.aload_n 0, 1) := by decide +kernel
theorem dX8_setLimits_2 : decode cX8_setLimits 2 = .ok (.iload_n 1, 1) := by decide +kernel
theorem dX8_setLimits_3 : decode cX8_setLimits 3 = .ok (.invokevirtual 105, 3) := by decide +kernel
theorem dX8_setLimits_6 : decode cX8_setLimits 6 = .ok (.ifCond .eq 31, 3) := by decide +kernel
theorem dX8_setLimits_9 : decode cX8_setLimits 9 = .ok (.iload_n 2, 1) := by decide +kernel
theorem dX8_setLimits_10 : decode cX8_setLimits 10 = .ok (.iconst 0, 1) := by decide +kernel
theorem dX8_setLimits_11 : decode cX8_setLimits 11 = .ok (.bipush 8, 2) := by decide +kernel
theorem dX8_setLimits_13 : decode cX8_setLimits 13 = .ok (.invokestatic 79, 3) := by decide +kernel
theorem dX8_setLimits_16 : decode cX8_setLimits 16 = .ok (.ifCond .eq 17, 3) := by decide +kernel
theorem dX8_setLimits_19 : decode cX8_setLimits 19 = .ok (.iload_n 3, 1) := by decide +kernel
theorem dX8_setLimits_20 : decode cX8_setLimits 20 = .ok (.iconst 0, 1) := by decide +kernel
theorem dX8_setLimits_21 : decode cX8_setLimits 21 = .ok (.bipush 8, 2) := by decide +kernel
theorem dX8_setLimits_23 : decode cX8_setLimits 23 = .ok (.invokestatic 79, 3) := by decide +kernel
theorem dX8_setLimits_26 : decode cX8_setLimits 26 = .ok (.ifCond .eq 7, 3) := by decide +kernel
theorem dX8_setLimits_29 : decode cX8_setLimits 29 = .ok (.iconst 0, 1) := by decide +kernel
theorem dX8_setLimits_30 : decode cX8_setLimits 30 = .ok (.goto 8, 3) := by decide +kernel
theorem dX8_setLimits_33 : decode cX8_setLimits 33 = .ok (.iconst 2, 1) := by decide +kernel
theorem dX8_setLimits_34 : decode cX8_setLimits 34 = .ok (.goto 4, 3) := by decide +kernel
theorem dX8_setLimits_37 : decode cX8_setLimits 37 = .ok (.iconst 1, 1) := by decide +kernel
theorem dX8_setLimits_38 : decode cX8_setLimits 38 = .ok (.putfield 76, 3) := by decide +kernel
theorem dX8_setLimits_41 : decode cX8_setLimits 41 = .ok (.aload_n 0, 1) := by decide +kernel
theorem dX8_setLimits_42 : decode cX8_setLimits 42 = .ok (.getfield 76, 3) := by decide +kernel
theorem dX8_setLimits_45 : decode cX8_setLimits 45 = .ok (.ifCond .le 5, 3) := by decide +kernel
theorem dX8_setLimits_48 : decode cX8_setLimits 48 = .ok (.iconst 0, 1) := by decide +kernel
theorem dX8_setLimits_49 : decode cX8_setLimits 49 = .ok (.ireturn, 1) := by decide +kernel
theorem dX8_setLimits_50 : decode cX8_setLimits 50 = .ok (.aload_n 0, 1) := by decide +kernel
theorem dX8_setLimits_51 : decode cX8_setLimits 51 = .ok (.invokevirtual 98, 3) := by decide +kernel
theorem dX8_setLimits_54 : decode cX8_setLimits 54 = .ok (.aload_n 0, 1) := by decide +kernel
theorem dX8_setLimits_55 : decode cX8_setLimits 55 = .ok (.getfield 7, 3) := by decide +kernel
theorem dX8_setLimits_58 : decode cX8_setLimits 58 = .ok (.iconst 2, 1) := by decide +kernel
theorem dX8_setLimits_59 : decode cX8_setLimits 59 = .ok (.iconst 4, 1) := by decide +kernel
theorem dX8_setLimits_60 : decode cX8_setLimits 60 = .ok (.iload_n 1, 1) := by decide +kernel
theorem dX8_setLimits_61 : decode cX8_setLimits 61 = .ok (.imul, 1) := by decide +kernel
theorem dX8_setLimits_62 : decode cX8_setLimits 62 = .ok (.iadd, 1) := by decide +kernel
theorem dX8_setLimits_63 : decode cX8_setLimits 63 = .ok (.iload_n 2, 1) := by decide +kernel
theorem dX8_setLimits_64 : decode cX8_setLimits 64 = .ok (.iastore, 1) := by decide +kernel
theorem dX8_setLimits_65 : decode cX8_setLimits 65 = .ok (.aload_n 0, 1) := by decide +kernel
theorem dX8_setLimits_66 : decode cX8_setLimits 66 = .ok (.getfield 7, 3) := by decide +kernel
theorem dX8_setLimits_69 : decode cX8_setLimits 69 = .ok (.iconst 3, 1) := by decide +kernel
theorem dX8_setLimits_70 : decode cX8_setLimits 70 = .ok (.iconst 4, 1) := by decide +kernel
theorem dX8_setLimits_71 : decode cX8_setLimits 71 = .ok (.iload_n 1, 1) := by decide +kernel
theorem dX8_setLimits_72 : decode cX8_setLimits 72 = .ok (.imul, 1) := by decide +kernel
theorem dX8_setLimits_73 : decode cX8_setLimits 73 = .ok (.iadd, 1) := by decide +kernel
theorem dX8_setLimits_74 : decode cX8_setLimits 74 = .ok (.iload_n 3, 1) := by decide +kernel
theorem dX8_setLimits_75 : decode cX8_setLimits 75 = .ok (.iastore, 1) := by decide +kernel
theorem dX8_setLimits_76 : decode cX8_setLimits 76 = .ok (.aload_n 0, 1) := by decide +kernel
theorem dX8_setLimits_77 : decode cX8_setLimits 77 = .ok (.getfield 7, 3) := by decide +kernel
theorem dX8_setLimits_80 : decode cX8_setLimits 80 = .ok (.iconst 4, 1) := by decide +kernel
theorem dX8_setLimits_81 : decode cX8_setLimits 81 = .ok (.iconst 4, 1) := by decide +kernel
theorem dX8_setLimits_82 : decode cX8_setLimits 82 = .ok (.iload_n 1, 1) := by decide +kernel
theorem dX8_setLimits_83 : decode cX8_setLimits 83 = .ok (.imul, 1) := by decide +kernel
theorem dX8_setLimits_84 : decode cX8_setLimits 84 = .ok (.iadd, 1) := by decide +kernel
theorem dX8_setLimits_85 : decode cX8_setLimits 85 = .ok (.iaload, 1) := by decide +kernel
theorem dX8_setLimits_86 : decode cX8_setLimits 86 = .ok (.istore 4, 2) := by decide +kernel
theorem dX8_setLimits_88 : decode cX8_setLimits 88 = .ok (.aload_n 0, 1) := by decide +kernel
theorem dX8_setLimits_89 : decode cX8_setLimits 89 = .ok (.getfield 7, 3) := by decide +kernel
theorem dX8_setLimits_92 : decode cX8_setLimits 92 = .ok (.iconst 4, 1) := by decide +kernel
theorem dX8_setLimits_93 : decode cX8_setLimits 93 = .ok (.iconst 4, 1) := by decide +kernel
theorem dX8_setLimits_94 : decode cX8_setLimits 94 = .ok (.iload_n 1, 1) := by decide +kernel
theorem dX8_setLimits_95 : decode cX8_setLimits 95 = .ok (.imul, 1) := by decide +kernel
theorem dX8_setLimits_96 : decode cX8_setLimits 96 = .ok (.iadd, 1) := by decide +kernel
theorem dX8_setLimits_97 : decode cX8_setLimits 97 = .ok (.iload 4, 2) := by decide +kernel
theorem dX8_setLimits_99 : decode cX8_setLimits 99 = .ok (.iload_n 2, 1) := by decide +kernel
theorem dX8_setLimits_100 : decode cX8_setLimits 100 = .ok (.ineg, 1) := by decide +kernel
theorem dX8_setLimits_101 : decode cX8_setLimits 101 = .ok (.if_icmp .ge 8, 3) := by decide +kernel
theorem dX8_setLimits_104 : decode cX8_setLimits 104 = .ok (.iload_n 2, 1) := by decide +kernel
theorem dX8_setLimits_105 : decode cX8_setLimits 105 = .ok (.ineg, 1) := by decide +kernel
theorem dX8_setLimits_106 : decode cX8_setLimits 106 = .ok (.goto 15, 3) := by decide +kernel
theorem dX8_setLimits_109 : decode cX8_setLimits 109 = .ok (.iload 4, 2) := by decide +kernel
theorem dX8_setLimits_111 : decode cX8_setLimits 111 = .ok (.iload_n 3, 1) := by decide +kernel
theorem dX8_setLimits_112 : decode cX8_setLimits 112 = .ok (.if_icmp .le 7, 3) := by decide +kernel
theorem dX8_setLimits_115 : decode cX8_setLimits 115 = .ok (.iload_n 3, 1) := by decide +kernel
theorem dX8_setLimits_116 : decode cX8_setLimits 116 = .ok (.goto 5, 3) := by decide +kernel
theorem dX8_setLimits_119 : decode cX8_setLimits 119 = .ok (.iload 4, 2) := by decide +kernel
theorem dX8_setLimits_121 : decode cX8_setLimits 121 = .ok (.iastore, 1) := by decide +kernel
theorem dX8_setLimits_122 : decode cX8_setLimits 122 = .ok (.aload_n 0, 1) := by decide +kernel
theorem dX8_setLimits_123 : decode cX8_setLimits 123 = .ok (.getfield 7, 3) := by decide +kernel
theorem dX8_setLimits_126 : decode cX8_setLimits 126 = .ok (.iconst 4, 1) := by decide +kernel
theorem dX8_setLimits_127 : decode cX8_setLimits 127 = .ok (.iconst 4, 1) := by decide +kernel
theorem dX8_setLimits_128 : decode cX8_setLimits 128 = .ok (.iload_n 1, 1) := by decide +kernel
theorem dX8_setLimits_129 : decode cX8_setLimits 129 = .ok (.imul, 1) := by decide +kernel
theorem dX8_setLimits_130 : decode cX8_setLimits 130 = .ok (.iadd, 1) := by decide +kernel
theorem dX8_setLimits_131 : decode cX8_setLimits 131 = .ok (.iaload, 1) := by decide +kernel
theorem dX8_setLimits_132 : decode cX8_setLimits 132 = .ok (.ireturn, 1) := by decide +kernel
theorem dX8_stoneAt_0 : decode cX8_stoneAt 0 = .ok (.iconst 0, 1) := by decide +kernel
theorem dX8_stoneAt_1 : decode cX8_stoneAt 1 = .ok (.istore_n 3, 1) := by decide +kernel
theorem dX8_stoneAt_2 : decode cX8_stoneAt 2 = .ok (.iload_n 3, 1) := by decide +kernel
theorem dX8_stoneAt_3 : decode cX8_stoneAt 3 = .ok (.aload_n 0, 1) := by decide +kernel
theorem dX8_stoneAt_4 : decode cX8_stoneAt 4 = .ok (.getfield 7, 3) := by decide +kernel
theorem dX8_stoneAt_7 : decode cX8_stoneAt 7 = .ok (.bipush 20, 2) := by decide +kernel
theorem dX8_stoneAt_9 : decode cX8_stoneAt 9 = .ok (.iaload, 1) := by decide +kernel
theorem dX8_stoneAt_10 : decode cX8_stoneAt 10 = .ok (.if_icmp .ge 43, 3) := by decide +kernel
theorem dX8_stoneAt_13 : decode cX8_stoneAt 13 = .ok (.aload_n 0, 1) := by decide +kernel
theorem dX8_stoneAt_14 : decode cX8_stoneAt 14 = .ok (.getfield 7, 3) := by decide +kernel
theorem dX8_stoneAt_17 : decode cX8_stoneAt 17 = .ok (.bipush 21, 2) := by decide +kernel
theorem dX8_stoneAt_19 : decode cX8_stoneAt 19 = .ok (.iconst 2, 1) := by decide +kernel
theorem dX8_stoneAt_20 : decode cX8_stoneAt 20 = .ok (.iload_n 3, 1) := by decide +kernel
theorem dX8_stoneAt_21 : decode cX8_stoneAt 21 = .ok (.imul, 1) := by decide +kernel
theorem dX8_stoneAt_22 : decode cX8_stoneAt 22 = .ok (.iadd, 1) := by decide +kernel
theorem dX8_stoneAt_23 : decode cX8_stoneAt 23 = .ok (.iaload, 1) := by decide +kernel
theorem dX8_stoneAt_24 : decode cX8_stoneAt 24 = .ok (.iload_n 1, 1) := by decide +kernel
theorem dX8_stoneAt_25 : decode cX8_stoneAt 25 = .ok (.if_icmp .ne 22, 3) := by decide +kernel
theorem dX8_stoneAt_28 : decode cX8_stoneAt 28 = .ok (.aload_n 0, 1) := by decide +kernel
theorem dX8_stoneAt_29 : decode cX8_stoneAt 29 = .ok (.getfield 7, 3) := by decide +kernel
theorem dX8_stoneAt_32 : decode cX8_stoneAt 32 = .ok (.bipush 21, 2) := by decide +kernel
theorem dX8_stoneAt_34 : decode cX8_stoneAt 34 = .ok (.iconst 2, 1) := by decide +kernel
theorem dX8_stoneAt_35 : decode cX8_stoneAt 35 = .ok (.iload_n 3, 1) := by decide +kernel
theorem dX8_stoneAt_36 : decode cX8_stoneAt 36 = .ok (.imul, 1) := by decide +kernel
theorem dX8_stoneAt_37 : decode cX8_stoneAt 37 = .ok (.iadd, 1) := by decide +kernel
theorem dX8_stoneAt_38 : decode cX8_stoneAt 38 = .ok (.iconst 1, 1) := by decide +kernel
theorem dX8_stoneAt_39 : decode cX8_stoneAt 39 = .ok (.iadd, 1) := by decide +kernel
theorem dX8_stoneAt_40 : decode cX8_stoneAt 40 = .ok (.iaload, 1) := by decide +kernel
theorem dX8_stoneAt_41 : decode cX8_stoneAt 41 = .ok (.iload_n 2, 1) := by decide +kernel
theorem dX8_stoneAt_42 : decode cX8_stoneAt 42 = .ok (.if_icmp .ne 5, 3) := by decide +kernel
theorem dX8_stoneAt_45 : decode cX8_stoneAt 45 = .ok (.iload_n 3, 1) := by decide +kernel
theorem dX8_stoneAt_46 : decode cX8_stoneAt 46 = .ok (.ireturn, 1) := by decide +kernel
theorem dX8_stoneAt_47 : decode cX8_stoneAt 47 = .ok (.iinc 3 1, 3) := by decide +kernel
theorem dX8_stoneAt_50 : decode cX8_stoneAt 50 = .ok (.goto (-48), 3) := by decide +kernel
theorem dX8_stoneAt_53 : decode cX8_stoneAt 53 = .ok (.iconst (-1), 1) := by decide +kernel
theorem dX8_stoneAt_54 : decode cX8_stoneAt 54 = .ok (.ireturn, 1) := by decide +kernel
theorem dX8_stoneStops_0 : decode cX8_stoneStops 0 = .ok (.iload_n 1, 1) := by decide +kernel
theorem dX8_stoneStops_1 : decode cX8_stoneStops 1 = .ok (.iload_n 2, 1) := by decide +kernel
theorem dX8_stoneStops_2 : decode cX8_stoneStops 2 = .ok (.invokestatic 109, 3) := by decide +kernel
theorem dX8_stoneStops_5 : decode cX8_stoneStops 5 = .ok (.ifCond .ne 5, 3) := by decide +kernel
theorem dX8_stoneStops_8 : decode cX8_stoneStops 8 = .ok (.iconst 1, 1) := by decide +kernel
theorem dX8_stoneStops_9 : decode cX8_stoneStops 9 = .ok (.ireturn, 1) := by decide +kernel
theorem dX8_stoneStops_10 : decode cX8_stoneStops 10 = .ok (.iload_n 1, 1) := by decide +kernel
theorem dX8_stoneStops_11 : decode cX8_stoneStops 11 = .ok (.ifCond .ne 9, 3) := by decide +kernel
theorem dX8_stoneStops_14 : decode cX8_stoneStops 14 = .ok (.iload_n 2, 1) := by decide +kernel
theorem dX8_stoneStops_15 : decode cX8_stoneStops 15 = .ok (.ifCond .ne 5, 3) := by decide +kernel
theorem dX8_stoneStops_18 : decode cX8_stoneStops 18 = .ok (.iconst 2, 1) := by decide +kernel
theorem dX8_stoneStops_19 : decode cX8_stoneStops 19 = .ok (.ireturn, 1) := by decide +kernel
theorem dX8_stoneStops_20 : decode cX8_stoneStops 20 = .ok (.aload_n 0, 1) := by decide +kernel
theorem dX8_stoneStops_21 : decode cX8_stoneStops 21 = .ok (.getfield 7, 3) := by decide +kernel
theorem dX8_stoneStops_24 : decode cX8_stoneStops 24 = .ok (.bipush 20, 2) := by decide +kernel
theorem dX8_stoneStops_26 : decode cX8_stoneStops 26 = .ok (.iaload, 1) := by decide +kernel
theorem dX8_stoneStops_27 : decode cX8_stoneStops 27 = .ok (.bipush 60, 2) := by decide +kernel
theorem dX8_stoneStops_29 : decode cX8_stoneStops 29 = .ok (.if_icmp .eq 12, 3) := by decide +kernel
theorem dX8_stoneStops_32 : decode cX8_stoneStops 32 = .ok (.aload_n 0, 1) := by decide +kernel
theorem dX8_stoneStops_33 : decode cX8_stoneStops 33 = .ok (.iload_n 1, 1) := by decide +kernel
theorem dX8_stoneStops_34 : decode cX8_stoneStops 34 = .ok (.iload_n 2, 1) := by decide +kernel
theorem dX8_stoneStops_35 : decode cX8_stoneStops 35 = .ok (.invokevirtual 113, 3) := by decide +kernel
theorem dX8_stoneStops_38 : decode cX8_stoneStops 38 = .ok (.ifCond .lt 7, 3) := by decide +kernel
theorem dX8_stoneStops_41 : decode cX8_stoneStops 41 = .ok (.iconst 3, 1) := by decide +kernel
theorem dX8_stoneStops_42 : decode cX8_stoneStops 42 = .ok (.goto 4, 3) := by decide +kernel
theorem dX8_stoneStops_45 : decode cX8_stoneStops 45 = .ok (.iconst 0, 1) := by decide +kernel
theorem dX8_stoneStops_46 : decode cX8_stoneStops 46 = .ok (.ireturn, 1) := by decide +kernel
theorem dX8_stoneComes_0 : decode cX8_stoneComes 0 = .ok (.aload_n 0, 1) := by decide +kernel
theorem dX8_stoneComes_1 : decode cX8_stoneComes 1 = .ok (.getfield 7, 3) := by decide +kernel
theorem dX8_stoneComes_4 : decode cX8_stoneComes 4 = .ok (.bipush 21, 2) := by decide +kernel
theorem dX8_stoneComes_6 : decode cX8_stoneComes 6 = .ok (.iconst 2, 1) := by decide +kernel
theorem dX8_stoneComes_7 : decode cX8_stoneComes 7 = .ok (.aload_n 0, 1) := by decide +kernel
theorem dX8_stoneComes_8 : decode cX8_stoneComes 8 = .ok (.getfield 7, 3) := by decide +kernel
theorem dX8_stoneComes_11 : decode cX8_stoneComes 11 = .ok (.bipush 20, 2) := by decide +kernel
theorem dX8_stoneComes_13 : decode cX8_stoneComes 13 = .ok (.iaload, 1) := by decide +kernel
theorem dX8_stoneComes_14 : decode cX8_stoneComes 14 = .ok (.imul, 1) := by decide +kernel
theorem dX8_stoneComes_15 : decode cX8_stoneComes 15 = .ok (.iadd, 1) := by decide +kernel
theorem dX8_stoneComes_16 : decode cX8_stoneComes 16 = .ok (.iload_n 1, 1) := by decide +kernel
theorem dX8_stoneComes_17 : decode cX8_stoneComes 17 = .ok (.iastore, 1) := by decide +kernel
theorem dX8_stoneComes_18 : decode cX8_stoneComes 18 = .ok (.aload_n 0, 1) := by decide +kernel
theorem dX8_stoneComes_19 : decode cX8_stoneComes 19 = .ok (.getfield 7, 3) := by decide +kernel
theorem dX8_stoneComes_22 : decode cX8_stoneComes 22 = .ok (.bipush 21, 2) := by decide +kernel
theorem dX8_stoneComes_24 : decode cX8_stoneComes 24 = .ok (.iconst 2, 1) := by decide +kernel
theorem dX8_stoneComes_25 : decode cX8_stoneComes 25 = .ok (.aload_n 0, 1) := by decide +kernel
theorem dX8_stoneComes_26 : decode cX8_stoneComes 26 = .ok (.getfield 7, 3) := by decide +kernel
theorem dX8_stoneComes_29 : decode cX8_stoneComes 29 = .ok (.bipush 20, 2) := by decide +kernel
theorem dX8_stoneComes_31 : decode cX8_stoneComes 31 = .ok (.iaload, 1) := by decide +kernel
theorem dX8_stoneComes_32 : decode cX8_stoneComes 32 = .ok (.imul, 1) := by decide +kernel
theorem dX8_stoneComes_33 : decode cX8_stoneComes 33 = .ok (.iadd, 1) := by decide +kernel
theorem dX8_stoneComes_34 : decode cX8_stoneComes 34 = .ok (.iconst 1, 1) := by decide +kernel
theorem dX8_stoneComes_35 : decode cX8_stoneComes 35 = .ok (.iadd, 1) := by decide +kernel
theorem dX8_stoneComes_36 : decode cX8_stoneComes 36 = .ok (.iload_n 2, 1) := by decide +kernel
theorem dX8_stoneComes_37 : decode cX8_stoneComes 37 = .ok (.iastore, 1) := by decide +kernel
theorem dX8_stoneComes_38 : decode cX8_stoneComes 38 = .ok (.aload_n 0, 1) := by decide +kernel
theorem dX8_stoneComes_39 : decode cX8_stoneComes 39 = .ok (.getfield 7, 3) := by decide +kernel
theorem dX8_stoneComes_42 : decode cX8_stoneComes 42 = .ok (.bipush 20, 2) := by decide +kernel
theorem dX8_stoneComes_44 : decode cX8_stoneComes 44 = .ok (.dup2, 1) := by decide +kernel
theorem dX8_stoneComes_45 : decode cX8_stoneComes 45 = .ok (.iaload, 1) := by decide +kernel
theorem dX8_stoneComes_46 : decode cX8_stoneComes 46 = .ok (.iconst 1, 1) := by decide +kernel
theorem dX8_stoneComes_47 : decode cX8_stoneComes 47 = .ok (.iadd, 1) := by decide +kernel
theorem dX8_stoneComes_48 : decode cX8_stoneComes 48 = .ok (.iastore, 1) := by decide +kernel
theorem dX8_stoneComes_49 : decode cX8_stoneComes 49 = .ok (.return_, 1) := by decide +kernel
theorem dX8_addObstacle_0 : decode cX8_addObstacle 0 = .ok (.aload_n 0, 1) := by decide +kernel
theorem dX8_addObstacle_1 : decode cX8_addObstacle 1 = .ok (.aload_n 0, 1) := by decide +kernel
theorem dX8_addObstacle_2 : decode cX8_addObstacle 2 = .ok (.iload_n 1, 1) := by decide +kernel
theorem dX8_addObstacle_3 : decode cX8_addObstacle 3 = .ok (.iload_n 2, 1) := by decide +kernel
theorem dX8_addObstacle_4 : decode cX8_addObstacle 4 = .ok (.invokevirtual 117, 3) := by decide +kernel
theorem dX8_addObstacle_7 : decode cX8_addObstacle 7 = .ok (.putfield 76, 3) := by decide +kernel
theorem dX8_addObstacle_10 : decode cX8_addObstacle 10 = .ok (.aload_n 0, 1) := by decide +kernel
theorem dX8_addObstacle_11 : decode cX8_addObstacle 11 = .ok (.getfield 76, 3) := by decide +kernel
theorem dX8_addObstacle_14 : decode cX8_addObstacle 14 = .ok (.ifCond .le 5, 3) := by decide +kernel
theorem dX8_addObstacle_17 : decode cX8_addObstacle 17 = .ok (.iconst 0, 1) := by decide +kernel
theorem dX8_addObstacle_18 : decode cX8_addObstacle 18 = .ok (.ireturn, 1) := by decide +kernel
theorem dX8_addObstacle_19 : decode cX8_addObstacle 19 = .ok (.aload_n 0, 1) := by decide +kernel
theorem dX8_addObstacle_20 : decode cX8_addObstacle 20 = .ok (.invokevirtual 98, 3) := by decide +kernel
theorem dX8_addObstacle_23 : decode cX8_addObstacle 23 = .ok (.aload_n 0, 1) := by decide +kernel
theorem dX8_addObstacle_24 : decode cX8_addObstacle 24 = .ok (.iload_n 1, 1) := by decide +kernel
theorem dX8_addObstacle_25 : decode cX8_addObstacle 25 = .ok (.iload_n 2, 1) := by decide +kernel
theorem dX8_addObstacle_26 : decode cX8_addObstacle 26 = .ok (.invokevirtual 120, 3) := by decide +kernel
theorem dX8_addObstacle_29 : decode cX8_addObstacle 29 = .ok (.aload_n 0, 1) := by decide +kernel
theorem dX8_addObstacle_30 : decode cX8_addObstacle 30 = .ok (.getfield 7, 3) := by decide +kernel
theorem dX8_addObstacle_33 : decode cX8_addObstacle 33 = .ok (.bipush 20, 2) := by decide +kernel
theorem dX8_addObstacle_35 : decode cX8_addObstacle 35 = .ok (.iaload, 1) := by decide +kernel
theorem dX8_addObstacle_36 : decode cX8_addObstacle 36 = .ok (.ireturn, 1) := by decide +kernel
theorem dX8_removeObstacle_0 : decode cX8_removeObstacle 0 = .ok (.aload_n 0, 1) := by decide +kernel
theorem dX8_removeObstacle_1 : decode cX8_removeObstacle 1 = .ok (.iload_n 1, 1) := by decide +kernel
theorem dX8_removeObstacle_2 : decode cX8_removeObstacle 2 = .ok (.iload_n 2, 1) := by decide +kernel
theorem dX8_removeObstacle_3 : decode cX8_removeObstacle 3 = .ok (.invokevirtual 113, 3) := by decide +kernel
theorem dX8_removeObstacle_6 : decode cX8_removeObstacle 6 = .ok (.istore_n 3, 1) := by decide +kernel
theorem dX8_removeObstacle_7 : decode cX8_removeObstacle 7 = .ok (.aload_n 0, 1) := by decide +kernel
theorem dX8_removeObstacle_8 : decode cX8_removeObstacle 8 = .ok (.iload_n 1, 1) := by decide +kernel
theorem dX8_removeObstacle_9 : decode cX8_removeObstacle 9 = .ok (.iload_n 2, 1) := by decide +kernel
theorem dX8_removeObstacle_10 : decode cX8_removeObstacle 10 = .ok (.invokestatic 109, 3) := by decide +kernel
theorem dX8_removeObstacle_13 : decode cX8_removeObstacle 13 = .ok (.ifCond .eq 15, 3) := by decide +kernel
theorem dX8_removeObstacle_16 : decode cX8_removeObstacle 16 = .ok (.iload_n 3, 1) := by decide +kernel
theorem dX8_removeObstacle_17 : decode cX8_removeObstacle 17 = .ok (.ifCond .ge 7, 3) := by decide +kernel
theorem dX8_removeObstacle_20 : decode cX8_removeObstacle 20 = .ok (.iconst 2, 1) := by decide +kernel
theorem dX8_removeObstacle_21 : decode cX8_removeObstacle 21 = .ok (.goto 8, 3) := by decide +kernel
theorem dX8_removeObstacle_24 : decode cX8_removeObstacle 24 = .ok (.iconst 0, 1) := by decide +kernel
theorem dX8_removeObstacle_25 : decode cX8_removeObstacle 25 = .ok (.goto 4, 3) := by decide +kernel
theorem dX8_removeObstacle_28 : decode cX8_removeObstacle 28 = .ok (.iconst 1, 1) := by decide +kernel
theorem dX8_removeObstacle_29 : decode cX8_removeObstacle 29 = .ok (.putfield 76, 3) := by decide +kernel
theorem dX8_removeObstacle_32 : decode cX8_removeObstacle 32 = .ok (.aload_n 0, 1) := by decide +kernel
theorem dX8_removeObstacle_33 : decode cX8_removeObstacle 33 = .ok (.getfield 76, 3) := by decide +kernel
theorem dX8_removeObstacle_36 : decode cX8_removeObstacle 36 = .ok (.ifCond .le 5, 3) := by decide +kernel
theorem dX8_removeObstacle_39 : decode cX8_removeObstacle 39 = .ok (.iconst 0, 1) := by decide +kernel
theorem dX8_removeObstacle_40 : decode cX8_removeObstacle 40 = .ok (.ireturn, 1) := by decide +kernel
theorem dX8_removeObstacle_41 : decode cX8_removeObstacle 41 = .ok (.aload_n 0, 1) := by decide +kernel
theorem dX8_removeObstacle_42 : decode cX8_removeObstacle 42 = .ok (.invokevirtual 98, 3) := by decide +kernel
theorem dX8_removeObstacle_45 : decode cX8_removeObstacle 45 = .ok (.aload_n 0, 1) := by decide +kernel
theorem dX8_removeObstacle_46 : decode cX8_removeObstacle 46 = .ok (.getfield 7, 3) := by decide +kernel
theorem dX8_removeObstacle_49 : decode cX8_removeObstacle 49 = .ok (.bipush 20, 2) := by decide +kernel
theorem dX8_removeObstacle_51 : decode cX8_removeObstacle 51 = .ok (.dup2, 1) := by decide +kernel
theorem dX8_removeObstacle_52 : decode cX8_removeObstacle 52 = .ok (.iaload, 1) := by decide +kernel
theorem dX8_removeObstacle_53 : decode cX8_removeObstacle 53 = .ok (.iconst 1, 1) := by decide +kernel
theorem dX8_removeObstacle_54 : decode cX8_removeObstacle 54 = .ok (.isub, 1) := by decide +kernel
theorem dX8_removeObstacle_55 : decode cX8_removeObstacle 55 = .ok (.iastore, 1) := by decide +kernel
theorem dX8_removeObstacle_56 : decode cX8_removeObstacle 56 = .ok (.bipush 21, 2) := by decide +kernel
theorem dX8_removeObstacle_58 : decode cX8_removeObstacle 58 = .ok (.iconst 2, 1) := by decide +kernel
theorem dX8_removeObstacle_59 : decode cX8_removeObstacle 59 = .ok (.iload_n 3, 1) := by decide +kernel
theorem dX8_removeObstacle_60 : decode cX8_removeObstacle 60 = .ok (.imul, 1) := by decide +kernel
theorem dX8_removeObstacle_61 : decode cX8_removeObstacle 61 = .ok (.iadd, 1) := by decide +kernel
theorem dX8_removeObstacle_62 : decode cX8_removeObstacle 62 = .ok (.istore 4, 2) := by decide +kernel
theorem dX8_removeObstacle_64 : decode cX8_removeObstacle 64 = .ok (.iload 4, 2) := by decide +kernel
theorem dX8_removeObstacle_66 : decode cX8_removeObstacle 66 = .ok (.bipush 21, 2) := by decide +kernel
theorem dX8_removeObstacle_68 : decode cX8_removeObstacle 68 = .ok (.iconst 2, 1) := by decide +kernel
theorem dX8_removeObstacle_69 : decode cX8_removeObstacle 69 = .ok (.aload_n 0, 1) := by decide +kernel
theorem dX8_removeObstacle_70 : decode cX8_removeObstacle 70 = .ok (.getfield 7, 3) := by decide +kernel
theorem dX8_removeObstacle_73 : decode cX8_removeObstacle 73 = .ok (.bipush 20, 2) := by decide +kernel
theorem dX8_removeObstacle_75 : decode cX8_removeObstacle 75 = .ok (.iaload, 1) := by decide +kernel
theorem dX8_removeObstacle_76 : decode cX8_removeObstacle 76 = .ok (.imul, 1) := by decide +kernel
theorem dX8_removeObstacle_77 : decode cX8_removeObstacle 77 = .ok (.iadd, 1) := by decide +kernel
theorem dX8_removeObstacle_78 : decode cX8_removeObstacle 78 = .ok (.if_icmp .ge 25, 3) := by decide +kernel
theorem dX8_removeObstacle_81 : decode cX8_removeObstacle 81 = .ok (.aload_n 0, 1) := by decide +kernel
theorem dX8_removeObstacle_82 : decode cX8_removeObstacle 82 = .ok (.getfield 7, 3) := by decide +kernel
theorem dX8_removeObstacle_85 : decode cX8_removeObstacle 85 = .ok (.iload 4, 2) := by decide +kernel
theorem dX8_removeObstacle_87 : decode cX8_removeObstacle 87 = .ok (.aload_n 0, 1) := by decide +kernel
theorem dX8_removeObstacle_88 : decode cX8_removeObstacle 88 = .ok (.getfield 7, 3) := by decide +kernel
theorem dX8_removeObstacle_91 : decode cX8_removeObstacle 91 = .ok (.iload 4, 2) := by decide +kernel
theorem dX8_removeObstacle_93 : decode cX8_removeObstacle 93 = .ok (.iconst 2, 1) := by decide +kernel
theorem dX8_removeObstacle_94 : decode cX8_removeObstacle 94 = .ok (.iadd, 1) := by decide +kernel
theorem dX8_removeObstacle_95 : decode cX8_removeObstacle 95 = .ok (.iaload, 1) := by decide +kernel
theorem dX8_removeObstacle_96 : decode cX8_removeObstacle 96 = .ok (.iastore, 1) := by decide +kernel
theorem dX8_removeObstacle_97 : decode cX8_removeObstacle 97 = .ok (.iinc 4 1, 3) := by decide +kernel
theorem dX8_removeObstacle_100 : decode cX8_removeObstacle 100 = .ok (.goto (-36), 3) := by decide +kernel
theorem dX8_removeObstacle_103 : decode cX8_removeObstacle 103 = .ok (.aload_n 0, 1) := by decide +kernel
theorem dX8_removeObstacle_104 : decode cX8_removeObstacle 104 = .ok (.getfield 7, 3) := by decide +kernel
theorem dX8_removeObstacle_107 : decode cX8_removeObstacle 107 = .ok (.bipush 20, 2) := by decide +kernel
theorem dX8_removeObstacle_109 : decode cX8_removeObstacle 109 = .ok (.iaload, 1) := by decide +kernel
theorem dX8_removeObstacle_110 : decode cX8_removeObstacle 110 = .ok (.ireturn, 1) := by decide +kernel
theorem dX8_values_0 : decode cX8_values 0 = .ok (.aload_n 0, 1) := by decide +kernel
theorem dX8_values_1 : decode cX8_values 1 = .ok (.iload_n 1, 1) := by decide +kernel
theorem dX8_values_2 : decode cX8_values 2 = .ok (.invokevirtual 124, 3) := by decide +kernel
theorem dX8_values_5 : decode cX8_values 5 = .ok (.aload_n 0, 1) := by decide +kernel
theorem dX8_values_6 : decode cX8_values 6 = .ok (.iload_n 1, 1) := by decide +kernel
theorem dX8_values_7 : decode cX8_values 7 = .ok (.invokevirtual 127, 3) := by decide +kernel
theorem dX8_values_10 : decode cX8_values 10 = .ok (.iadd, 1) := by decide +kernel
theorem dX8_values_11 : decode cX8_values 11 = .ok (.iconst 1, 1) := by decide +kernel
theorem dX8_values_12 : decode cX8_values 12 = .ok (.iadd, 1) := by decide +kernel
theorem dX8_values_13 : decode cX8_values 13 = .ok (.ireturn, 1) := by decide +kernel
theorem dX8_poses_0 : decode cX8_poses 0 = .ok (.iconst 1, 1) := by decide +kernel
theorem dX8_poses_1 : decode cX8_poses 1 = .ok (.istore_n 1, 1) := by decide +kernel
theorem dX8_poses_2 : decode cX8_poses 2 = .ok (.iconst 0, 1) := by decide +kernel
theorem dX8_poses_3 : decode cX8_poses 3 = .ok (.istore_n 2, 1) := by decide +kernel
theorem dX8_poses_4 : decode cX8_poses 4 = .ok (.iload_n 2, 1) := by decide +kernel
theorem dX8_poses_5 : decode cX8_poses 5 = .ok (.aload_n 0, 1) := by decide +kernel
theorem dX8_poses_6 : decode cX8_poses 6 = .ok (.getfield 7, 3) := by decide +kernel
theorem dX8_poses_9 : decode cX8_poses 9 = .ok (.iconst 0, 1) := by decide +kernel
theorem dX8_poses_10 : decode cX8_poses 10 = .ok (.iaload, 1) := by decide +kernel
theorem dX8_poses_11 : decode cX8_poses 11 = .ok (.if_icmp .ge 17, 3) := by decide +kernel
theorem dX8_poses_14 : decode cX8_poses 14 = .ok (.iload_n 1, 1) := by decide +kernel
theorem dX8_poses_15 : decode cX8_poses 15 = .ok (.aload_n 0, 1) := by decide +kernel
theorem dX8_poses_16 : decode cX8_poses 16 = .ok (.iload_n 2, 1) := by decide +kernel
theorem dX8_poses_17 : decode cX8_poses 17 = .ok (.invokevirtual 130, 3) := by decide +kernel
theorem dX8_poses_20 : decode cX8_poses 20 = .ok (.imul, 1) := by decide +kernel
theorem dX8_poses_21 : decode cX8_poses 21 = .ok (.istore_n 1, 1) := by decide +kernel
theorem dX8_poses_22 : decode cX8_poses 22 = .ok (.iinc 2 1, 3) := by decide +kernel
theorem dX8_poses_25 : decode cX8_poses 25 = .ok (.goto (-21), 3) := by decide +kernel
theorem dX8_poses_28 : decode cX8_poses 28 = .ok (.iload_n 1, 1) := by decide +kernel
theorem dX8_poses_29 : decode cX8_poses 29 = .ok (.ireturn, 1) := by decide +kernel
theorem dX8_count_0 : decode cX8_count 0 = .ok (.aload_n 0, 1) := by decide +kernel
theorem dX8_count_1 : decode cX8_count 1 = .ok (.iconst 0, 1) := by decide +kernel
theorem dX8_count_2 : decode cX8_count 2 = .ok (.putfield 76, 3) := by decide +kernel
theorem dX8_count_5 : decode cX8_count 5 = .ok (.iconst 0, 1) := by decide +kernel
theorem dX8_count_6 : decode cX8_count 6 = .ok (.istore_n 2, 1) := by decide +kernel
theorem dX8_count_7 : decode cX8_count 7 = .ok (.iload_n 1, 1) := by decide +kernel
theorem dX8_count_8 : decode cX8_count 8 = .ok (.tableswitch 80 0 3 #[32, 39, 47, 52], 32) := by decide +kernel
theorem dX8_count_40 : decode cX8_count 40 = .ok (.aload_n 0, 1) := by decide +kernel
theorem dX8_count_41 : decode cX8_count 41 = .ok (.getfield 7, 3) := by decide +kernel
theorem dX8_count_44 : decode cX8_count 44 = .ok (.iconst 0, 1) := by decide +kernel
theorem dX8_count_45 : decode cX8_count 45 = .ok (.iaload, 1) := by decide +kernel
theorem dX8_count_46 : decode cX8_count 46 = .ok (.ireturn, 1) := by decide +kernel
theorem dX8_count_47 : decode cX8_count 47 = .ok (.aload_n 0, 1) := by decide +kernel
theorem dX8_count_48 : decode cX8_count 48 = .ok (.getfield 7, 3) := by decide +kernel
theorem dX8_count_51 : decode cX8_count 51 = .ok (.bipush 20, 2) := by decide +kernel
theorem dX8_count_53 : decode cX8_count 53 = .ok (.iaload, 1) := by decide +kernel
theorem dX8_count_54 : decode cX8_count 54 = .ok (.ireturn, 1) := by decide +kernel
theorem dX8_count_55 : decode cX8_count 55 = .ok (.aload_n 0, 1) := by decide +kernel
theorem dX8_count_56 : decode cX8_count 56 = .ok (.invokevirtual 133, 3) := by decide +kernel
theorem dX8_count_59 : decode cX8_count 59 = .ok (.ireturn, 1) := by decide +kernel
theorem dX8_count_60 : decode cX8_count 60 = .ok (.iconst 0, 1) := by decide +kernel
theorem dX8_count_61 : decode cX8_count 61 = .ok (.istore_n 3, 1) := by decide +kernel
theorem dX8_count_62 : decode cX8_count 62 = .ok (.iload_n 3, 1) := by decide +kernel
theorem dX8_count_63 : decode cX8_count 63 = .ok (.aload_n 0, 1) := by decide +kernel
theorem dX8_count_64 : decode cX8_count 64 = .ok (.getfield 7, 3) := by decide +kernel
theorem dX8_count_67 : decode cX8_count 67 = .ok (.iconst 0, 1) := by decide +kernel
theorem dX8_count_68 : decode cX8_count 68 = .ok (.iaload, 1) := by decide +kernel
theorem dX8_count_69 : decode cX8_count 69 = .ok (.if_icmp .ge 17, 3) := by decide +kernel
theorem dX8_count_72 : decode cX8_count 72 = .ok (.iload_n 2, 1) := by decide +kernel
theorem dX8_count_73 : decode cX8_count 73 = .ok (.aload_n 0, 1) := by decide +kernel
theorem dX8_count_74 : decode cX8_count 74 = .ok (.iload_n 3, 1) := by decide +kernel
theorem dX8_count_75 : decode cX8_count 75 = .ok (.invokevirtual 137, 3) := by decide +kernel
theorem dX8_count_78 : decode cX8_count 78 = .ok (.iadd, 1) := by decide +kernel
theorem dX8_count_79 : decode cX8_count 79 = .ok (.istore_n 2, 1) := by decide +kernel
theorem dX8_count_80 : decode cX8_count 80 = .ok (.iinc 3 1, 3) := by decide +kernel
theorem dX8_count_83 : decode cX8_count 83 = .ok (.goto (-21), 3) := by decide +kernel
theorem dX8_count_86 : decode cX8_count 86 = .ok (.iload_n 2, 1) := by decide +kernel
theorem dX8_count_87 : decode cX8_count 87 = .ok (.ireturn, 1) := by decide +kernel
theorem dX8_count_88 : decode cX8_count 88 = .ok (.aload_n 0, 1) := by decide +kernel
theorem dX8_count_89 : decode cX8_count 89 = .ok (.iconst 1, 1) := by decide +kernel
theorem dX8_count_90 : decode cX8_count 90 = .ok (.invokevirtual 86, 3) := by decide +kernel
theorem dX8_count_93 : decode cX8_count 93 = .ok (.ireturn, 1) := by decide +kernel
theorem dX8_stepX_0 : decode cX8_stepX 0 = .ok (.iload_n 0, 1) := by decide +kernel
theorem dX8_stepX_1 : decode cX8_stepX 1 = .ok (.ifCond .eq 14, 3) := by decide +kernel
theorem dX8_stepX_4 : decode cX8_stepX 4 = .ok (.iload_n 0, 1) := by decide +kernel
theorem dX8_stepX_5 : decode cX8_stepX 5 = .ok (.iconst 1, 1) := by decide +kernel
theorem dX8_stepX_6 : decode cX8_stepX 6 = .ok (.if_icmp .eq 9, 3) := by decide +kernel
theorem dX8_stepX_9 : decode cX8_stepX 9 = .ok (.iload_n 0, 1) := by decide +kernel
theorem dX8_stepX_10 : decode cX8_stepX 10 = .ok (.bipush 7, 2) := by decide +kernel
theorem dX8_stepX_12 : decode cX8_stepX 12 = .ok (.if_icmp .ne 7, 3) := by decide +kernel
theorem dX8_stepX_15 : decode cX8_stepX 15 = .ok (.iconst 1, 1) := by decide +kernel
theorem dX8_stepX_16 : decode cX8_stepX 16 = .ok (.goto 19, 3) := by decide +kernel
theorem dX8_stepX_19 : decode cX8_stepX 19 = .ok (.iload_n 0, 1) := by decide +kernel
theorem dX8_stepX_20 : decode cX8_stepX 20 = .ok (.iconst 2, 1) := by decide +kernel
theorem dX8_stepX_21 : decode cX8_stepX 21 = .ok (.if_icmp .eq 9, 3) := by decide +kernel
theorem dX8_stepX_24 : decode cX8_stepX 24 = .ok (.iload_n 0, 1) := by decide +kernel
theorem dX8_stepX_25 : decode cX8_stepX 25 = .ok (.bipush 6, 2) := by decide +kernel
theorem dX8_stepX_27 : decode cX8_stepX 27 = .ok (.if_icmp .ne 7, 3) := by decide +kernel
theorem dX8_stepX_30 : decode cX8_stepX 30 = .ok (.iconst 0, 1) := by decide +kernel
theorem dX8_stepX_31 : decode cX8_stepX 31 = .ok (.goto 4, 3) := by decide +kernel
theorem dX8_stepX_34 : decode cX8_stepX 34 = .ok (.iconst (-1), 1) := by decide +kernel
theorem dX8_stepX_35 : decode cX8_stepX 35 = .ok (.ireturn, 1) := by decide +kernel
theorem dX8_stepY_0 : decode cX8_stepY 0 = .ok (.iload_n 0, 1) := by decide +kernel
theorem dX8_stepY_1 : decode cX8_stepY 1 = .ok (.ifCond .eq 8, 3) := by decide +kernel
theorem dX8_stepY_4 : decode cX8_stepY 4 = .ok (.iload_n 0, 1) := by decide +kernel
theorem dX8_stepY_5 : decode cX8_stepY 5 = .ok (.iconst 4, 1) := by decide +kernel
theorem dX8_stepY_6 : decode cX8_stepY 6 = .ok (.if_icmp .ne 7, 3) := by decide +kernel
theorem dX8_stepY_9 : decode cX8_stepY 9 = .ok (.iconst 0, 1) := by decide +kernel
theorem dX8_stepY_10 : decode cX8_stepY 10 = .ok (.goto 13, 3) := by decide +kernel
theorem dX8_stepY_13 : decode cX8_stepY 13 = .ok (.iload_n 0, 1) := by decide +kernel
theorem dX8_stepY_14 : decode cX8_stepY 14 = .ok (.iconst 4, 1) := by decide +kernel
theorem dX8_stepY_15 : decode cX8_stepY 15 = .ok (.if_icmp .ge 7, 3) := by decide +kernel
theorem dX8_stepY_18 : decode cX8_stepY 18 = .ok (.iconst 1, 1) := by decide +kernel
theorem dX8_stepY_19 : decode cX8_stepY 19 = .ok (.goto 4, 3) := by decide +kernel
theorem dX8_stepY_22 : decode cX8_stepY 22 = .ok (.iconst (-1), 1) := by decide +kernel
theorem dX8_stepY_23 : decode cX8_stepY 23 = .ok (.ireturn, 1) := by decide +kernel
theorem dX8_lays_0 : decode cX8_lays 0 = .ok (.iconst 0, 1) := by decide +kernel
theorem dX8_lays_1 : decode cX8_lays 1 = .ok (.istore_n 1, 1) := by decide +kernel
theorem dX8_lays_2 : decode cX8_lays 2 = .ok (.iconst 0, 1) := by decide +kernel
theorem dX8_lays_3 : decode cX8_lays 3 = .ok (.istore_n 2, 1) := by decide +kernel
theorem dX8_lays_4 : decode cX8_lays 4 = .ok (.iload_n 2, 1) := by decide +kernel
theorem dX8_lays_5 : decode cX8_lays 5 = .ok (.aload_n 0, 1) := by decide +kernel
theorem dX8_lays_6 : decode cX8_lays 6 = .ok (.getfield 7, 3) := by decide +kernel
theorem dX8_lays_9 : decode cX8_lays 9 = .ok (.iconst 0, 1) := by decide +kernel
theorem dX8_lays_10 : decode cX8_lays 10 = .ok (.iaload, 1) := by decide +kernel
theorem dX8_lays_11 : decode cX8_lays 11 = .ok (.if_icmp .ge 88, 3) := by decide +kernel
theorem dX8_lays_14 : decode cX8_lays 14 = .ok (.iload_n 1, 1) := by decide +kernel
theorem dX8_lays_15 : decode cX8_lays 15 = .ok (.aload_n 0, 1) := by decide +kernel
theorem dX8_lays_16 : decode cX8_lays 16 = .ok (.getfield 26, 3) := by decide +kernel
theorem dX8_lays_19 : decode cX8_lays 19 = .ok (.iload_n 2, 1) := by decide +kernel
theorem dX8_lays_20 : decode cX8_lays 20 = .ok (.iaload, 1) := by decide +kernel
theorem dX8_lays_21 : decode cX8_lays 21 = .ok (.iadd, 1) := by decide +kernel
theorem dX8_lays_22 : decode cX8_lays 22 = .ok (.istore_n 1, 1) := by decide +kernel
theorem dX8_lays_23 : decode cX8_lays 23 = .ok (.aload_n 0, 1) := by decide +kernel
theorem dX8_lays_24 : decode cX8_lays 24 = .ok (.getfield 29, 3) := by decide +kernel
theorem dX8_lays_27 : decode cX8_lays 27 = .ok (.iload_n 2, 1) := by decide +kernel
theorem dX8_lays_28 : decode cX8_lays 28 = .ok (.iload_n 1, 1) := by decide +kernel
theorem dX8_lays_29 : decode cX8_lays 29 = .ok (.bipush 7, 2) := by decide +kernel
theorem dX8_lays_31 : decode cX8_lays 31 = .ok (.iand, 1) := by decide +kernel
theorem dX8_lays_32 : decode cX8_lays 32 = .ok (.iastore, 1) := by decide +kernel
theorem dX8_lays_33 : decode cX8_lays 33 = .ok (.aload_n 0, 1) := by decide +kernel
theorem dX8_lays_34 : decode cX8_lays 34 = .ok (.getfield 32, 3) := by decide +kernel
theorem dX8_lays_37 : decode cX8_lays 37 = .ok (.iload_n 2, 1) := by decide +kernel
theorem dX8_lays_38 : decode cX8_lays 38 = .ok (.iconst 1, 1) := by decide +kernel
theorem dX8_lays_39 : decode cX8_lays 39 = .ok (.iadd, 1) := by decide +kernel
theorem dX8_lays_40 : decode cX8_lays 40 = .ok (.aload_n 0, 1) := by decide +kernel
theorem dX8_lays_41 : decode cX8_lays 41 = .ok (.getfield 32, 3) := by decide +kernel
theorem dX8_lays_44 : decode cX8_lays 44 = .ok (.iload_n 2, 1) := by decide +kernel
theorem dX8_lays_45 : decode cX8_lays 45 = .ok (.iaload, 1) := by decide +kernel
theorem dX8_lays_46 : decode cX8_lays 46 = .ok (.aload_n 0, 1) := by decide +kernel
theorem dX8_lays_47 : decode cX8_lays 47 = .ok (.iload_n 2, 1) := by decide +kernel
theorem dX8_lays_48 : decode cX8_lays 48 = .ok (.invokevirtual 137, 3) := by decide +kernel
theorem dX8_lays_51 : decode cX8_lays 51 = .ok (.aload_n 0, 1) := by decide +kernel
theorem dX8_lays_52 : decode cX8_lays 52 = .ok (.getfield 29, 3) := by decide +kernel
theorem dX8_lays_55 : decode cX8_lays 55 = .ok (.iload_n 2, 1) := by decide +kernel
theorem dX8_lays_56 : decode cX8_lays 56 = .ok (.iaload, 1) := by decide +kernel
theorem dX8_lays_57 : decode cX8_lays 57 = .ok (.invokestatic 140, 3) := by decide +kernel
theorem dX8_lays_60 : decode cX8_lays 60 = .ok (.imul, 1) := by decide +kernel
theorem dX8_lays_61 : decode cX8_lays 61 = .ok (.iadd, 1) := by decide +kernel
theorem dX8_lays_62 : decode cX8_lays 62 = .ok (.iastore, 1) := by decide +kernel
theorem dX8_lays_63 : decode cX8_lays 63 = .ok (.aload_n 0, 1) := by decide +kernel
theorem dX8_lays_64 : decode cX8_lays 64 = .ok (.getfield 35, 3) := by decide +kernel
theorem dX8_lays_67 : decode cX8_lays 67 = .ok (.iload_n 2, 1) := by decide +kernel
theorem dX8_lays_68 : decode cX8_lays 68 = .ok (.iconst 1, 1) := by decide +kernel
theorem dX8_lays_69 : decode cX8_lays 69 = .ok (.iadd, 1) := by decide +kernel
theorem dX8_lays_70 : decode cX8_lays 70 = .ok (.aload_n 0, 1) := by decide +kernel
theorem dX8_lays_71 : decode cX8_lays 71 = .ok (.getfield 35, 3) := by decide +kernel
theorem dX8_lays_74 : decode cX8_lays 74 = .ok (.iload_n 2, 1) := by decide +kernel
theorem dX8_lays_75 : decode cX8_lays 75 = .ok (.iaload, 1) := by decide +kernel
theorem dX8_lays_76 : decode cX8_lays 76 = .ok (.aload_n 0, 1) := by decide +kernel
theorem dX8_lays_77 : decode cX8_lays 77 = .ok (.iload_n 2, 1) := by decide +kernel
theorem dX8_lays_78 : decode cX8_lays 78 = .ok (.invokevirtual 137, 3) := by decide +kernel
theorem dX8_lays_81 : decode cX8_lays 81 = .ok (.aload_n 0, 1) := by decide +kernel
theorem dX8_lays_82 : decode cX8_lays 82 = .ok (.getfield 29, 3) := by decide +kernel
theorem dX8_lays_85 : decode cX8_lays 85 = .ok (.iload_n 2, 1) := by decide +kernel
theorem dX8_lays_86 : decode cX8_lays 86 = .ok (.iaload, 1) := by decide +kernel
theorem dX8_lays_87 : decode cX8_lays 87 = .ok (.invokestatic 143, 3) := by decide +kernel
theorem dX8_lays_90 : decode cX8_lays 90 = .ok (.imul, 1) := by decide +kernel
theorem dX8_lays_91 : decode cX8_lays 91 = .ok (.iadd, 1) := by decide +kernel
theorem dX8_lays_92 : decode cX8_lays 92 = .ok (.iastore, 1) := by decide +kernel
theorem dX8_lays_93 : decode cX8_lays 93 = .ok (.iinc 2 1, 3) := by decide +kernel
theorem dX8_lays_96 : decode cX8_lays 96 = .ok (.goto (-92), 3) := by decide +kernel
theorem dX8_lays_99 : decode cX8_lays 99 = .ok (.return_, 1) := by decide +kernel
theorem dX8_now_0 : decode cX8_now 0 = .ok (.iconst 0, 1) := by decide +kernel
theorem dX8_now_1 : decode cX8_now 1 = .ok (.istore_n 1, 1) := by decide +kernel
theorem dX8_now_2 : decode cX8_now 2 = .ok (.iload_n 1, 1) := by decide +kernel
theorem dX8_now_3 : decode cX8_now 3 = .ok (.aload_n 0, 1) := by decide +kernel
theorem dX8_now_4 : decode cX8_now 4 = .ok (.getfield 7, 3) := by decide +kernel
theorem dX8_now_7 : decode cX8_now 7 = .ok (.iconst 0, 1) := by decide +kernel
theorem dX8_now_8 : decode cX8_now 8 = .ok (.iaload, 1) := by decide +kernel
theorem dX8_now_9 : decode cX8_now 9 = .ok (.if_icmp .ge 25, 3) := by decide +kernel
theorem dX8_now_12 : decode cX8_now 12 = .ok (.aload_n 0, 1) := by decide +kernel
theorem dX8_now_13 : decode cX8_now 13 = .ok (.getfield 26, 3) := by decide +kernel
theorem dX8_now_16 : decode cX8_now 16 = .ok (.iload_n 1, 1) := by decide +kernel
theorem dX8_now_17 : decode cX8_now 17 = .ok (.aload_n 0, 1) := by decide +kernel
theorem dX8_now_18 : decode cX8_now 18 = .ok (.getfield 7, 3) := by decide +kernel
theorem dX8_now_21 : decode cX8_now 21 = .ok (.iconst 4, 1) := by decide +kernel
theorem dX8_now_22 : decode cX8_now 22 = .ok (.iconst 4, 1) := by decide +kernel
theorem dX8_now_23 : decode cX8_now 23 = .ok (.iload_n 1, 1) := by decide +kernel
theorem dX8_now_24 : decode cX8_now 24 = .ok (.imul, 1) := by decide +kernel
theorem dX8_now_25 : decode cX8_now 25 = .ok (.iadd, 1) := by decide +kernel
theorem dX8_now_26 : decode cX8_now 26 = .ok (.iaload, 1) := by decide +kernel
theorem dX8_now_27 : decode cX8_now 27 = .ok (.iastore, 1) := by decide +kernel
theorem dX8_now_28 : decode cX8_now 28 = .ok (.iinc 1 1, 3) := by decide +kernel
theorem dX8_now_31 : decode cX8_now 31 = .ok (.goto (-29), 3) := by decide +kernel
theorem dX8_now_34 : decode cX8_now 34 = .ok (.aload_n 0, 1) := by decide +kernel
theorem dX8_now_35 : decode cX8_now 35 = .ok (.invokevirtual 146, 3) := by decide +kernel
theorem dX8_now_38 : decode cX8_now 38 = .ok (.return_, 1) := by decide +kernel
theorem dX8_numberNow_0 : decode cX8_numberNow 0 = .ok (.iconst 0, 1) := by decide +kernel
theorem dX8_numberNow_1 : decode cX8_numberNow 1 = .ok (.istore_n 1, 1) := by decide +kernel
theorem dX8_numberNow_2 : decode cX8_numberNow 2 = .ok (.iconst 0, 1) := by decide +kernel
theorem dX8_numberNow_3 : decode cX8_numberNow 3 = .ok (.istore_n 2, 1) := by decide +kernel
theorem dX8_numberNow_4 : decode cX8_numberNow 4 = .ok (.iload_n 2, 1) := by decide +kernel
theorem dX8_numberNow_5 : decode cX8_numberNow 5 = .ok (.aload_n 0, 1) := by decide +kernel
theorem dX8_numberNow_6 : decode cX8_numberNow 6 = .ok (.getfield 7, 3) := by decide +kernel
theorem dX8_numberNow_9 : decode cX8_numberNow 9 = .ok (.iconst 0, 1) := by decide +kernel
theorem dX8_numberNow_10 : decode cX8_numberNow 10 = .ok (.iaload, 1) := by decide +kernel
theorem dX8_numberNow_11 : decode cX8_numberNow 11 = .ok (.if_icmp .ge 34, 3) := by decide +kernel
theorem dX8_numberNow_14 : decode cX8_numberNow 14 = .ok (.iload_n 1, 1) := by decide +kernel
theorem dX8_numberNow_15 : decode cX8_numberNow 15 = .ok (.aload_n 0, 1) := by decide +kernel
theorem dX8_numberNow_16 : decode cX8_numberNow 16 = .ok (.iload_n 2, 1) := by decide +kernel
theorem dX8_numberNow_17 : decode cX8_numberNow 17 = .ok (.invokevirtual 130, 3) := by decide +kernel
theorem dX8_numberNow_20 : decode cX8_numberNow 20 = .ok (.imul, 1) := by decide +kernel
theorem dX8_numberNow_21 : decode cX8_numberNow 21 = .ok (.aload_n 0, 1) := by decide +kernel
theorem dX8_numberNow_22 : decode cX8_numberNow 22 = .ok (.getfield 7, 3) := by decide +kernel
theorem dX8_numberNow_25 : decode cX8_numberNow 25 = .ok (.iconst 4, 1) := by decide +kernel
theorem dX8_numberNow_26 : decode cX8_numberNow 26 = .ok (.iconst 4, 1) := by decide +kernel
theorem dX8_numberNow_27 : decode cX8_numberNow 27 = .ok (.iload_n 2, 1) := by decide +kernel
theorem dX8_numberNow_28 : decode cX8_numberNow 28 = .ok (.imul, 1) := by decide +kernel
theorem dX8_numberNow_29 : decode cX8_numberNow 29 = .ok (.iadd, 1) := by decide +kernel
theorem dX8_numberNow_30 : decode cX8_numberNow 30 = .ok (.iaload, 1) := by decide +kernel
theorem dX8_numberNow_31 : decode cX8_numberNow 31 = .ok (.iadd, 1) := by decide +kernel
theorem dX8_numberNow_32 : decode cX8_numberNow 32 = .ok (.aload_n 0, 1) := by decide +kernel
theorem dX8_numberNow_33 : decode cX8_numberNow 33 = .ok (.iload_n 2, 1) := by decide +kernel
theorem dX8_numberNow_34 : decode cX8_numberNow 34 = .ok (.invokevirtual 124, 3) := by decide +kernel
theorem dX8_numberNow_37 : decode cX8_numberNow 37 = .ok (.iadd, 1) := by decide +kernel
theorem dX8_numberNow_38 : decode cX8_numberNow 38 = .ok (.istore_n 1, 1) := by decide +kernel
theorem dX8_numberNow_39 : decode cX8_numberNow 39 = .ok (.iinc 2 1, 3) := by decide +kernel
theorem dX8_numberNow_42 : decode cX8_numberNow 42 = .ok (.goto (-38), 3) := by decide +kernel
theorem dX8_numberNow_45 : decode cX8_numberNow 45 = .ok (.iload_n 1, 1) := by decide +kernel
theorem dX8_numberNow_46 : decode cX8_numberNow 46 = .ok (.ireturn, 1) := by decide +kernel
theorem dX8_takes_0 : decode cX8_takes 0 = .ok (.iload_n 1, 1) := by decide +kernel
theorem dX8_takes_1 : decode cX8_takes 1 = .ok (.istore_n 2, 1) := by decide +kernel
theorem dX8_takes_2 : decode cX8_takes 2 = .ok (.aload_n 0, 1) := by decide +kernel
theorem dX8_takes_3 : decode cX8_takes 3 = .ok (.getfield 7, 3) := by decide +kernel
theorem dX8_takes_6 : decode cX8_takes 6 = .ok (.iconst 0, 1) := by decide +kernel
theorem dX8_takes_7 : decode cX8_takes 7 = .ok (.iaload, 1) := by decide +kernel
theorem dX8_takes_8 : decode cX8_takes 8 = .ok (.iconst 1, 1) := by decide +kernel
theorem dX8_takes_9 : decode cX8_takes 9 = .ok (.isub, 1) := by decide +kernel
theorem dX8_takes_10 : decode cX8_takes 10 = .ok (.istore_n 3, 1) := by decide +kernel
theorem dX8_takes_11 : decode cX8_takes 11 = .ok (.iload_n 3, 1) := by decide +kernel
theorem dX8_takes_12 : decode cX8_takes 12 = .ok (.ifCond .lt 36, 3) := by decide +kernel
theorem dX8_takes_15 : decode cX8_takes 15 = .ok (.aload_n 0, 1) := by decide +kernel
theorem dX8_takes_16 : decode cX8_takes 16 = .ok (.getfield 26, 3) := by decide +kernel
theorem dX8_takes_19 : decode cX8_takes 19 = .ok (.iload_n 3, 1) := by decide +kernel
theorem dX8_takes_20 : decode cX8_takes 20 = .ok (.iload_n 2, 1) := by decide +kernel
theorem dX8_takes_21 : decode cX8_takes 21 = .ok (.aload_n 0, 1) := by decide +kernel
theorem dX8_takes_22 : decode cX8_takes 22 = .ok (.iload_n 3, 1) := by decide +kernel
theorem dX8_takes_23 : decode cX8_takes 23 = .ok (.invokevirtual 130, 3) := by decide +kernel
theorem dX8_takes_26 : decode cX8_takes 26 = .ok (.irem, 1) := by decide +kernel
theorem dX8_takes_27 : decode cX8_takes 27 = .ok (.aload_n 0, 1) := by decide +kernel
theorem dX8_takes_28 : decode cX8_takes 28 = .ok (.iload_n 3, 1) := by decide +kernel
theorem dX8_takes_29 : decode cX8_takes 29 = .ok (.invokevirtual 124, 3) := by decide +kernel
theorem dX8_takes_32 : decode cX8_takes 32 = .ok (.isub, 1) := by decide +kernel
theorem dX8_takes_33 : decode cX8_takes 33 = .ok (.iastore, 1) := by decide +kernel
theorem dX8_takes_34 : decode cX8_takes 34 = .ok (.iload_n 2, 1) := by decide +kernel
theorem dX8_takes_35 : decode cX8_takes 35 = .ok (.aload_n 0, 1) := by decide +kernel
theorem dX8_takes_36 : decode cX8_takes 36 = .ok (.iload_n 3, 1) := by decide +kernel
theorem dX8_takes_37 : decode cX8_takes 37 = .ok (.invokevirtual 130, 3) := by decide +kernel
theorem dX8_takes_40 : decode cX8_takes 40 = .ok (.idiv, 1) := by decide +kernel
theorem dX8_takes_41 : decode cX8_takes 41 = .ok (.istore_n 2, 1) := by decide +kernel
theorem dX8_takes_42 : decode cX8_takes 42 = .ok (.iinc 3 (-1), 3) := by decide +kernel
theorem dX8_takes_45 : decode cX8_takes 45 = .ok (.goto (-34), 3) := by decide +kernel
theorem dX8_takes_48 : decode cX8_takes 48 = .ok (.aload_n 0, 1) := by decide +kernel
theorem dX8_takes_49 : decode cX8_takes 49 = .ok (.invokevirtual 146, 3) := by decide +kernel
theorem dX8_takes_52 : decode cX8_takes 52 = .ok (.return_, 1) := by decide +kernel
theorem dX8_cellX_0 : decode cX8_cellX 0 = .ok (.aload_n 0, 1) := by decide +kernel
theorem dX8_cellX_1 : decode cX8_cellX 1 = .ok (.getfield 32, 3) := by decide +kernel
theorem dX8_cellX_4 : decode cX8_cellX 4 = .ok (.iload_n 1, 1) := by decide +kernel
theorem dX8_cellX_5 : decode cX8_cellX 5 = .ok (.iaload, 1) := by decide +kernel
theorem dX8_cellX_6 : decode cX8_cellX 6 = .ok (.iload_n 2, 1) := by decide +kernel
theorem dX8_cellX_7 : decode cX8_cellX 7 = .ok (.aload_n 0, 1) := by decide +kernel
theorem dX8_cellX_8 : decode cX8_cellX 8 = .ok (.getfield 29, 3) := by decide +kernel
theorem dX8_cellX_11 : decode cX8_cellX 11 = .ok (.iload_n 1, 1) := by decide +kernel
theorem dX8_cellX_12 : decode cX8_cellX 12 = .ok (.iaload, 1) := by decide +kernel
theorem dX8_cellX_13 : decode cX8_cellX 13 = .ok (.invokestatic 140, 3) := by decide +kernel
theorem dX8_cellX_16 : decode cX8_cellX 16 = .ok (.imul, 1) := by decide +kernel
theorem dX8_cellX_17 : decode cX8_cellX 17 = .ok (.iadd, 1) := by decide +kernel
theorem dX8_cellX_18 : decode cX8_cellX 18 = .ok (.ireturn, 1) := by decide +kernel
theorem dX8_cellY_0 : decode cX8_cellY 0 = .ok (.aload_n 0, 1) := by decide +kernel
theorem dX8_cellY_1 : decode cX8_cellY 1 = .ok (.getfield 35, 3) := by decide +kernel
theorem dX8_cellY_4 : decode cX8_cellY 4 = .ok (.iload_n 1, 1) := by decide +kernel
theorem dX8_cellY_5 : decode cX8_cellY 5 = .ok (.iaload, 1) := by decide +kernel
theorem dX8_cellY_6 : decode cX8_cellY 6 = .ok (.iload_n 2, 1) := by decide +kernel
theorem dX8_cellY_7 : decode cX8_cellY 7 = .ok (.aload_n 0, 1) := by decide +kernel
theorem dX8_cellY_8 : decode cX8_cellY 8 = .ok (.getfield 29, 3) := by decide +kernel
theorem dX8_cellY_11 : decode cX8_cellY 11 = .ok (.iload_n 1, 1) := by decide +kernel
theorem dX8_cellY_12 : decode cX8_cellY 12 = .ok (.iaload, 1) := by decide +kernel
theorem dX8_cellY_13 : decode cX8_cellY 13 = .ok (.invokestatic 143, 3) := by decide +kernel
theorem dX8_cellY_16 : decode cX8_cellY 16 = .ok (.imul, 1) := by decide +kernel
theorem dX8_cellY_17 : decode cX8_cellY 17 = .ok (.iadd, 1) := by decide +kernel
theorem dX8_cellY_18 : decode cX8_cellY 18 = .ok (.ireturn, 1) := by decide +kernel
theorem dX8_isOut_0 : decode cX8_isOut 0 = .ok (.aload_n 0, 1) := by decide +kernel
theorem dX8_isOut_1 : decode cX8_isOut 1 = .ok (.getfield 32, 3) := by decide +kernel
theorem dX8_isOut_4 : decode cX8_isOut 4 = .ok (.iload_n 1, 1) := by decide +kernel
theorem dX8_isOut_5 : decode cX8_isOut 5 = .ok (.iaload, 1) := by decide +kernel
theorem dX8_isOut_6 : decode cX8_isOut 6 = .ok (.aload_n 0, 1) := by decide +kernel
theorem dX8_isOut_7 : decode cX8_isOut 7 = .ok (.getfield 35, 3) := by decide +kernel
theorem dX8_isOut_10 : decode cX8_isOut 10 = .ok (.iload_n 1, 1) := by decide +kernel
theorem dX8_isOut_11 : decode cX8_isOut 11 = .ok (.iaload, 1) := by decide +kernel
theorem dX8_isOut_12 : decode cX8_isOut 12 = .ok (.invokestatic 109, 3) := by decide +kernel
theorem dX8_isOut_15 : decode cX8_isOut 15 = .ok (.ifCond .eq 25, 3) := by decide +kernel
theorem dX8_isOut_18 : decode cX8_isOut 18 = .ok (.aload_n 0, 1) := by decide +kernel
theorem dX8_isOut_19 : decode cX8_isOut 19 = .ok (.getfield 32, 3) := by decide +kernel
theorem dX8_isOut_22 : decode cX8_isOut 22 = .ok (.iload_n 1, 1) := by decide +kernel
theorem dX8_isOut_23 : decode cX8_isOut 23 = .ok (.iconst 1, 1) := by decide +kernel
theorem dX8_isOut_24 : decode cX8_isOut 24 = .ok (.iadd, 1) := by decide +kernel
theorem dX8_isOut_25 : decode cX8_isOut 25 = .ok (.iaload, 1) := by decide +kernel
theorem dX8_isOut_26 : decode cX8_isOut 26 = .ok (.aload_n 0, 1) := by decide +kernel
theorem dX8_isOut_27 : decode cX8_isOut 27 = .ok (.getfield 35, 3) := by decide +kernel
theorem dX8_isOut_30 : decode cX8_isOut 30 = .ok (.iload_n 1, 1) := by decide +kernel
theorem dX8_isOut_31 : decode cX8_isOut 31 = .ok (.iconst 1, 1) := by decide +kernel
theorem dX8_isOut_32 : decode cX8_isOut 32 = .ok (.iadd, 1) := by decide +kernel
theorem dX8_isOut_33 : decode cX8_isOut 33 = .ok (.iaload, 1) := by decide +kernel
theorem dX8_isOut_34 : decode cX8_isOut 34 = .ok (.invokestatic 109, 3) := by decide +kernel
theorem dX8_isOut_37 : decode cX8_isOut 37 = .ok (.ifCond .ne 7, 3) := by decide +kernel
theorem dX8_isOut_40 : decode cX8_isOut 40 = .ok (.iconst 1, 1) := by decide +kernel
theorem dX8_isOut_41 : decode cX8_isOut 41 = .ok (.goto 4, 3) := by decide +kernel
theorem dX8_isOut_44 : decode cX8_isOut 44 = .ok (.iconst 0, 1) := by decide +kernel
theorem dX8_isOut_45 : decode cX8_isOut 45 = .ok (.ireturn, 1) := by decide +kernel
theorem dX8_hits_0 : decode cX8_hits 0 = .ok (.iconst 0, 1) := by decide +kernel
theorem dX8_hits_1 : decode cX8_hits 1 = .ok (.istore_n 2, 1) := by decide +kernel
theorem dX8_hits_2 : decode cX8_hits 2 = .ok (.iload_n 2, 1) := by decide +kernel
theorem dX8_hits_3 : decode cX8_hits 3 = .ok (.aload_n 0, 1) := by decide +kernel
theorem dX8_hits_4 : decode cX8_hits 4 = .ok (.iload_n 1, 1) := by decide +kernel
theorem dX8_hits_5 : decode cX8_hits 5 = .ok (.invokevirtual 137, 3) := by decide +kernel
theorem dX8_hits_8 : decode cX8_hits 8 = .ok (.if_icmp .gt 30, 3) := by decide +kernel
theorem dX8_hits_11 : decode cX8_hits 11 = .ok (.aload_n 0, 1) := by decide +kernel
theorem dX8_hits_12 : decode cX8_hits 12 = .ok (.aload_n 0, 1) := by decide +kernel
theorem dX8_hits_13 : decode cX8_hits 13 = .ok (.iload_n 1, 1) := by decide +kernel
theorem dX8_hits_14 : decode cX8_hits 14 = .ok (.iload_n 2, 1) := by decide +kernel
theorem dX8_hits_15 : decode cX8_hits 15 = .ok (.invokevirtual 149, 3) := by decide +kernel
theorem dX8_hits_18 : decode cX8_hits 18 = .ok (.aload_n 0, 1) := by decide +kernel
theorem dX8_hits_19 : decode cX8_hits 19 = .ok (.iload_n 1, 1) := by decide +kernel
theorem dX8_hits_20 : decode cX8_hits 20 = .ok (.iload_n 2, 1) := by decide +kernel
theorem dX8_hits_21 : decode cX8_hits 21 = .ok (.invokevirtual 152, 3) := by decide +kernel
theorem dX8_hits_24 : decode cX8_hits 24 = .ok (.invokevirtual 113, 3) := by decide +kernel
theorem dX8_hits_27 : decode cX8_hits 27 = .ok (.ifCond .lt 5, 3) := by decide +kernel
theorem dX8_hits_30 : decode cX8_hits 30 = .ok (.iconst 1, 1) := by decide +kernel
theorem dX8_hits_31 : decode cX8_hits 31 = .ok (.ireturn, 1) := by decide +kernel
theorem dX8_hits_32 : decode cX8_hits 32 = .ok (.iinc 2 1, 3) := by decide +kernel
theorem dX8_hits_35 : decode cX8_hits 35 = .ok (.goto (-33), 3) := by decide +kernel
theorem dX8_hits_38 : decode cX8_hits 38 = .ok (.iconst 0, 1) := by decide +kernel
theorem dX8_hits_39 : decode cX8_hits 39 = .ok (.ireturn, 1) := by decide +kernel
theorem dX8_isJointOf_0 : decode cX8_isJointOf 0 = .ok (.iload_n 2, 1) := by decide +kernel
theorem dX8_isJointOf_1 : decode cX8_isJointOf 1 = .ok (.iload_n 1, 1) := by decide +kernel
theorem dX8_isJointOf_2 : decode cX8_isJointOf 2 = .ok (.iconst 1, 1) := by decide +kernel
theorem dX8_isJointOf_3 : decode cX8_isJointOf 3 = .ok (.iadd, 1) := by decide +kernel
theorem dX8_isJointOf_4 : decode cX8_isJointOf 4 = .ok (.if_icmp .ne 28, 3) := by decide +kernel
theorem dX8_isJointOf_7 : decode cX8_isJointOf 7 = .ok (.aload_n 0, 1) := by decide +kernel
theorem dX8_isJointOf_8 : decode cX8_isJointOf 8 = .ok (.getfield 32, 3) := by decide +kernel
theorem dX8_isJointOf_11 : decode cX8_isJointOf 11 = .ok (.iload_n 2, 1) := by decide +kernel
theorem dX8_isJointOf_12 : decode cX8_isJointOf 12 = .ok (.iaload, 1) := by decide +kernel
theorem dX8_isJointOf_13 : decode cX8_isJointOf 13 = .ok (.iload_n 3, 1) := by decide +kernel
theorem dX8_isJointOf_14 : decode cX8_isJointOf 14 = .ok (.if_icmp .ne 18, 3) := by decide +kernel
theorem dX8_isJointOf_17 : decode cX8_isJointOf 17 = .ok (.aload_n 0, 1) := by decide +kernel
theorem dX8_isJointOf_18 : decode cX8_isJointOf 18 = .ok (.getfield 35, 3) := by decide +kernel
theorem dX8_isJointOf_21 : decode cX8_isJointOf 21 = .ok (.iload_n 2, 1) := by decide +kernel
theorem dX8_isJointOf_22 : decode cX8_isJointOf 22 = .ok (.iaload, 1) := by decide +kernel
theorem dX8_isJointOf_23 : decode cX8_isJointOf 23 = .ok (.iload 4, 2) := by decide +kernel
theorem dX8_isJointOf_25 : decode cX8_isJointOf 25 = .ok (.if_icmp .ne 7, 3) := by decide +kernel
theorem dX8_isJointOf_28 : decode cX8_isJointOf 28 = .ok (.iconst 1, 1) := by decide +kernel
theorem dX8_isJointOf_29 : decode cX8_isJointOf 29 = .ok (.goto 4, 3) := by decide +kernel
theorem dX8_isJointOf_32 : decode cX8_isJointOf 32 = .ok (.iconst 0, 1) := by decide +kernel
theorem dX8_isJointOf_33 : decode cX8_isJointOf 33 = .ok (.ireturn, 1) := by decide +kernel
theorem dX8_has_0 : decode cX8_has 0 = .ok (.iconst 0, 1) := by decide +kernel
theorem dX8_has_1 : decode cX8_has 1 = .ok (.istore 4, 2) := by decide +kernel
theorem dX8_has_3 : decode cX8_has 3 = .ok (.iload 4, 2) := by decide +kernel
theorem dX8_has_5 : decode cX8_has 5 = .ok (.aload_n 0, 1) := by decide +kernel
theorem dX8_has_6 : decode cX8_has 6 = .ok (.iload_n 1, 1) := by decide +kernel
theorem dX8_has_7 : decode cX8_has 7 = .ok (.invokevirtual 137, 3) := by decide +kernel
theorem dX8_has_10 : decode cX8_has 10 = .ok (.if_icmp .gt 33, 3) := by decide +kernel
theorem dX8_has_13 : decode cX8_has 13 = .ok (.aload_n 0, 1) := by decide +kernel
theorem dX8_has_14 : decode cX8_has 14 = .ok (.iload_n 1, 1) := by decide +kernel
theorem dX8_has_15 : decode cX8_has 15 = .ok (.iload 4, 2) := by decide +kernel
theorem dX8_has_17 : decode cX8_has 17 = .ok (.invokevirtual 149, 3) := by decide +kernel
theorem dX8_has_20 : decode cX8_has 20 = .ok (.iload_n 2, 1) := by decide +kernel
theorem dX8_has_21 : decode cX8_has 21 = .ok (.if_icmp .ne 16, 3) := by decide +kernel
theorem dX8_has_24 : decode cX8_has 24 = .ok (.aload_n 0, 1) := by decide +kernel
theorem dX8_has_25 : decode cX8_has 25 = .ok (.iload_n 1, 1) := by decide +kernel
theorem dX8_has_26 : decode cX8_has 26 = .ok (.iload 4, 2) := by decide +kernel
theorem dX8_has_28 : decode cX8_has 28 = .ok (.invokevirtual 152, 3) := by decide +kernel
theorem dX8_has_31 : decode cX8_has 31 = .ok (.iload_n 3, 1) := by decide +kernel
theorem dX8_has_32 : decode cX8_has 32 = .ok (.if_icmp .ne 5, 3) := by decide +kernel
theorem dX8_has_35 : decode cX8_has 35 = .ok (.iconst 1, 1) := by decide +kernel
theorem dX8_has_36 : decode cX8_has 36 = .ok (.ireturn, 1) := by decide +kernel
theorem dX8_has_37 : decode cX8_has 37 = .ok (.iinc 4 1, 3) := by decide +kernel
theorem dX8_has_40 : decode cX8_has 40 = .ok (.goto (-37), 3) := by decide +kernel
theorem dX8_has_43 : decode cX8_has 43 = .ok (.iconst 0, 1) := by decide +kernel
theorem dX8_has_44 : decode cX8_has 44 = .ok (.ireturn, 1) := by decide +kernel
theorem dX8_crosses_0 : decode cX8_crosses 0 = .ok (.iconst 0, 1) := by decide +kernel
theorem dX8_crosses_1 : decode cX8_crosses 1 = .ok (.istore_n 2, 1) := by decide +kernel
theorem dX8_crosses_2 : decode cX8_crosses 2 = .ok (.iload_n 2, 1) := by decide +kernel
theorem dX8_crosses_3 : decode cX8_crosses 3 = .ok (.iload_n 1, 1) := by decide +kernel
theorem dX8_crosses_4 : decode cX8_crosses 4 = .ok (.if_icmp .ge 69, 3) := by decide +kernel
theorem dX8_crosses_7 : decode cX8_crosses 7 = .ok (.iconst 0, 1) := by decide +kernel
theorem dX8_crosses_8 : decode cX8_crosses 8 = .ok (.istore_n 3, 1) := by decide +kernel
theorem dX8_crosses_9 : decode cX8_crosses 9 = .ok (.iload_n 3, 1) := by decide +kernel
theorem dX8_crosses_10 : decode cX8_crosses 10 = .ok (.aload_n 0, 1) := by decide +kernel
theorem dX8_crosses_11 : decode cX8_crosses 11 = .ok (.iload_n 1, 1) := by decide +kernel
theorem dX8_crosses_12 : decode cX8_crosses 12 = .ok (.invokevirtual 137, 3) := by decide +kernel
theorem dX8_crosses_15 : decode cX8_crosses 15 = .ok (.if_icmp .gt 52, 3) := by decide +kernel
theorem dX8_crosses_18 : decode cX8_crosses 18 = .ok (.aload_n 0, 1) := by decide +kernel
theorem dX8_crosses_19 : decode cX8_crosses 19 = .ok (.iload_n 1, 1) := by decide +kernel
theorem dX8_crosses_20 : decode cX8_crosses 20 = .ok (.iload_n 3, 1) := by decide +kernel
theorem dX8_crosses_21 : decode cX8_crosses 21 = .ok (.invokevirtual 149, 3) := by decide +kernel
theorem dX8_crosses_24 : decode cX8_crosses 24 = .ok (.istore 4, 2) := by decide +kernel
theorem dX8_crosses_26 : decode cX8_crosses 26 = .ok (.aload_n 0, 1) := by decide +kernel
theorem dX8_crosses_27 : decode cX8_crosses 27 = .ok (.iload_n 1, 1) := by decide +kernel
theorem dX8_crosses_28 : decode cX8_crosses 28 = .ok (.iload_n 3, 1) := by decide +kernel
theorem dX8_crosses_29 : decode cX8_crosses 29 = .ok (.invokevirtual 152, 3) := by decide +kernel
theorem dX8_crosses_32 : decode cX8_crosses 32 = .ok (.istore 5, 2) := by decide +kernel
theorem dX8_crosses_34 : decode cX8_crosses 34 = .ok (.aload_n 0, 1) := by decide +kernel
theorem dX8_crosses_35 : decode cX8_crosses 35 = .ok (.iload_n 2, 1) := by decide +kernel
theorem dX8_crosses_36 : decode cX8_crosses 36 = .ok (.iload 4, 2) := by decide +kernel
theorem dX8_crosses_38 : decode cX8_crosses 38 = .ok (.iload 5, 2) := by decide +kernel
theorem dX8_crosses_40 : decode cX8_crosses 40 = .ok (.invokevirtual 155, 3) := by decide +kernel
theorem dX8_crosses_43 : decode cX8_crosses 43 = .ok (.ifCond .eq 18, 3) := by decide +kernel
theorem dX8_crosses_46 : decode cX8_crosses 46 = .ok (.aload_n 0, 1) := by decide +kernel
theorem dX8_crosses_47 : decode cX8_crosses 47 = .ok (.iload_n 2, 1) := by decide +kernel
theorem dX8_crosses_48 : decode cX8_crosses 48 = .ok (.iload_n 1, 1) := by decide +kernel
theorem dX8_crosses_49 : decode cX8_crosses 49 = .ok (.iload 4, 2) := by decide +kernel
theorem dX8_crosses_51 : decode cX8_crosses 51 = .ok (.iload 5, 2) := by decide +kernel
theorem dX8_crosses_53 : decode cX8_crosses 53 = .ok (.invokevirtual 158, 3) := by decide +kernel
theorem dX8_crosses_56 : decode cX8_crosses 56 = .ok (.ifCond .ne 5, 3) := by decide +kernel
theorem dX8_crosses_59 : decode cX8_crosses 59 = .ok (.iconst 1, 1) := by decide +kernel
theorem dX8_crosses_60 : decode cX8_crosses 60 = .ok (.ireturn, 1) := by decide +kernel
theorem dX8_crosses_61 : decode cX8_crosses 61 = .ok (.iinc 3 1, 3) := by decide +kernel
theorem dX8_crosses_64 : decode cX8_crosses 64 = .ok (.goto (-55), 3) := by decide +kernel
theorem dX8_crosses_67 : decode cX8_crosses 67 = .ok (.iinc 2 1, 3) := by decide +kernel
theorem dX8_crosses_70 : decode cX8_crosses 70 = .ok (.goto (-68), 3) := by decide +kernel
theorem dX8_crosses_73 : decode cX8_crosses 73 = .ok (.iconst 0, 1) := by decide +kernel
theorem dX8_crosses_74 : decode cX8_crosses 74 = .ok (.ireturn, 1) := by decide +kernel
theorem dX8_faultHere_0 : decode cX8_faultHere 0 = .ok (.iconst 1, 1) := by decide +kernel
theorem dX8_faultHere_1 : decode cX8_faultHere 1 = .ok (.istore_n 1, 1) := by decide +kernel
theorem dX8_faultHere_2 : decode cX8_faultHere 2 = .ok (.iload_n 1, 1) := by decide +kernel
theorem dX8_faultHere_3 : decode cX8_faultHere 3 = .ok (.iconst 3, 1) := by decide +kernel
theorem dX8_faultHere_4 : decode cX8_faultHere 4 = .ok (.if_icmp .gt 74, 3) := by decide +kernel
theorem dX8_faultHere_7 : decode cX8_faultHere 7 = .ok (.iconst 0, 1) := by decide +kernel
theorem dX8_faultHere_8 : decode cX8_faultHere 8 = .ok (.istore_n 2, 1) := by decide +kernel
theorem dX8_faultHere_9 : decode cX8_faultHere 9 = .ok (.iload_n 2, 1) := by decide +kernel
theorem dX8_faultHere_10 : decode cX8_faultHere 10 = .ok (.aload_n 0, 1) := by decide +kernel
theorem dX8_faultHere_11 : decode cX8_faultHere 11 = .ok (.getfield 7, 3) := by decide +kernel
theorem dX8_faultHere_14 : decode cX8_faultHere 14 = .ok (.iconst 0, 1) := by decide +kernel
theorem dX8_faultHere_15 : decode cX8_faultHere 15 = .ok (.iaload, 1) := by decide +kernel
theorem dX8_faultHere_16 : decode cX8_faultHere 16 = .ok (.if_icmp .ge 56, 3) := by decide +kernel
theorem dX8_faultHere_19 : decode cX8_faultHere 19 = .ok (.iload_n 1, 1) := by decide +kernel
theorem dX8_faultHere_20 : decode cX8_faultHere 20 = .ok (.iconst 1, 1) := by decide +kernel
theorem dX8_faultHere_21 : decode cX8_faultHere 21 = .ok (.if_icmp .ne 14, 3) := by decide +kernel
theorem dX8_faultHere_24 : decode cX8_faultHere 24 = .ok (.aload_n 0, 1) := by decide +kernel
theorem dX8_faultHere_25 : decode cX8_faultHere 25 = .ok (.iload_n 2, 1) := by decide +kernel
theorem dX8_faultHere_26 : decode cX8_faultHere 26 = .ok (.invokevirtual 162, 3) := by decide +kernel
theorem dX8_faultHere_29 : decode cX8_faultHere 29 = .ok (.ifCond .eq 37, 3) := by decide +kernel
theorem dX8_faultHere_32 : decode cX8_faultHere 32 = .ok (.goto 27, 3) := by decide +kernel
theorem dX8_faultHere_35 : decode cX8_faultHere 35 = .ok (.iload_n 1, 1) := by decide +kernel
theorem dX8_faultHere_36 : decode cX8_faultHere 36 = .ok (.iconst 2, 1) := by decide +kernel
theorem dX8_faultHere_37 : decode cX8_faultHere 37 = .ok (.if_icmp .ne 14, 3) := by decide +kernel
theorem dX8_faultHere_40 : decode cX8_faultHere 40 = .ok (.aload_n 0, 1) := by decide +kernel
theorem dX8_faultHere_41 : decode cX8_faultHere 41 = .ok (.iload_n 2, 1) := by decide +kernel
theorem dX8_faultHere_42 : decode cX8_faultHere 42 = .ok (.invokevirtual 165, 3) := by decide +kernel
theorem dX8_faultHere_45 : decode cX8_faultHere 45 = .ok (.ifCond .eq 21, 3) := by decide +kernel
theorem dX8_faultHere_48 : decode cX8_faultHere 48 = .ok (.goto 11, 3) := by decide +kernel
theorem dX8_faultHere_51 : decode cX8_faultHere 51 = .ok (.aload_n 0, 1) := by decide +kernel
theorem dX8_faultHere_52 : decode cX8_faultHere 52 = .ok (.iload_n 2, 1) := by decide +kernel
theorem dX8_faultHere_53 : decode cX8_faultHere 53 = .ok (.invokevirtual 168, 3) := by decide +kernel
theorem dX8_faultHere_56 : decode cX8_faultHere 56 = .ok (.ifCond .eq 10, 3) := by decide +kernel
theorem dX8_faultHere_59 : decode cX8_faultHere 59 = .ok (.aload_n 0, 1) := by decide +kernel
theorem dX8_faultHere_60 : decode cX8_faultHere 60 = .ok (.iload_n 2, 1) := by decide +kernel
theorem dX8_faultHere_61 : decode cX8_faultHere 61 = .ok (.putfield 171, 3) := by decide +kernel
theorem dX8_faultHere_64 : decode cX8_faultHere 64 = .ok (.iload_n 1, 1) := by decide +kernel
theorem dX8_faultHere_65 : decode cX8_faultHere 65 = .ok (.ireturn, 1) := by decide +kernel
theorem dX8_faultHere_66 : decode cX8_faultHere 66 = .ok (.iinc 2 1, 3) := by decide +kernel
theorem dX8_faultHere_69 : decode cX8_faultHere 69 = .ok (.goto (-60), 3) := by decide +kernel
theorem dX8_faultHere_72 : decode cX8_faultHere 72 = .ok (.iinc 1 1, 3) := by decide +kernel
theorem dX8_faultHere_75 : decode cX8_faultHere 75 = .ok (.goto (-73), 3) := by decide +kernel
theorem dX8_faultHere_78 : decode cX8_faultHere 78 = .ok (.iconst 0, 1) := by decide +kernel
theorem dX8_faultHere_79 : decode cX8_faultHere 79 = .ok (.ireturn, 1) := by decide +kernel
theorem dX8_isFree_0 : decode cX8_isFree 0 = .ok (.aload_n 0, 1) := by decide +kernel
theorem dX8_isFree_1 : decode cX8_isFree 1 = .ok (.iload_n 1, 1) := by decide +kernel
theorem dX8_isFree_2 : decode cX8_isFree 2 = .ok (.invokevirtual 174, 3) := by decide +kernel
theorem dX8_isFree_5 : decode cX8_isFree 5 = .ok (.aload_n 0, 1) := by decide +kernel
theorem dX8_isFree_6 : decode cX8_isFree 6 = .ok (.invokevirtual 178, 3) := by decide +kernel
theorem dX8_isFree_9 : decode cX8_isFree 9 = .ok (.ifCond .ne 7, 3) := by decide +kernel
theorem dX8_isFree_12 : decode cX8_isFree 12 = .ok (.iconst 1, 1) := by decide +kernel
theorem dX8_isFree_13 : decode cX8_isFree 13 = .ok (.goto 4, 3) := by decide +kernel
theorem dX8_isFree_16 : decode cX8_isFree 16 = .ok (.iconst 0, 1) := by decide +kernel
theorem dX8_isFree_17 : decode cX8_isFree 17 = .ok (.ireturn, 1) := by decide +kernel
theorem dX8_isFreeNow_0 : decode cX8_isFreeNow 0 = .ok (.aload_n 0, 1) := by decide +kernel
theorem dX8_isFreeNow_1 : decode cX8_isFreeNow 1 = .ok (.aload_n 0, 1) := by decide +kernel
theorem dX8_isFreeNow_2 : decode cX8_isFreeNow 2 = .ok (.invokevirtual 181, 3) := by decide +kernel
theorem dX8_isFreeNow_5 : decode cX8_isFreeNow 5 = .ok (.invokevirtual 184, 3) := by decide +kernel
theorem dX8_isFreeNow_8 : decode cX8_isFreeNow 8 = .ok (.ireturn, 1) := by decide +kernel
theorem dX8_jointTold_0 : decode cX8_jointTold 0 = .ok (.iload_n 2, 1) := by decide +kernel
theorem dX8_jointTold_1 : decode cX8_jointTold 1 = .ok (.tableswitch 90 0 6 #[43, 50, 57, 63, 69, 76, 83], 43) := by decide +kernel
theorem dX8_jointTold_44 : decode cX8_jointTold 44 = .ok (.aload_n 0, 1) := by decide +kernel
theorem dX8_jointTold_45 : decode cX8_jointTold 45 = .ok (.getfield 26, 3) := by decide +kernel
theorem dX8_jointTold_48 : decode cX8_jointTold 48 = .ok (.iload_n 1, 1) := by decide +kernel
theorem dX8_jointTold_49 : decode cX8_jointTold 49 = .ok (.iaload, 1) := by decide +kernel
theorem dX8_jointTold_50 : decode cX8_jointTold 50 = .ok (.ireturn, 1) := by decide +kernel
theorem dX8_jointTold_51 : decode cX8_jointTold 51 = .ok (.aload_n 0, 1) := by decide +kernel
theorem dX8_jointTold_52 : decode cX8_jointTold 52 = .ok (.iload_n 1, 1) := by decide +kernel
theorem dX8_jointTold_53 : decode cX8_jointTold 53 = .ok (.invokevirtual 124, 3) := by decide +kernel
theorem dX8_jointTold_56 : decode cX8_jointTold 56 = .ok (.ineg, 1) := by decide +kernel
theorem dX8_jointTold_57 : decode cX8_jointTold 57 = .ok (.ireturn, 1) := by decide +kernel
theorem dX8_jointTold_58 : decode cX8_jointTold 58 = .ok (.aload_n 0, 1) := by decide +kernel
theorem dX8_jointTold_59 : decode cX8_jointTold 59 = .ok (.iload_n 1, 1) := by decide +kernel
theorem dX8_jointTold_60 : decode cX8_jointTold 60 = .ok (.invokevirtual 127, 3) := by decide +kernel
theorem dX8_jointTold_63 : decode cX8_jointTold 63 = .ok (.ireturn, 1) := by decide +kernel
theorem dX8_jointTold_64 : decode cX8_jointTold 64 = .ok (.aload_n 0, 1) := by decide +kernel
theorem dX8_jointTold_65 : decode cX8_jointTold 65 = .ok (.iload_n 1, 1) := by decide +kernel
theorem dX8_jointTold_66 : decode cX8_jointTold 66 = .ok (.invokevirtual 137, 3) := by decide +kernel
theorem dX8_jointTold_69 : decode cX8_jointTold 69 = .ok (.ireturn, 1) := by decide +kernel
theorem dX8_jointTold_70 : decode cX8_jointTold 70 = .ok (.aload_n 0, 1) := by decide +kernel
theorem dX8_jointTold_71 : decode cX8_jointTold 71 = .ok (.getfield 29, 3) := by decide +kernel
theorem dX8_jointTold_74 : decode cX8_jointTold 74 = .ok (.iload_n 1, 1) := by decide +kernel
theorem dX8_jointTold_75 : decode cX8_jointTold 75 = .ok (.iaload, 1) := by decide +kernel
theorem dX8_jointTold_76 : decode cX8_jointTold 76 = .ok (.ireturn, 1) := by decide +kernel
theorem dX8_jointTold_77 : decode cX8_jointTold 77 = .ok (.aload_n 0, 1) := by decide +kernel
theorem dX8_jointTold_78 : decode cX8_jointTold 78 = .ok (.getfield 32, 3) := by decide +kernel
theorem dX8_jointTold_81 : decode cX8_jointTold 81 = .ok (.iload_n 1, 1) := by decide +kernel
theorem dX8_jointTold_82 : decode cX8_jointTold 82 = .ok (.iaload, 1) := by decide +kernel
theorem dX8_jointTold_83 : decode cX8_jointTold 83 = .ok (.ireturn, 1) := by decide +kernel
theorem dX8_jointTold_84 : decode cX8_jointTold 84 = .ok (.aload_n 0, 1) := by decide +kernel
theorem dX8_jointTold_85 : decode cX8_jointTold 85 = .ok (.getfield 35, 3) := by decide +kernel
theorem dX8_jointTold_88 : decode cX8_jointTold 88 = .ok (.iload_n 1, 1) := by decide +kernel
theorem dX8_jointTold_89 : decode cX8_jointTold 89 = .ok (.iaload, 1) := by decide +kernel
theorem dX8_jointTold_90 : decode cX8_jointTold 90 = .ok (.ireturn, 1) := by decide +kernel
theorem dX8_jointTold_91 : decode cX8_jointTold 91 = .ok (.aload_n 0, 1) := by decide +kernel
theorem dX8_jointTold_92 : decode cX8_jointTold 92 = .ok (.getfield 26, 3) := by decide +kernel
theorem dX8_jointTold_95 : decode cX8_jointTold 95 = .ok (.iload_n 1, 1) := by decide +kernel
theorem dX8_jointTold_96 : decode cX8_jointTold 96 = .ok (.iaload, 1) := by decide +kernel
theorem dX8_jointTold_97 : decode cX8_jointTold 97 = .ok (.bipush 7, 2) := by decide +kernel
theorem dX8_jointTold_99 : decode cX8_jointTold 99 = .ok (.iand, 1) := by decide +kernel
theorem dX8_jointTold_100 : decode cX8_jointTold 100 = .ok (.ireturn, 1) := by decide +kernel
theorem dX8_joint_0 : decode cX8_joint 0 = .ok (.aload_n 0, 1) := by decide +kernel
theorem dX8_joint_1 : decode cX8_joint 1 = .ok (.aload_n 0, 1) := by decide +kernel
theorem dX8_joint_2 : decode cX8_joint 2 = .ok (.iload_n 1, 1) := by decide +kernel
theorem dX8_joint_3 : decode cX8_joint 3 = .ok (.invokevirtual 105, 3) := by decide +kernel
theorem dX8_joint_6 : decode cX8_joint 6 = .ok (.ifCond .eq 21, 3) := by decide +kernel
theorem dX8_joint_9 : decode cX8_joint 9 = .ok (.iload_n 2, 1) := by decide +kernel
theorem dX8_joint_10 : decode cX8_joint 10 = .ok (.iconst 0, 1) := by decide +kernel
theorem dX8_joint_11 : decode cX8_joint 11 = .ok (.bipush 7, 2) := by decide +kernel
theorem dX8_joint_13 : decode cX8_joint 13 = .ok (.invokestatic 79, 3) := by decide +kernel
theorem dX8_joint_16 : decode cX8_joint 16 = .ok (.ifCond .eq 7, 3) := by decide +kernel
theorem dX8_joint_19 : decode cX8_joint 19 = .ok (.iconst 0, 1) := by decide +kernel
theorem dX8_joint_20 : decode cX8_joint 20 = .ok (.goto 8, 3) := by decide +kernel
theorem dX8_joint_23 : decode cX8_joint 23 = .ok (.iconst 2, 1) := by decide +kernel
theorem dX8_joint_24 : decode cX8_joint 24 = .ok (.goto 4, 3) := by decide +kernel
theorem dX8_joint_27 : decode cX8_joint 27 = .ok (.iconst 1, 1) := by decide +kernel
theorem dX8_joint_28 : decode cX8_joint 28 = .ok (.putfield 76, 3) := by decide +kernel
theorem dX8_joint_31 : decode cX8_joint 31 = .ok (.aload_n 0, 1) := by decide +kernel
theorem dX8_joint_32 : decode cX8_joint 32 = .ok (.getfield 76, 3) := by decide +kernel
theorem dX8_joint_35 : decode cX8_joint 35 = .ok (.ifCond .le 5, 3) := by decide +kernel
theorem dX8_joint_38 : decode cX8_joint 38 = .ok (.iconst 0, 1) := by decide +kernel
theorem dX8_joint_39 : decode cX8_joint 39 = .ok (.ireturn, 1) := by decide +kernel
theorem dX8_joint_40 : decode cX8_joint 40 = .ok (.aload_n 0, 1) := by decide +kernel
theorem dX8_joint_41 : decode cX8_joint 41 = .ok (.invokevirtual 187, 3) := by decide +kernel
theorem dX8_joint_44 : decode cX8_joint 44 = .ok (.aload_n 0, 1) := by decide +kernel
theorem dX8_joint_45 : decode cX8_joint 45 = .ok (.iload_n 1, 1) := by decide +kernel
theorem dX8_joint_46 : decode cX8_joint 46 = .ok (.iload_n 2, 1) := by decide +kernel
theorem dX8_joint_47 : decode cX8_joint 47 = .ok (.invokevirtual 190, 3) := by decide +kernel
theorem dX8_joint_50 : decode cX8_joint 50 = .ok (.ireturn, 1) := by decide +kernel
theorem dX8_isObstacle_0 : decode cX8_isObstacle 0 = .ok (.aload_n 0, 1) := by decide +kernel
theorem dX8_isObstacle_1 : decode cX8_isObstacle 1 = .ok (.iload_n 1, 1) := by decide +kernel
theorem dX8_isObstacle_2 : decode cX8_isObstacle 2 = .ok (.iload_n 2, 1) := by decide +kernel
theorem dX8_isObstacle_3 : decode cX8_isObstacle 3 = .ok (.invokestatic 109, 3) := by decide +kernel
theorem dX8_isObstacle_6 : decode cX8_isObstacle 6 = .ok (.ifCond .eq 7, 3) := by decide +kernel
theorem dX8_isObstacle_9 : decode cX8_isObstacle 9 = .ok (.iconst 0, 1) := by decide +kernel
theorem dX8_isObstacle_10 : decode cX8_isObstacle 10 = .ok (.goto 4, 3) := by decide +kernel
theorem dX8_isObstacle_13 : decode cX8_isObstacle 13 = .ok (.iconst 1, 1) := by decide +kernel
theorem dX8_isObstacle_14 : decode cX8_isObstacle 14 = .ok (.putfield 76, 3) := by decide +kernel
theorem dX8_isObstacle_17 : decode cX8_isObstacle 17 = .ok (.aload_n 0, 1) := by decide +kernel
theorem dX8_isObstacle_18 : decode cX8_isObstacle 18 = .ok (.getfield 76, 3) := by decide +kernel
theorem dX8_isObstacle_21 : decode cX8_isObstacle 21 = .ok (.ifCond .ne 16, 3) := by decide +kernel
theorem dX8_isObstacle_24 : decode cX8_isObstacle 24 = .ok (.aload_n 0, 1) := by decide +kernel
theorem dX8_isObstacle_25 : decode cX8_isObstacle 25 = .ok (.iload_n 1, 1) := by decide +kernel
theorem dX8_isObstacle_26 : decode cX8_isObstacle 26 = .ok (.iload_n 2, 1) := by decide +kernel
theorem dX8_isObstacle_27 : decode cX8_isObstacle 27 = .ok (.invokevirtual 113, 3) := by decide +kernel
theorem dX8_isObstacle_30 : decode cX8_isObstacle 30 = .ok (.ifCond .lt 7, 3) := by decide +kernel
theorem dX8_isObstacle_33 : decode cX8_isObstacle 33 = .ok (.iconst 1, 1) := by decide +kernel
theorem dX8_isObstacle_34 : decode cX8_isObstacle 34 = .ok (.goto 4, 3) := by decide +kernel
theorem dX8_isObstacle_37 : decode cX8_isObstacle 37 = .ok (.iconst 0, 1) := by decide +kernel
theorem dX8_isObstacle_38 : decode cX8_isObstacle 38 = .ok (.ireturn, 1) := by decide +kernel
theorem dX8_obstacle_0 : decode cX8_obstacle 0 = .ok (.aload_n 0, 1) := by decide +kernel
theorem dX8_obstacle_1 : decode cX8_obstacle 1 = .ok (.iload_n 1, 1) := by decide +kernel
theorem dX8_obstacle_2 : decode cX8_obstacle 2 = .ok (.iconst 0, 1) := by decide +kernel
theorem dX8_obstacle_3 : decode cX8_obstacle 3 = .ok (.aload_n 0, 1) := by decide +kernel
theorem dX8_obstacle_4 : decode cX8_obstacle 4 = .ok (.getfield 7, 3) := by decide +kernel
theorem dX8_obstacle_7 : decode cX8_obstacle 7 = .ok (.bipush 20, 2) := by decide +kernel
theorem dX8_obstacle_9 : decode cX8_obstacle 9 = .ok (.iaload, 1) := by decide +kernel
theorem dX8_obstacle_10 : decode cX8_obstacle 10 = .ok (.iconst 1, 1) := by decide +kernel
theorem dX8_obstacle_11 : decode cX8_obstacle 11 = .ok (.isub, 1) := by decide +kernel
theorem dX8_obstacle_12 : decode cX8_obstacle 12 = .ok (.invokestatic 79, 3) := by decide +kernel
theorem dX8_obstacle_15 : decode cX8_obstacle 15 = .ok (.ifCond .eq 7, 3) := by decide +kernel
theorem dX8_obstacle_18 : decode cX8_obstacle 18 = .ok (.iconst 0, 1) := by decide +kernel
theorem dX8_obstacle_19 : decode cX8_obstacle 19 = .ok (.goto 4, 3) := by decide +kernel
theorem dX8_obstacle_22 : decode cX8_obstacle 22 = .ok (.iconst 1, 1) := by decide +kernel
theorem dX8_obstacle_23 : decode cX8_obstacle 23 = .ok (.putfield 76, 3) := by decide +kernel
theorem dX8_obstacle_26 : decode cX8_obstacle 26 = .ok (.aload_n 0, 1) := by decide +kernel
theorem dX8_obstacle_27 : decode cX8_obstacle 27 = .ok (.getfield 76, 3) := by decide +kernel
theorem dX8_obstacle_30 : decode cX8_obstacle 30 = .ok (.ifCond .le 7, 3) := by decide +kernel
theorem dX8_obstacle_33 : decode cX8_obstacle 33 = .ok (.iconst 0, 1) := by decide +kernel
theorem dX8_obstacle_34 : decode cX8_obstacle 34 = .ok (.goto 24, 3) := by decide +kernel
theorem dX8_obstacle_37 : decode cX8_obstacle 37 = .ok (.aload_n 0, 1) := by decide +kernel
theorem dX8_obstacle_38 : decode cX8_obstacle 38 = .ok (.getfield 7, 3) := by decide +kernel
theorem dX8_obstacle_41 : decode cX8_obstacle 41 = .ok (.bipush 21, 2) := by decide +kernel
theorem dX8_obstacle_43 : decode cX8_obstacle 43 = .ok (.iconst 2, 1) := by decide +kernel
theorem dX8_obstacle_44 : decode cX8_obstacle 44 = .ok (.iload_n 1, 1) := by decide +kernel
theorem dX8_obstacle_45 : decode cX8_obstacle 45 = .ok (.imul, 1) := by decide +kernel
theorem dX8_obstacle_46 : decode cX8_obstacle 46 = .ok (.iadd, 1) := by decide +kernel
theorem dX8_obstacle_47 : decode cX8_obstacle 47 = .ok (.iload_n 2, 1) := by decide +kernel
theorem dX8_obstacle_48 : decode cX8_obstacle 48 = .ok (.ifCond .eq 7, 3) := by decide +kernel
theorem dX8_obstacle_51 : decode cX8_obstacle 51 = .ok (.iconst 1, 1) := by decide +kernel
theorem dX8_obstacle_52 : decode cX8_obstacle 52 = .ok (.goto 4, 3) := by decide +kernel
theorem dX8_obstacle_55 : decode cX8_obstacle 55 = .ok (.iconst 0, 1) := by decide +kernel
theorem dX8_obstacle_56 : decode cX8_obstacle 56 = .ok (.iadd, 1) := by decide +kernel
theorem dX8_obstacle_57 : decode cX8_obstacle 57 = .ok (.iaload, 1) := by decide +kernel
theorem dX8_obstacle_58 : decode cX8_obstacle 58 = .ok (.ireturn, 1) := by decide +kernel
theorem dX8_setValue_0 : decode cX8_setValue 0 = .ok (.aload_n 0, 1) := by decide +kernel
theorem dX8_setValue_1 : decode cX8_setValue 1 = .ok (.aload_n 0, 1) := by decide +kernel
theorem dX8_setValue_2 : decode cX8_setValue 2 = .ok (.iload_n 1, 1) := by decide +kernel
theorem dX8_setValue_3 : decode cX8_setValue 3 = .ok (.invokevirtual 105, 3) := by decide +kernel
theorem dX8_setValue_6 : decode cX8_setValue 6 = .ok (.ifCond .eq 29, 3) := by decide +kernel
theorem dX8_setValue_9 : decode cX8_setValue 9 = .ok (.iload_n 2, 1) := by decide +kernel
theorem dX8_setValue_10 : decode cX8_setValue 10 = .ok (.aload_n 0, 1) := by decide +kernel
theorem dX8_setValue_11 : decode cX8_setValue 11 = .ok (.iload_n 1, 1) := by decide +kernel
theorem dX8_setValue_12 : decode cX8_setValue 12 = .ok (.invokevirtual 124, 3) := by decide +kernel
theorem dX8_setValue_15 : decode cX8_setValue 15 = .ok (.ineg, 1) := by decide +kernel
theorem dX8_setValue_16 : decode cX8_setValue 16 = .ok (.aload_n 0, 1) := by decide +kernel
theorem dX8_setValue_17 : decode cX8_setValue 17 = .ok (.iload_n 1, 1) := by decide +kernel
theorem dX8_setValue_18 : decode cX8_setValue 18 = .ok (.invokevirtual 127, 3) := by decide +kernel
theorem dX8_setValue_21 : decode cX8_setValue 21 = .ok (.invokestatic 79, 3) := by decide +kernel
theorem dX8_setValue_24 : decode cX8_setValue 24 = .ok (.ifCond .eq 7, 3) := by decide +kernel
theorem dX8_setValue_27 : decode cX8_setValue 27 = .ok (.iconst 0, 1) := by decide +kernel
theorem dX8_setValue_28 : decode cX8_setValue 28 = .ok (.goto 8, 3) := by decide +kernel
theorem dX8_setValue_31 : decode cX8_setValue 31 = .ok (.iconst 2, 1) := by decide +kernel
theorem dX8_setValue_32 : decode cX8_setValue 32 = .ok (.goto 4, 3) := by decide +kernel
theorem dX8_setValue_35 : decode cX8_setValue 35 = .ok (.iconst 1, 1) := by decide +kernel
theorem dX8_setValue_36 : decode cX8_setValue 36 = .ok (.putfield 76, 3) := by decide +kernel
theorem dX8_setValue_39 : decode cX8_setValue 39 = .ok (.aload_n 0, 1) := by decide +kernel
theorem dX8_setValue_40 : decode cX8_setValue 40 = .ok (.getfield 76, 3) := by decide +kernel
theorem dX8_setValue_43 : decode cX8_setValue 43 = .ok (.ifCond .le 5, 3) := by decide +kernel
theorem dX8_setValue_46 : decode cX8_setValue 46 = .ok (.iconst 0, 1) := by decide +kernel
theorem dX8_setValue_47 : decode cX8_setValue 47 = .ok (.ireturn, 1) := by decide +kernel
theorem dX8_setValue_48 : decode cX8_setValue 48 = .ok (.aload_n 0, 1) := by decide +kernel
theorem dX8_setValue_49 : decode cX8_setValue 49 = .ok (.invokevirtual 98, 3) := by decide +kernel
theorem dX8_setValue_52 : decode cX8_setValue 52 = .ok (.aload_n 0, 1) := by decide +kernel
theorem dX8_setValue_53 : decode cX8_setValue 53 = .ok (.getfield 7, 3) := by decide +kernel
theorem dX8_setValue_56 : decode cX8_setValue 56 = .ok (.iconst 4, 1) := by decide +kernel
theorem dX8_setValue_57 : decode cX8_setValue 57 = .ok (.iconst 4, 1) := by decide +kernel
theorem dX8_setValue_58 : decode cX8_setValue 58 = .ok (.iload_n 1, 1) := by decide +kernel
theorem dX8_setValue_59 : decode cX8_setValue 59 = .ok (.imul, 1) := by decide +kernel
theorem dX8_setValue_60 : decode cX8_setValue 60 = .ok (.iadd, 1) := by decide +kernel
theorem dX8_setValue_61 : decode cX8_setValue 61 = .ok (.iaload, 1) := by decide +kernel
theorem dX8_setValue_62 : decode cX8_setValue 62 = .ok (.istore_n 3, 1) := by decide +kernel
theorem dX8_setValue_63 : decode cX8_setValue 63 = .ok (.aload_n 0, 1) := by decide +kernel
theorem dX8_setValue_64 : decode cX8_setValue 64 = .ok (.getfield 7, 3) := by decide +kernel
theorem dX8_setValue_67 : decode cX8_setValue 67 = .ok (.iconst 4, 1) := by decide +kernel
theorem dX8_setValue_68 : decode cX8_setValue 68 = .ok (.iconst 4, 1) := by decide +kernel
theorem dX8_setValue_69 : decode cX8_setValue 69 = .ok (.iload_n 1, 1) := by decide +kernel
theorem dX8_setValue_70 : decode cX8_setValue 70 = .ok (.imul, 1) := by decide +kernel
theorem dX8_setValue_71 : decode cX8_setValue 71 = .ok (.iadd, 1) := by decide +kernel
theorem dX8_setValue_72 : decode cX8_setValue 72 = .ok (.iload_n 2, 1) := by decide +kernel
theorem dX8_setValue_73 : decode cX8_setValue 73 = .ok (.iastore, 1) := by decide +kernel
theorem dX8_setValue_74 : decode cX8_setValue 74 = .ok (.iload_n 3, 1) := by decide +kernel
theorem dX8_setValue_75 : decode cX8_setValue 75 = .ok (.ireturn, 1) := by decide +kernel
theorem dX8_weight_0 : decode cX8_weight 0 = .ok (.iconst 1, 1) := by decide +kernel
theorem dX8_weight_1 : decode cX8_weight 1 = .ok (.istore_n 2, 1) := by decide +kernel
theorem dX8_weight_2 : decode cX8_weight 2 = .ok (.iload_n 1, 1) := by decide +kernel
theorem dX8_weight_3 : decode cX8_weight 3 = .ok (.iconst 1, 1) := by decide +kernel
theorem dX8_weight_4 : decode cX8_weight 4 = .ok (.iadd, 1) := by decide +kernel
theorem dX8_weight_5 : decode cX8_weight 5 = .ok (.istore_n 3, 1) := by decide +kernel
theorem dX8_weight_6 : decode cX8_weight 6 = .ok (.iload_n 3, 1) := by decide +kernel
theorem dX8_weight_7 : decode cX8_weight 7 = .ok (.aload_n 0, 1) := by decide +kernel
theorem dX8_weight_8 : decode cX8_weight 8 = .ok (.getfield 7, 3) := by decide +kernel
theorem dX8_weight_11 : decode cX8_weight 11 = .ok (.iconst 0, 1) := by decide +kernel
theorem dX8_weight_12 : decode cX8_weight 12 = .ok (.iaload, 1) := by decide +kernel
theorem dX8_weight_13 : decode cX8_weight 13 = .ok (.if_icmp .ge 17, 3) := by decide +kernel
theorem dX8_weight_16 : decode cX8_weight 16 = .ok (.iload_n 2, 1) := by decide +kernel
theorem dX8_weight_17 : decode cX8_weight 17 = .ok (.aload_n 0, 1) := by decide +kernel
theorem dX8_weight_18 : decode cX8_weight 18 = .ok (.iload_n 3, 1) := by decide +kernel
theorem dX8_weight_19 : decode cX8_weight 19 = .ok (.invokevirtual 130, 3) := by decide +kernel
theorem dX8_weight_22 : decode cX8_weight 22 = .ok (.imul, 1) := by decide +kernel
theorem dX8_weight_23 : decode cX8_weight 23 = .ok (.istore_n 2, 1) := by decide +kernel
theorem dX8_weight_24 : decode cX8_weight 24 = .ok (.iinc 3 1, 3) := by decide +kernel
theorem dX8_weight_27 : decode cX8_weight 27 = .ok (.goto (-21), 3) := by decide +kernel
theorem dX8_weight_30 : decode cX8_weight 30 = .ok (.iload_n 2, 1) := by decide +kernel
theorem dX8_weight_31 : decode cX8_weight 31 = .ok (.ireturn, 1) := by decide +kernel
theorem dX8_behind_0 : decode cX8_behind 0 = .ok (.iload_n 2, 1) := by decide +kernel
theorem dX8_behind_1 : decode cX8_behind 1 = .ok (.iconst 2, 1) := by decide +kernel
theorem dX8_behind_2 : decode cX8_behind 2 = .ok (.idiv, 1) := by decide +kernel
theorem dX8_behind_3 : decode cX8_behind 3 = .ok (.istore_n 3, 1) := by decide +kernel
theorem dX8_behind_4 : decode cX8_behind 4 = .ok (.aload_n 0, 1) := by decide +kernel
theorem dX8_behind_5 : decode cX8_behind 5 = .ok (.iload_n 3, 1) := by decide +kernel
theorem dX8_behind_6 : decode cX8_behind 6 = .ok (.invokevirtual 193, 3) := by decide +kernel
theorem dX8_behind_9 : decode cX8_behind 9 = .ok (.istore 4, 2) := by decide +kernel
theorem dX8_behind_11 : decode cX8_behind 11 = .ok (.iload_n 1, 1) := by decide +kernel
theorem dX8_behind_12 : decode cX8_behind 12 = .ok (.iload 4, 2) := by decide +kernel
theorem dX8_behind_14 : decode cX8_behind 14 = .ok (.idiv, 1) := by decide +kernel
theorem dX8_behind_15 : decode cX8_behind 15 = .ok (.aload_n 0, 1) := by decide +kernel
theorem dX8_behind_16 : decode cX8_behind 16 = .ok (.iload_n 3, 1) := by decide +kernel
theorem dX8_behind_17 : decode cX8_behind 17 = .ok (.invokevirtual 130, 3) := by decide +kernel
theorem dX8_behind_20 : decode cX8_behind 20 = .ok (.irem, 1) := by decide +kernel
theorem dX8_behind_21 : decode cX8_behind 21 = .ok (.istore 5, 2) := by decide +kernel
theorem dX8_behind_23 : decode cX8_behind 23 = .ok (.iload_n 2, 1) := by decide +kernel
theorem dX8_behind_24 : decode cX8_behind 24 = .ok (.iconst 2, 1) := by decide +kernel
theorem dX8_behind_25 : decode cX8_behind 25 = .ok (.irem, 1) := by decide +kernel
theorem dX8_behind_26 : decode cX8_behind 26 = .ok (.ifCond .ne 10, 3) := by decide +kernel
theorem dX8_behind_29 : decode cX8_behind 29 = .ok (.iload 5, 2) := by decide +kernel
theorem dX8_behind_31 : decode cX8_behind 31 = .ok (.iconst 1, 1) := by decide +kernel
theorem dX8_behind_32 : decode cX8_behind 32 = .ok (.isub, 1) := by decide +kernel
theorem dX8_behind_33 : decode cX8_behind 33 = .ok (.goto 7, 3) := by decide +kernel
theorem dX8_behind_36 : decode cX8_behind 36 = .ok (.iload 5, 2) := by decide +kernel
theorem dX8_behind_38 : decode cX8_behind 38 = .ok (.iconst 1, 1) := by decide +kernel
theorem dX8_behind_39 : decode cX8_behind 39 = .ok (.iadd, 1) := by decide +kernel
theorem dX8_behind_40 : decode cX8_behind 40 = .ok (.istore 6, 2) := by decide +kernel
theorem dX8_behind_42 : decode cX8_behind 42 = .ok (.iload 6, 2) := by decide +kernel
theorem dX8_behind_44 : decode cX8_behind 44 = .ok (.iconst 0, 1) := by decide +kernel
theorem dX8_behind_45 : decode cX8_behind 45 = .ok (.aload_n 0, 1) := by decide +kernel
theorem dX8_behind_46 : decode cX8_behind 46 = .ok (.iload_n 3, 1) := by decide +kernel
theorem dX8_behind_47 : decode cX8_behind 47 = .ok (.invokevirtual 130, 3) := by decide +kernel
theorem dX8_behind_50 : decode cX8_behind 50 = .ok (.iconst 1, 1) := by decide +kernel
theorem dX8_behind_51 : decode cX8_behind 51 = .ok (.isub, 1) := by decide +kernel
theorem dX8_behind_52 : decode cX8_behind 52 = .ok (.invokestatic 79, 3) := by decide +kernel
theorem dX8_behind_55 : decode cX8_behind 55 = .ok (.ifCond .eq 16, 3) := by decide +kernel
theorem dX8_behind_58 : decode cX8_behind 58 = .ok (.iload_n 1, 1) := by decide +kernel
theorem dX8_behind_59 : decode cX8_behind 59 = .ok (.iload 6, 2) := by decide +kernel
theorem dX8_behind_61 : decode cX8_behind 61 = .ok (.iload 5, 2) := by decide +kernel
theorem dX8_behind_63 : decode cX8_behind 63 = .ok (.isub, 1) := by decide +kernel
theorem dX8_behind_64 : decode cX8_behind 64 = .ok (.iload 4, 2) := by decide +kernel
theorem dX8_behind_66 : decode cX8_behind 66 = .ok (.imul, 1) := by decide +kernel
theorem dX8_behind_67 : decode cX8_behind 67 = .ok (.iadd, 1) := by decide +kernel
theorem dX8_behind_68 : decode cX8_behind 68 = .ok (.goto 4, 3) := by decide +kernel
theorem dX8_behind_71 : decode cX8_behind 71 = .ok (.iconst (-1), 1) := by decide +kernel
theorem dX8_behind_72 : decode cX8_behind 72 = .ok (.ireturn, 1) := by decide +kernel
theorem dX8_isMove_0 : decode cX8_isMove 0 = .ok (.iload_n 1, 1) := by decide +kernel
theorem dX8_isMove_1 : decode cX8_isMove 1 = .ok (.iconst 0, 1) := by decide +kernel
theorem dX8_isMove_2 : decode cX8_isMove 2 = .ok (.iconst 2, 1) := by decide +kernel
theorem dX8_isMove_3 : decode cX8_isMove 3 = .ok (.aload_n 0, 1) := by decide +kernel
theorem dX8_isMove_4 : decode cX8_isMove 4 = .ok (.getfield 7, 3) := by decide +kernel
theorem dX8_isMove_7 : decode cX8_isMove 7 = .ok (.iconst 0, 1) := by decide +kernel
theorem dX8_isMove_8 : decode cX8_isMove 8 = .ok (.iaload, 1) := by decide +kernel
theorem dX8_isMove_9 : decode cX8_isMove 9 = .ok (.imul, 1) := by decide +kernel
theorem dX8_isMove_10 : decode cX8_isMove 10 = .ok (.iconst 1, 1) := by decide +kernel
theorem dX8_isMove_11 : decode cX8_isMove 11 = .ok (.isub, 1) := by decide +kernel
theorem dX8_isMove_12 : decode cX8_isMove 12 = .ok (.invokestatic 79, 3) := by decide +kernel
theorem dX8_isMove_15 : decode cX8_isMove 15 = .ok (.ireturn, 1) := by decide +kernel
theorem dX8_mayMove_0 : decode cX8_mayMove 0 = .ok (.aload_n 0, 1) := by decide +kernel
theorem dX8_mayMove_1 : decode cX8_mayMove 1 = .ok (.aload_n 0, 1) := by decide +kernel
theorem dX8_mayMove_2 : decode cX8_mayMove 2 = .ok (.invokevirtual 181, 3) := by decide +kernel
theorem dX8_mayMove_5 : decode cX8_mayMove 5 = .ok (.iload_n 1, 1) := by decide +kernel
theorem dX8_mayMove_6 : decode cX8_mayMove 6 = .ok (.invokevirtual 196, 3) := by decide +kernel
theorem dX8_mayMove_9 : decode cX8_mayMove 9 = .ok (.istore_n 2, 1) := by decide +kernel
theorem dX8_mayMove_10 : decode cX8_mayMove 10 = .ok (.iload_n 2, 1) := by decide +kernel
theorem dX8_mayMove_11 : decode cX8_mayMove 11 = .ok (.ifCond .lt 22, 3) := by decide +kernel
theorem dX8_mayMove_14 : decode cX8_mayMove 14 = .ok (.aload_n 0, 1) := by decide +kernel
theorem dX8_mayMove_15 : decode cX8_mayMove 15 = .ok (.invokevirtual 199, 3) := by decide +kernel
theorem dX8_mayMove_18 : decode cX8_mayMove 18 = .ok (.ifCond .eq 15, 3) := by decide +kernel
theorem dX8_mayMove_21 : decode cX8_mayMove 21 = .ok (.aload_n 0, 1) := by decide +kernel
theorem dX8_mayMove_22 : decode cX8_mayMove 22 = .ok (.iload_n 2, 1) := by decide +kernel
theorem dX8_mayMove_23 : decode cX8_mayMove 23 = .ok (.invokevirtual 184, 3) := by decide +kernel
theorem dX8_mayMove_26 : decode cX8_mayMove 26 = .ok (.ifCond .eq 7, 3) := by decide +kernel
theorem dX8_mayMove_29 : decode cX8_mayMove 29 = .ok (.iconst 1, 1) := by decide +kernel
theorem dX8_mayMove_30 : decode cX8_mayMove 30 = .ok (.goto 4, 3) := by decide +kernel
theorem dX8_mayMove_33 : decode cX8_mayMove 33 = .ok (.iconst 0, 1) := by decide +kernel
theorem dX8_mayMove_34 : decode cX8_mayMove 34 = .ok (.ireturn, 1) := by decide +kernel
theorem dX8_turnsTo_0 : decode cX8_turnsTo 0 = .ok (.aload_n 0, 1) := by decide +kernel
theorem dX8_turnsTo_1 : decode cX8_turnsTo 1 = .ok (.getfield 7, 3) := by decide +kernel
theorem dX8_turnsTo_4 : decode cX8_turnsTo 4 = .ok (.iconst 4, 1) := by decide +kernel
theorem dX8_turnsTo_5 : decode cX8_turnsTo 5 = .ok (.iconst 4, 1) := by decide +kernel
theorem dX8_turnsTo_6 : decode cX8_turnsTo 6 = .ok (.iload_n 1, 1) := by decide +kernel
theorem dX8_turnsTo_7 : decode cX8_turnsTo 7 = .ok (.iconst 2, 1) := by decide +kernel
theorem dX8_turnsTo_8 : decode cX8_turnsTo 8 = .ok (.idiv, 1) := by decide +kernel
theorem dX8_turnsTo_9 : decode cX8_turnsTo 9 = .ok (.imul, 1) := by decide +kernel
theorem dX8_turnsTo_10 : decode cX8_turnsTo 10 = .ok (.iadd, 1) := by decide +kernel
theorem dX8_turnsTo_11 : decode cX8_turnsTo 11 = .ok (.dup2, 1) := by decide +kernel
theorem dX8_turnsTo_12 : decode cX8_turnsTo 12 = .ok (.iaload, 1) := by decide +kernel
theorem dX8_turnsTo_13 : decode cX8_turnsTo 13 = .ok (.iload_n 1, 1) := by decide +kernel
theorem dX8_turnsTo_14 : decode cX8_turnsTo 14 = .ok (.iconst 2, 1) := by decide +kernel
theorem dX8_turnsTo_15 : decode cX8_turnsTo 15 = .ok (.irem, 1) := by decide +kernel
theorem dX8_turnsTo_16 : decode cX8_turnsTo 16 = .ok (.ifCond .ne 7, 3) := by decide +kernel
theorem dX8_turnsTo_19 : decode cX8_turnsTo 19 = .ok (.iconst (-1), 1) := by decide +kernel
theorem dX8_turnsTo_20 : decode cX8_turnsTo 20 = .ok (.goto 4, 3) := by decide +kernel
theorem dX8_turnsTo_23 : decode cX8_turnsTo 23 = .ok (.iconst 1, 1) := by decide +kernel
theorem dX8_turnsTo_24 : decode cX8_turnsTo 24 = .ok (.iadd, 1) := by decide +kernel
theorem dX8_turnsTo_25 : decode cX8_turnsTo 25 = .ok (.iastore, 1) := by decide +kernel
theorem dX8_turnsTo_26 : decode cX8_turnsTo 26 = .ok (.return_, 1) := by decide +kernel
theorem dX8_move_0 : decode cX8_move 0 = .ok (.aload_n 0, 1) := by decide +kernel
theorem dX8_move_1 : decode cX8_move 1 = .ok (.aload_n 0, 1) := by decide +kernel
theorem dX8_move_2 : decode cX8_move 2 = .ok (.iload_n 1, 1) := by decide +kernel
theorem dX8_move_3 : decode cX8_move 3 = .ok (.invokevirtual 203, 3) := by decide +kernel
theorem dX8_move_6 : decode cX8_move 6 = .ok (.ifCond .eq 19, 3) := by decide +kernel
theorem dX8_move_9 : decode cX8_move 9 = .ok (.aload_n 0, 1) := by decide +kernel
theorem dX8_move_10 : decode cX8_move 10 = .ok (.iload_n 1, 1) := by decide +kernel
theorem dX8_move_11 : decode cX8_move 11 = .ok (.invokevirtual 206, 3) := by decide +kernel
theorem dX8_move_14 : decode cX8_move 14 = .ok (.ifCond .eq 7, 3) := by decide +kernel
theorem dX8_move_17 : decode cX8_move 17 = .ok (.iconst 0, 1) := by decide +kernel
theorem dX8_move_18 : decode cX8_move 18 = .ok (.goto 8, 3) := by decide +kernel
theorem dX8_move_21 : decode cX8_move 21 = .ok (.iconst 2, 1) := by decide +kernel
theorem dX8_move_22 : decode cX8_move 22 = .ok (.goto 4, 3) := by decide +kernel
theorem dX8_move_25 : decode cX8_move 25 = .ok (.iconst 1, 1) := by decide +kernel
theorem dX8_move_26 : decode cX8_move 26 = .ok (.putfield 76, 3) := by decide +kernel
theorem dX8_move_29 : decode cX8_move 29 = .ok (.aload_n 0, 1) := by decide +kernel
theorem dX8_move_30 : decode cX8_move 30 = .ok (.getfield 76, 3) := by decide +kernel
theorem dX8_move_33 : decode cX8_move 33 = .ok (.ifCond .le 5, 3) := by decide +kernel
theorem dX8_move_36 : decode cX8_move 36 = .ok (.iconst 0, 1) := by decide +kernel
theorem dX8_move_37 : decode cX8_move 37 = .ok (.ireturn, 1) := by decide +kernel
theorem dX8_move_38 : decode cX8_move 38 = .ok (.aload_n 0, 1) := by decide +kernel
theorem dX8_move_39 : decode cX8_move 39 = .ok (.invokevirtual 98, 3) := by decide +kernel
theorem dX8_move_42 : decode cX8_move 42 = .ok (.aload_n 0, 1) := by decide +kernel
theorem dX8_move_43 : decode cX8_move 43 = .ok (.iload_n 1, 1) := by decide +kernel
theorem dX8_move_44 : decode cX8_move 44 = .ok (.invokevirtual 209, 3) := by decide +kernel
theorem dX8_move_47 : decode cX8_move 47 = .ok (.aload_n 0, 1) := by decide +kernel
theorem dX8_move_48 : decode cX8_move 48 = .ok (.getfield 7, 3) := by decide +kernel
theorem dX8_move_51 : decode cX8_move 51 = .ok (.iconst 4, 1) := by decide +kernel
theorem dX8_move_52 : decode cX8_move 52 = .ok (.iconst 4, 1) := by decide +kernel
theorem dX8_move_53 : decode cX8_move 53 = .ok (.iload_n 1, 1) := by decide +kernel
theorem dX8_move_54 : decode cX8_move 54 = .ok (.iconst 2, 1) := by decide +kernel
theorem dX8_move_55 : decode cX8_move 55 = .ok (.idiv, 1) := by decide +kernel
theorem dX8_move_56 : decode cX8_move 56 = .ok (.imul, 1) := by decide +kernel
theorem dX8_move_57 : decode cX8_move 57 = .ok (.iadd, 1) := by decide +kernel
theorem dX8_move_58 : decode cX8_move 58 = .ok (.iaload, 1) := by decide +kernel
theorem dX8_move_59 : decode cX8_move 59 = .ok (.ireturn, 1) := by decide +kernel
theorem dX8_moves_0 : decode cX8_moves 0 = .ok (.aload_n 0, 1) := by decide +kernel
theorem dX8_moves_1 : decode cX8_moves 1 = .ok (.iconst 0, 1) := by decide +kernel
theorem dX8_moves_2 : decode cX8_moves 2 = .ok (.putfield 76, 3) := by decide +kernel
theorem dX8_moves_5 : decode cX8_moves 5 = .ok (.iconst 0, 1) := by decide +kernel
theorem dX8_moves_6 : decode cX8_moves 6 = .ok (.istore_n 1, 1) := by decide +kernel
theorem dX8_moves_7 : decode cX8_moves 7 = .ok (.iconst 0, 1) := by decide +kernel
theorem dX8_moves_8 : decode cX8_moves 8 = .ok (.istore_n 2, 1) := by decide +kernel
theorem dX8_moves_9 : decode cX8_moves 9 = .ok (.iload_n 2, 1) := by decide +kernel
theorem dX8_moves_10 : decode cX8_moves 10 = .ok (.iconst 2, 1) := by decide +kernel
theorem dX8_moves_11 : decode cX8_moves 11 = .ok (.aload_n 0, 1) := by decide +kernel
theorem dX8_moves_12 : decode cX8_moves 12 = .ok (.getfield 7, 3) := by decide +kernel
theorem dX8_moves_15 : decode cX8_moves 15 = .ok (.iconst 0, 1) := by decide +kernel
theorem dX8_moves_16 : decode cX8_moves 16 = .ok (.iaload, 1) := by decide +kernel
theorem dX8_moves_17 : decode cX8_moves 17 = .ok (.imul, 1) := by decide +kernel
theorem dX8_moves_18 : decode cX8_moves 18 = .ok (.if_icmp .ge 27, 3) := by decide +kernel
theorem dX8_moves_21 : decode cX8_moves 21 = .ok (.iload_n 1, 1) := by decide +kernel
theorem dX8_moves_22 : decode cX8_moves 22 = .ok (.aload_n 0, 1) := by decide +kernel
theorem dX8_moves_23 : decode cX8_moves 23 = .ok (.iload_n 2, 1) := by decide +kernel
theorem dX8_moves_24 : decode cX8_moves 24 = .ok (.invokevirtual 206, 3) := by decide +kernel
theorem dX8_moves_27 : decode cX8_moves 27 = .ok (.ifCond .eq 9, 3) := by decide +kernel
theorem dX8_moves_30 : decode cX8_moves 30 = .ok (.iconst 1, 1) := by decide +kernel
theorem dX8_moves_31 : decode cX8_moves 31 = .ok (.iload_n 2, 1) := by decide +kernel
theorem dX8_moves_32 : decode cX8_moves 32 = .ok (.ishl, 1) := by decide +kernel
theorem dX8_moves_33 : decode cX8_moves 33 = .ok (.goto 4, 3) := by decide +kernel
theorem dX8_moves_36 : decode cX8_moves 36 = .ok (.iconst 0, 1) := by decide +kernel
theorem dX8_moves_37 : decode cX8_moves 37 = .ok (.ior, 1) := by decide +kernel
theorem dX8_moves_38 : decode cX8_moves 38 = .ok (.istore_n 1, 1) := by decide +kernel
theorem dX8_moves_39 : decode cX8_moves 39 = .ok (.iinc 2 1, 3) := by decide +kernel
theorem dX8_moves_42 : decode cX8_moves 42 = .ok (.goto (-33), 3) := by decide +kernel
theorem dX8_moves_45 : decode cX8_moves 45 = .ok (.iload_n 1, 1) := by decide +kernel
theorem dX8_moves_46 : decode cX8_moves 46 = .ok (.ireturn, 1) := by decide +kernel
theorem dX8_tip_0 : decode cX8_tip 0 = .ok (.aload_n 0, 1) := by decide +kernel
theorem dX8_tip_1 : decode cX8_tip 1 = .ok (.iconst 0, 1) := by decide +kernel
theorem dX8_tip_2 : decode cX8_tip 2 = .ok (.putfield 76, 3) := by decide +kernel
theorem dX8_tip_5 : decode cX8_tip 5 = .ok (.aload_n 0, 1) := by decide +kernel
theorem dX8_tip_6 : decode cX8_tip 6 = .ok (.invokevirtual 187, 3) := by decide +kernel
theorem dX8_tip_9 : decode cX8_tip 9 = .ok (.iload_n 1, 1) := by decide +kernel
theorem dX8_tip_10 : decode cX8_tip 10 = .ok (.ifCond .eq 17, 3) := by decide +kernel
theorem dX8_tip_13 : decode cX8_tip 13 = .ok (.aload_n 0, 1) := by decide +kernel
theorem dX8_tip_14 : decode cX8_tip 14 = .ok (.getfield 35, 3) := by decide +kernel
theorem dX8_tip_17 : decode cX8_tip 17 = .ok (.aload_n 0, 1) := by decide +kernel
theorem dX8_tip_18 : decode cX8_tip 18 = .ok (.getfield 7, 3) := by decide +kernel
theorem dX8_tip_21 : decode cX8_tip 21 = .ok (.iconst 0, 1) := by decide +kernel
theorem dX8_tip_22 : decode cX8_tip 22 = .ok (.iaload, 1) := by decide +kernel
theorem dX8_tip_23 : decode cX8_tip 23 = .ok (.iaload, 1) := by decide +kernel
theorem dX8_tip_24 : decode cX8_tip 24 = .ok (.goto 14, 3) := by decide +kernel
theorem dX8_tip_27 : decode cX8_tip 27 = .ok (.aload_n 0, 1) := by decide +kernel
theorem dX8_tip_28 : decode cX8_tip 28 = .ok (.getfield 32, 3) := by decide +kernel
theorem dX8_tip_31 : decode cX8_tip 31 = .ok (.aload_n 0, 1) := by decide +kernel
theorem dX8_tip_32 : decode cX8_tip 32 = .ok (.getfield 7, 3) := by decide +kernel
theorem dX8_tip_35 : decode cX8_tip 35 = .ok (.iconst 0, 1) := by decide +kernel
theorem dX8_tip_36 : decode cX8_tip 36 = .ok (.iaload, 1) := by decide +kernel
theorem dX8_tip_37 : decode cX8_tip 37 = .ok (.iaload, 1) := by decide +kernel
theorem dX8_tip_38 : decode cX8_tip 38 = .ok (.ireturn, 1) := by decide +kernel
theorem dX8_fault_0 : decode cX8_fault 0 = .ok (.aload_n 0, 1) := by decide +kernel
theorem dX8_fault_1 : decode cX8_fault 1 = .ok (.iconst 0, 1) := by decide +kernel
theorem dX8_fault_2 : decode cX8_fault 2 = .ok (.putfield 76, 3) := by decide +kernel
theorem dX8_fault_5 : decode cX8_fault 5 = .ok (.aload_n 0, 1) := by decide +kernel
theorem dX8_fault_6 : decode cX8_fault 6 = .ok (.invokevirtual 187, 3) := by decide +kernel
theorem dX8_fault_9 : decode cX8_fault 9 = .ok (.aload_n 0, 1) := by decide +kernel
theorem dX8_fault_10 : decode cX8_fault 10 = .ok (.invokevirtual 178, 3) := by decide +kernel
theorem dX8_fault_13 : decode cX8_fault 13 = .ok (.ireturn, 1) := by decide +kernel
theorem dX8_faultyLink_0 : decode cX8_faultyLink 0 = .ok (.aload_n 0, 1) := by decide +kernel
theorem dX8_faultyLink_1 : decode cX8_faultyLink 1 = .ok (.iconst 0, 1) := by decide +kernel
theorem dX8_faultyLink_2 : decode cX8_faultyLink 2 = .ok (.putfield 76, 3) := by decide +kernel
theorem dX8_faultyLink_5 : decode cX8_faultyLink 5 = .ok (.aload_n 0, 1) := by decide +kernel
theorem dX8_faultyLink_6 : decode cX8_faultyLink 6 = .ok (.invokevirtual 187, 3) := by decide +kernel
theorem dX8_faultyLink_9 : decode cX8_faultyLink 9 = .ok (.aload_n 0, 1) := by decide +kernel
theorem dX8_faultyLink_10 : decode cX8_faultyLink 10 = .ok (.invokevirtual 178, 3) := by decide +kernel
theorem dX8_faultyLink_13 : decode cX8_faultyLink 13 = .ok (.ifCond .ne 11, 3) := by decide +kernel
theorem dX8_faultyLink_16 : decode cX8_faultyLink 16 = .ok (.aload_n 0, 1) := by decide +kernel
theorem dX8_faultyLink_17 : decode cX8_faultyLink 17 = .ok (.iconst 1, 1) := by decide +kernel
theorem dX8_faultyLink_18 : decode cX8_faultyLink 18 = .ok (.invokevirtual 86, 3) := by decide +kernel
theorem dX8_faultyLink_21 : decode cX8_faultyLink 21 = .ok (.goto 7, 3) := by decide +kernel
theorem dX8_faultyLink_24 : decode cX8_faultyLink 24 = .ok (.aload_n 0, 1) := by decide +kernel
theorem dX8_faultyLink_25 : decode cX8_faultyLink 25 = .ok (.getfield 171, 3) := by decide +kernel
theorem dX8_faultyLink_28 : decode cX8_faultyLink 28 = .ok (.ireturn, 1) := by decide +kernel
theorem dX8_linksAt_0 : decode cX8_linksAt 0 = .ok (.aload_n 0, 1) := by decide +kernel
theorem dX8_linksAt_1 : decode cX8_linksAt 1 = .ok (.iload_n 1, 1) := by decide +kernel
theorem dX8_linksAt_2 : decode cX8_linksAt 2 = .ok (.iload_n 2, 1) := by decide +kernel
theorem dX8_linksAt_3 : decode cX8_linksAt 3 = .ok (.invokestatic 109, 3) := by decide +kernel
theorem dX8_linksAt_6 : decode cX8_linksAt 6 = .ok (.ifCond .eq 7, 3) := by decide +kernel
theorem dX8_linksAt_9 : decode cX8_linksAt 9 = .ok (.iconst 0, 1) := by decide +kernel
theorem dX8_linksAt_10 : decode cX8_linksAt 10 = .ok (.goto 4, 3) := by decide +kernel
theorem dX8_linksAt_13 : decode cX8_linksAt 13 = .ok (.iconst 1, 1) := by decide +kernel
theorem dX8_linksAt_14 : decode cX8_linksAt 14 = .ok (.putfield 76, 3) := by decide +kernel
theorem dX8_linksAt_17 : decode cX8_linksAt 17 = .ok (.aload_n 0, 1) := by decide +kernel
theorem dX8_linksAt_18 : decode cX8_linksAt 18 = .ok (.invokevirtual 187, 3) := by decide +kernel
theorem dX8_linksAt_21 : decode cX8_linksAt 21 = .ok (.iconst 0, 1) := by decide +kernel
theorem dX8_linksAt_22 : decode cX8_linksAt 22 = .ok (.istore_n 3, 1) := by decide +kernel
theorem dX8_linksAt_23 : decode cX8_linksAt 23 = .ok (.iconst 0, 1) := by decide +kernel
theorem dX8_linksAt_24 : decode cX8_linksAt 24 = .ok (.istore 4, 2) := by decide +kernel
theorem dX8_linksAt_26 : decode cX8_linksAt 26 = .ok (.iload 4, 2) := by decide +kernel
theorem dX8_linksAt_28 : decode cX8_linksAt 28 = .ok (.aload_n 0, 1) := by decide +kernel
theorem dX8_linksAt_29 : decode cX8_linksAt 29 = .ok (.getfield 7, 3) := by decide +kernel
theorem dX8_linksAt_32 : decode cX8_linksAt 32 = .ok (.iconst 0, 1) := by decide +kernel
theorem dX8_linksAt_33 : decode cX8_linksAt 33 = .ok (.iaload, 1) := by decide +kernel
theorem dX8_linksAt_34 : decode cX8_linksAt 34 = .ok (.if_icmp .ge 38, 3) := by decide +kernel
theorem dX8_linksAt_37 : decode cX8_linksAt 37 = .ok (.aload_n 0, 1) := by decide +kernel
theorem dX8_linksAt_38 : decode cX8_linksAt 38 = .ok (.getfield 76, 3) := by decide +kernel
theorem dX8_linksAt_41 : decode cX8_linksAt 41 = .ok (.ifCond .ne 31, 3) := by decide +kernel
theorem dX8_linksAt_44 : decode cX8_linksAt 44 = .ok (.iload_n 3, 1) := by decide +kernel
theorem dX8_linksAt_45 : decode cX8_linksAt 45 = .ok (.aload_n 0, 1) := by decide +kernel
theorem dX8_linksAt_46 : decode cX8_linksAt 46 = .ok (.iload 4, 2) := by decide +kernel
theorem dX8_linksAt_48 : decode cX8_linksAt 48 = .ok (.iload_n 1, 1) := by decide +kernel
theorem dX8_linksAt_49 : decode cX8_linksAt 49 = .ok (.iload_n 2, 1) := by decide +kernel
theorem dX8_linksAt_50 : decode cX8_linksAt 50 = .ok (.invokevirtual 155, 3) := by decide +kernel
theorem dX8_linksAt_53 : decode cX8_linksAt 53 = .ok (.ifCond .eq 10, 3) := by decide +kernel
theorem dX8_linksAt_56 : decode cX8_linksAt 56 = .ok (.iconst 1, 1) := by decide +kernel
theorem dX8_linksAt_57 : decode cX8_linksAt 57 = .ok (.iload 4, 2) := by decide +kernel
theorem dX8_linksAt_59 : decode cX8_linksAt 59 = .ok (.ishl, 1) := by decide +kernel
theorem dX8_linksAt_60 : decode cX8_linksAt 60 = .ok (.goto 4, 3) := by decide +kernel
theorem dX8_linksAt_63 : decode cX8_linksAt 63 = .ok (.iconst 0, 1) := by decide +kernel
theorem dX8_linksAt_64 : decode cX8_linksAt 64 = .ok (.ior, 1) := by decide +kernel
theorem dX8_linksAt_65 : decode cX8_linksAt 65 = .ok (.istore_n 3, 1) := by decide +kernel
theorem dX8_linksAt_66 : decode cX8_linksAt 66 = .ok (.iinc 4 1, 3) := by decide +kernel
theorem dX8_linksAt_69 : decode cX8_linksAt 69 = .ok (.goto (-43), 3) := by decide +kernel
theorem dX8_linksAt_72 : decode cX8_linksAt 72 = .ok (.iload_n 3, 1) := by decide +kernel
theorem dX8_linksAt_73 : decode cX8_linksAt 73 = .ok (.ireturn, 1) := by decide +kernel
theorem dX8_poseNumber_0 : decode cX8_poseNumber 0 = .ok (.aload_n 0, 1) := by decide +kernel
theorem dX8_poseNumber_1 : decode cX8_poseNumber 1 = .ok (.iconst 0, 1) := by decide +kernel
theorem dX8_poseNumber_2 : decode cX8_poseNumber 2 = .ok (.putfield 76, 3) := by decide +kernel
theorem dX8_poseNumber_5 : decode cX8_poseNumber 5 = .ok (.aload_n 0, 1) := by decide +kernel
theorem dX8_poseNumber_6 : decode cX8_poseNumber 6 = .ok (.invokevirtual 181, 3) := by decide +kernel
theorem dX8_poseNumber_9 : decode cX8_poseNumber 9 = .ok (.ireturn, 1) := by decide +kernel
theorem dX8_size_0 : decode cX8_size 0 = .ok (.iload_n 0, 1) := by decide +kernel
theorem dX8_size_1 : decode cX8_size 1 = .ok (.ifCond .ge 8, 3) := by decide +kernel
theorem dX8_size_4 : decode cX8_size 4 = .ok (.iload_n 0, 1) := by decide +kernel
theorem dX8_size_5 : decode cX8_size 5 = .ok (.ineg, 1) := by decide +kernel
theorem dX8_size_6 : decode cX8_size 6 = .ok (.goto 4, 3) := by decide +kernel
theorem dX8_size_9 : decode cX8_size 9 = .ok (.iload_n 0, 1) := by decide +kernel
theorem dX8_size_10 : decode cX8_size 10 = .ok (.ireturn, 1) := by decide +kernel
theorem dX8_distance_0 : decode cX8_distance 0 = .ok (.iload_n 0, 1) := by decide +kernel
theorem dX8_distance_1 : decode cX8_distance 1 = .ok (.iload_n 2, 1) := by decide +kernel
theorem dX8_distance_2 : decode cX8_distance 2 = .ok (.isub, 1) := by decide +kernel
theorem dX8_distance_3 : decode cX8_distance 3 = .ok (.invokestatic 212, 3) := by decide +kernel
theorem dX8_distance_6 : decode cX8_distance 6 = .ok (.iload_n 1, 1) := by decide +kernel
theorem dX8_distance_7 : decode cX8_distance 7 = .ok (.iload_n 3, 1) := by decide +kernel
theorem dX8_distance_8 : decode cX8_distance 8 = .ok (.isub, 1) := by decide +kernel
theorem dX8_distance_9 : decode cX8_distance 9 = .ok (.invokestatic 212, 3) := by decide +kernel
theorem dX8_distance_12 : decode cX8_distance 12 = .ok (.if_icmp .le 12, 3) := by decide +kernel
theorem dX8_distance_15 : decode cX8_distance 15 = .ok (.iload_n 0, 1) := by decide +kernel
theorem dX8_distance_16 : decode cX8_distance 16 = .ok (.iload_n 2, 1) := by decide +kernel
theorem dX8_distance_17 : decode cX8_distance 17 = .ok (.isub, 1) := by decide +kernel
theorem dX8_distance_18 : decode cX8_distance 18 = .ok (.invokestatic 212, 3) := by decide +kernel
theorem dX8_distance_21 : decode cX8_distance 21 = .ok (.goto 9, 3) := by decide +kernel
theorem dX8_distance_24 : decode cX8_distance 24 = .ok (.iload_n 1, 1) := by decide +kernel
theorem dX8_distance_25 : decode cX8_distance 25 = .ok (.iload_n 3, 1) := by decide +kernel
theorem dX8_distance_26 : decode cX8_distance 26 = .ok (.isub, 1) := by decide +kernel
theorem dX8_distance_27 : decode cX8_distance 27 = .ok (.invokestatic 212, 3) := by decide +kernel
theorem dX8_distance_30 : decode cX8_distance 30 = .ok (.ireturn, 1) := by decide +kernel
theorem dX8_clearance_0 : decode cX8_clearance 0 = .ok (.aload_n 0, 1) := by decide +kernel
theorem dX8_clearance_1 : decode cX8_clearance 1 = .ok (.aload_n 0, 1) := by decide +kernel
theorem dX8_clearance_2 : decode cX8_clearance 2 = .ok (.getfield 7, 3) := by decide +kernel
theorem dX8_clearance_5 : decode cX8_clearance 5 = .ok (.iconst 0, 1) := by decide +kernel
theorem dX8_clearance_6 : decode cX8_clearance 6 = .ok (.iaload, 1) := by decide +kernel
theorem dX8_clearance_7 : decode cX8_clearance 7 = .ok (.ifCond .eq 13, 3) := by decide +kernel
theorem dX8_clearance_10 : decode cX8_clearance 10 = .ok (.aload_n 0, 1) := by decide +kernel
theorem dX8_clearance_11 : decode cX8_clearance 11 = .ok (.getfield 7, 3) := by decide +kernel
theorem dX8_clearance_14 : decode cX8_clearance 14 = .ok (.bipush 20, 2) := by decide +kernel
theorem dX8_clearance_16 : decode cX8_clearance 16 = .ok (.iaload, 1) := by decide +kernel
theorem dX8_clearance_17 : decode cX8_clearance 17 = .ok (.ifCond .ne 7, 3) := by decide +kernel
theorem dX8_clearance_20 : decode cX8_clearance 20 = .ok (.iconst 1, 1) := by decide +kernel
theorem dX8_clearance_21 : decode cX8_clearance 21 = .ok (.goto 4, 3) := by decide +kernel
theorem dX8_clearance_24 : decode cX8_clearance 24 = .ok (.iconst 0, 1) := by decide +kernel
theorem dX8_clearance_25 : decode cX8_clearance 25 = .ok (.putfield 76, 3) := by decide +kernel
theorem dX8_clearance_28 : decode cX8_clearance 28 = .ok (.aload_n 0, 1) := by decide +kernel
theorem dX8_clearance_29 : decode cX8_clearance 29 = .ok (.invokevirtual 187, 3) := by decide +kernel
theorem dX8_clearance_32 : decode cX8_clearance 32 = .ok (.sipush 1000, 3) := by decide +kernel
theorem dX8_clearance_35 : decode cX8_clearance 35 = .ok (.istore_n 1, 1) := by decide +kernel
theorem dX8_clearance_36 : decode cX8_clearance 36 = .ok (.iconst 0, 1) := by decide +kernel
theorem dX8_clearance_37 : decode cX8_clearance 37 = .ok (.istore_n 2, 1) := by decide +kernel
theorem dX8_clearance_38 : decode cX8_clearance 38 = .ok (.iload_n 2, 1) := by decide +kernel
theorem dX8_clearance_39 : decode cX8_clearance 39 = .ok (.aload_n 0, 1) := by decide +kernel
theorem dX8_clearance_40 : decode cX8_clearance 40 = .ok (.getfield 7, 3) := by decide +kernel
theorem dX8_clearance_43 : decode cX8_clearance 43 = .ok (.iconst 0, 1) := by decide +kernel
theorem dX8_clearance_44 : decode cX8_clearance 44 = .ok (.iaload, 1) := by decide +kernel
theorem dX8_clearance_45 : decode cX8_clearance 45 = .ok (.if_icmp .ge 110, 3) := by decide +kernel
theorem dX8_clearance_48 : decode cX8_clearance 48 = .ok (.aload_n 0, 1) := by decide +kernel
theorem dX8_clearance_49 : decode cX8_clearance 49 = .ok (.getfield 76, 3) := by decide +kernel
theorem dX8_clearance_52 : decode cX8_clearance 52 = .ok (.ifCond .ne 103, 3) := by decide +kernel
theorem dX8_clearance_55 : decode cX8_clearance 55 = .ok (.iconst 0, 1) := by decide +kernel
theorem dX8_clearance_56 : decode cX8_clearance 56 = .ok (.istore_n 3, 1) := by decide +kernel
theorem dX8_clearance_57 : decode cX8_clearance 57 = .ok (.iload_n 3, 1) := by decide +kernel
theorem dX8_clearance_58 : decode cX8_clearance 58 = .ok (.aload_n 0, 1) := by decide +kernel
theorem dX8_clearance_59 : decode cX8_clearance 59 = .ok (.iload_n 2, 1) := by decide +kernel
theorem dX8_clearance_60 : decode cX8_clearance 60 = .ok (.invokevirtual 137, 3) := by decide +kernel
theorem dX8_clearance_63 : decode cX8_clearance 63 = .ok (.if_icmp .gt 86, 3) := by decide +kernel
theorem dX8_clearance_66 : decode cX8_clearance 66 = .ok (.iconst 0, 1) := by decide +kernel
theorem dX8_clearance_67 : decode cX8_clearance 67 = .ok (.istore 4, 2) := by decide +kernel
theorem dX8_clearance_69 : decode cX8_clearance 69 = .ok (.iload 4, 2) := by decide +kernel
theorem dX8_clearance_71 : decode cX8_clearance 71 = .ok (.aload_n 0, 1) := by decide +kernel
theorem dX8_clearance_72 : decode cX8_clearance 72 = .ok (.getfield 7, 3) := by decide +kernel
theorem dX8_clearance_75 : decode cX8_clearance 75 = .ok (.bipush 20, 2) := by decide +kernel
theorem dX8_clearance_77 : decode cX8_clearance 77 = .ok (.iaload, 1) := by decide +kernel
theorem dX8_clearance_78 : decode cX8_clearance 78 = .ok (.if_icmp .ge 65, 3) := by decide +kernel
theorem dX8_clearance_81 : decode cX8_clearance 81 = .ok (.aload_n 0, 1) := by decide +kernel
theorem dX8_clearance_82 : decode cX8_clearance 82 = .ok (.iload_n 2, 1) := by decide +kernel
theorem dX8_clearance_83 : decode cX8_clearance 83 = .ok (.iload_n 3, 1) := by decide +kernel
theorem dX8_clearance_84 : decode cX8_clearance 84 = .ok (.invokevirtual 149, 3) := by decide +kernel
theorem dX8_clearance_87 : decode cX8_clearance 87 = .ok (.aload_n 0, 1) := by decide +kernel
theorem dX8_clearance_88 : decode cX8_clearance 88 = .ok (.iload_n 2, 1) := by decide +kernel
theorem dX8_clearance_89 : decode cX8_clearance 89 = .ok (.iload_n 3, 1) := by decide +kernel
theorem dX8_clearance_90 : decode cX8_clearance 90 = .ok (.invokevirtual 152, 3) := by decide +kernel
theorem dX8_clearance_93 : decode cX8_clearance 93 = .ok (.aload_n 0, 1) := by decide +kernel
theorem dX8_clearance_94 : decode cX8_clearance 94 = .ok (.getfield 7, 3) := by decide +kernel
theorem dX8_clearance_97 : decode cX8_clearance 97 = .ok (.bipush 21, 2) := by decide +kernel
theorem dX8_clearance_99 : decode cX8_clearance 99 = .ok (.iconst 2, 1) := by decide +kernel
theorem dX8_clearance_100 : decode cX8_clearance 100 = .ok (.iload 4, 2) := by decide +kernel
theorem dX8_clearance_102 : decode cX8_clearance 102 = .ok (.imul, 1) := by decide +kernel
theorem dX8_clearance_103 : decode cX8_clearance 103 = .ok (.iadd, 1) := by decide +kernel
theorem dX8_clearance_104 : decode cX8_clearance 104 = .ok (.iaload, 1) := by decide +kernel
theorem dX8_clearance_105 : decode cX8_clearance 105 = .ok (.aload_n 0, 1) := by decide +kernel
theorem dX8_clearance_106 : decode cX8_clearance 106 = .ok (.getfield 7, 3) := by decide +kernel
theorem dX8_clearance_109 : decode cX8_clearance 109 = .ok (.bipush 21, 2) := by decide +kernel
theorem dX8_clearance_111 : decode cX8_clearance 111 = .ok (.iconst 2, 1) := by decide +kernel
theorem dX8_clearance_112 : decode cX8_clearance 112 = .ok (.iload 4, 2) := by decide +kernel
theorem dX8_clearance_114 : decode cX8_clearance 114 = .ok (.imul, 1) := by decide +kernel
theorem dX8_clearance_115 : decode cX8_clearance 115 = .ok (.iadd, 1) := by decide +kernel
theorem dX8_clearance_116 : decode cX8_clearance 116 = .ok (.iconst 1, 1) := by decide +kernel
theorem dX8_clearance_117 : decode cX8_clearance 117 = .ok (.iadd, 1) := by decide +kernel
theorem dX8_clearance_118 : decode cX8_clearance 118 = .ok (.iaload, 1) := by decide +kernel
theorem dX8_clearance_119 : decode cX8_clearance 119 = .ok (.invokestatic 215, 3) := by decide +kernel
theorem dX8_clearance_122 : decode cX8_clearance 122 = .ok (.istore 5, 2) := by decide +kernel
theorem dX8_clearance_124 : decode cX8_clearance 124 = .ok (.iload 5, 2) := by decide +kernel
theorem dX8_clearance_126 : decode cX8_clearance 126 = .ok (.iload_n 1, 1) := by decide +kernel
theorem dX8_clearance_127 : decode cX8_clearance 127 = .ok (.if_icmp .ge 8, 3) := by decide +kernel
theorem dX8_clearance_130 : decode cX8_clearance 130 = .ok (.iload 5, 2) := by decide +kernel
theorem dX8_clearance_132 : decode cX8_clearance 132 = .ok (.goto 4, 3) := by decide +kernel
theorem dX8_clearance_135 : decode cX8_clearance 135 = .ok (.iload_n 1, 1) := by decide +kernel
theorem dX8_clearance_136 : decode cX8_clearance 136 = .ok (.istore_n 1, 1) := by decide +kernel
theorem dX8_clearance_137 : decode cX8_clearance 137 = .ok (.iinc 4 1, 3) := by decide +kernel
theorem dX8_clearance_140 : decode cX8_clearance 140 = .ok (.goto (-71), 3) := by decide +kernel
theorem dX8_clearance_143 : decode cX8_clearance 143 = .ok (.iinc 3 1, 3) := by decide +kernel
theorem dX8_clearance_146 : decode cX8_clearance 146 = .ok (.goto (-89), 3) := by decide +kernel
theorem dX8_clearance_149 : decode cX8_clearance 149 = .ok (.iinc 2 1, 3) := by decide +kernel
theorem dX8_clearance_152 : decode cX8_clearance 152 = .ok (.goto (-114), 3) := by decide +kernel
theorem dX8_clearance_155 : decode cX8_clearance 155 = .ok (.aload_n 0, 1) := by decide +kernel
theorem dX8_clearance_156 : decode cX8_clearance 156 = .ok (.getfield 76, 3) := by decide +kernel
theorem dX8_clearance_159 : decode cX8_clearance 159 = .ok (.ifCond .le 7, 3) := by decide +kernel
theorem dX8_clearance_162 : decode cX8_clearance 162 = .ok (.iconst 0, 1) := by decide +kernel
theorem dX8_clearance_163 : decode cX8_clearance 163 = .ok (.goto 4, 3) := by decide +kernel
theorem dX8_clearance_166 : decode cX8_clearance 166 = .ok (.iload_n 1, 1) := by decide +kernel
theorem dX8_clearance_167 : decode cX8_clearance 167 = .ok (.ireturn, 1) := by decide +kernel
theorem dX8_winding_0 : decode cX8_winding 0 = .ok (.aload_n 0, 1) := by decide +kernel
theorem dX8_winding_1 : decode cX8_winding 1 = .ok (.iconst 0, 1) := by decide +kernel
theorem dX8_winding_2 : decode cX8_winding 2 = .ok (.putfield 76, 3) := by decide +kernel
theorem dX8_winding_5 : decode cX8_winding 5 = .ok (.iconst 0, 1) := by decide +kernel
theorem dX8_winding_6 : decode cX8_winding 6 = .ok (.istore_n 1, 1) := by decide +kernel
theorem dX8_winding_7 : decode cX8_winding 7 = .ok (.iconst 0, 1) := by decide +kernel
theorem dX8_winding_8 : decode cX8_winding 8 = .ok (.istore_n 2, 1) := by decide +kernel
theorem dX8_winding_9 : decode cX8_winding 9 = .ok (.iload_n 2, 1) := by decide +kernel
theorem dX8_winding_10 : decode cX8_winding 10 = .ok (.aload_n 0, 1) := by decide +kernel
theorem dX8_winding_11 : decode cX8_winding 11 = .ok (.getfield 7, 3) := by decide +kernel
theorem dX8_winding_14 : decode cX8_winding 14 = .ok (.iconst 0, 1) := by decide +kernel
theorem dX8_winding_15 : decode cX8_winding 15 = .ok (.iaload, 1) := by decide +kernel
theorem dX8_winding_16 : decode cX8_winding 16 = .ok (.if_icmp .ge 22, 3) := by decide +kernel
theorem dX8_winding_19 : decode cX8_winding 19 = .ok (.iload_n 1, 1) := by decide +kernel
theorem dX8_winding_20 : decode cX8_winding 20 = .ok (.aload_n 0, 1) := by decide +kernel
theorem dX8_winding_21 : decode cX8_winding 21 = .ok (.getfield 7, 3) := by decide +kernel
theorem dX8_winding_24 : decode cX8_winding 24 = .ok (.iconst 4, 1) := by decide +kernel
theorem dX8_winding_25 : decode cX8_winding 25 = .ok (.iconst 4, 1) := by decide +kernel
theorem dX8_winding_26 : decode cX8_winding 26 = .ok (.iload_n 2, 1) := by decide +kernel
theorem dX8_winding_27 : decode cX8_winding 27 = .ok (.imul, 1) := by decide +kernel
theorem dX8_winding_28 : decode cX8_winding 28 = .ok (.iadd, 1) := by decide +kernel
theorem dX8_winding_29 : decode cX8_winding 29 = .ok (.iaload, 1) := by decide +kernel
theorem dX8_winding_30 : decode cX8_winding 30 = .ok (.iadd, 1) := by decide +kernel
theorem dX8_winding_31 : decode cX8_winding 31 = .ok (.istore_n 1, 1) := by decide +kernel
theorem dX8_winding_32 : decode cX8_winding 32 = .ok (.iinc 2 1, 3) := by decide +kernel
theorem dX8_winding_35 : decode cX8_winding 35 = .ok (.goto (-26), 3) := by decide +kernel
theorem dX8_winding_38 : decode cX8_winding 38 = .ok (.iload_n 1, 1) := by decide +kernel
theorem dX8_winding_39 : decode cX8_winding 39 = .ok (.iconst 3, 1) := by decide +kernel
theorem dX8_winding_40 : decode cX8_winding 40 = .ok (.ishr, 1) := by decide +kernel
theorem dX8_winding_41 : decode cX8_winding 41 = .ok (.ireturn, 1) := by decide +kernel
theorem dX8_cellOf_0 : decode cX8_cellOf 0 = .ok (.bipush 21, 2) := by decide +kernel
theorem dX8_cellOf_2 : decode cX8_cellOf 2 = .ok (.iload_n 0, 1) := by decide +kernel
theorem dX8_cellOf_3 : decode cX8_cellOf 3 = .ok (.bipush 10, 2) := by decide +kernel
theorem dX8_cellOf_5 : decode cX8_cellOf 5 = .ok (.iadd, 1) := by decide +kernel
theorem dX8_cellOf_6 : decode cX8_cellOf 6 = .ok (.imul, 1) := by decide +kernel
theorem dX8_cellOf_7 : decode cX8_cellOf 7 = .ok (.iload_n 1, 1) := by decide +kernel
theorem dX8_cellOf_8 : decode cX8_cellOf 8 = .ok (.iadd, 1) := by decide +kernel
theorem dX8_cellOf_9 : decode cX8_cellOf 9 = .ok (.bipush 10, 2) := by decide +kernel
theorem dX8_cellOf_11 : decode cX8_cellOf 11 = .ok (.iadd, 1) := by decide +kernel
theorem dX8_cellOf_12 : decode cX8_cellOf 12 = .ok (.ireturn, 1) := by decide +kernel
theorem dX8_isMany_0 : decode cX8_isMany 0 = .ok (.aload_n 0, 1) := by decide +kernel
theorem dX8_isMany_1 : decode cX8_isMany 1 = .ok (.invokevirtual 133, 3) := by decide +kernel
theorem dX8_isMany_4 : decode cX8_isMany 4 = .ok (.sipush 5000, 3) := by decide +kernel
theorem dX8_isMany_7 : decode cX8_isMany 7 = .ok (.if_icmp .le 7, 3) := by decide +kernel
theorem dX8_isMany_10 : decode cX8_isMany 10 = .ok (.iconst 1, 1) := by decide +kernel
theorem dX8_isMany_11 : decode cX8_isMany 11 = .ok (.goto 4, 3) := by decide +kernel
theorem dX8_isMany_14 : decode cX8_isMany 14 = .ok (.iconst 0, 1) := by decide +kernel
theorem dX8_isMany_15 : decode cX8_isMany 15 = .ok (.ireturn, 1) := by decide +kernel
theorem dX8_laysAll_0 : decode cX8_laysAll 0 = .ok (.iconst 0, 1) := by decide +kernel
theorem dX8_laysAll_1 : decode cX8_laysAll 1 = .ok (.istore_n 1, 1) := by decide +kernel
theorem dX8_laysAll_2 : decode cX8_laysAll 2 = .ok (.iload_n 1, 1) := by decide +kernel
theorem dX8_laysAll_3 : decode cX8_laysAll 3 = .ok (.aload_n 0, 1) := by decide +kernel
theorem dX8_laysAll_4 : decode cX8_laysAll 4 = .ok (.invokevirtual 133, 3) := by decide +kernel
theorem dX8_laysAll_7 : decode cX8_laysAll 7 = .ok (.if_icmp .ge 64, 3) := by decide +kernel
theorem dX8_laysAll_10 : decode cX8_laysAll 10 = .ok (.aload_n 0, 1) := by decide +kernel
theorem dX8_laysAll_11 : decode cX8_laysAll 11 = .ok (.getfield 38, 3) := by decide +kernel
theorem dX8_laysAll_14 : decode cX8_laysAll 14 = .ok (.iload_n 1, 1) := by decide +kernel
theorem dX8_laysAll_15 : decode cX8_laysAll 15 = .ok (.aload_n 0, 1) := by decide +kernel
theorem dX8_laysAll_16 : decode cX8_laysAll 16 = .ok (.iload_n 1, 1) := by decide +kernel
theorem dX8_laysAll_17 : decode cX8_laysAll 17 = .ok (.invokevirtual 184, 3) := by decide +kernel
theorem dX8_laysAll_20 : decode cX8_laysAll 20 = .ok (.bastore, 1) := by decide +kernel
theorem dX8_laysAll_21 : decode cX8_laysAll 21 = .ok (.aload_n 0, 1) := by decide +kernel
theorem dX8_laysAll_22 : decode cX8_laysAll 22 = .ok (.getfield 42, 3) := by decide +kernel
theorem dX8_laysAll_25 : decode cX8_laysAll 25 = .ok (.iload_n 1, 1) := by decide +kernel
theorem dX8_laysAll_26 : decode cX8_laysAll 26 = .ok (.aload_n 0, 1) := by decide +kernel
theorem dX8_laysAll_27 : decode cX8_laysAll 27 = .ok (.getfield 38, 3) := by decide +kernel
theorem dX8_laysAll_30 : decode cX8_laysAll 30 = .ok (.iload_n 1, 1) := by decide +kernel
theorem dX8_laysAll_31 : decode cX8_laysAll 31 = .ok (.baload, 1) := by decide +kernel
theorem dX8_laysAll_32 : decode cX8_laysAll 32 = .ok (.ifCond .eq 31, 3) := by decide +kernel
theorem dX8_laysAll_35 : decode cX8_laysAll 35 = .ok (.aload_n 0, 1) := by decide +kernel
theorem dX8_laysAll_36 : decode cX8_laysAll 36 = .ok (.getfield 32, 3) := by decide +kernel
theorem dX8_laysAll_39 : decode cX8_laysAll 39 = .ok (.aload_n 0, 1) := by decide +kernel
theorem dX8_laysAll_40 : decode cX8_laysAll 40 = .ok (.getfield 7, 3) := by decide +kernel
theorem dX8_laysAll_43 : decode cX8_laysAll 43 = .ok (.iconst 0, 1) := by decide +kernel
theorem dX8_laysAll_44 : decode cX8_laysAll 44 = .ok (.iaload, 1) := by decide +kernel
theorem dX8_laysAll_45 : decode cX8_laysAll 45 = .ok (.iaload, 1) := by decide +kernel
theorem dX8_laysAll_46 : decode cX8_laysAll 46 = .ok (.aload_n 0, 1) := by decide +kernel
theorem dX8_laysAll_47 : decode cX8_laysAll 47 = .ok (.getfield 35, 3) := by decide +kernel
theorem dX8_laysAll_50 : decode cX8_laysAll 50 = .ok (.aload_n 0, 1) := by decide +kernel
theorem dX8_laysAll_51 : decode cX8_laysAll 51 = .ok (.getfield 7, 3) := by decide +kernel
theorem dX8_laysAll_54 : decode cX8_laysAll 54 = .ok (.iconst 0, 1) := by decide +kernel
theorem dX8_laysAll_55 : decode cX8_laysAll 55 = .ok (.iaload, 1) := by decide +kernel
theorem dX8_laysAll_56 : decode cX8_laysAll 56 = .ok (.iaload, 1) := by decide +kernel
theorem dX8_laysAll_57 : decode cX8_laysAll 57 = .ok (.invokestatic 219, 3) := by decide +kernel
theorem dX8_laysAll_60 : decode cX8_laysAll 60 = .ok (.goto 4, 3) := by decide +kernel
theorem dX8_laysAll_63 : decode cX8_laysAll 63 = .ok (.iconst (-1), 1) := by decide +kernel
theorem dX8_laysAll_64 : decode cX8_laysAll 64 = .ok (.iastore, 1) := by decide +kernel
theorem dX8_laysAll_65 : decode cX8_laysAll 65 = .ok (.iinc 1 1, 3) := by decide +kernel
theorem dX8_laysAll_68 : decode cX8_laysAll 68 = .ok (.goto (-66), 3) := by decide +kernel
theorem dX8_laysAll_71 : decode cX8_laysAll 71 = .ok (.return_, 1) := by decide +kernel
theorem dX8_freePoses_0 : decode cX8_freePoses 0 = .ok (.aload_n 0, 1) := by decide +kernel
theorem dX8_freePoses_1 : decode cX8_freePoses 1 = .ok (.aload_n 0, 1) := by decide +kernel
theorem dX8_freePoses_2 : decode cX8_freePoses 2 = .ok (.invokevirtual 222, 3) := by decide +kernel
theorem dX8_freePoses_5 : decode cX8_freePoses 5 = .ok (.ifCond .eq 7, 3) := by decide +kernel
theorem dX8_freePoses_8 : decode cX8_freePoses 8 = .ok (.iconst 1, 1) := by decide +kernel
theorem dX8_freePoses_9 : decode cX8_freePoses 9 = .ok (.goto 4, 3) := by decide +kernel
theorem dX8_freePoses_12 : decode cX8_freePoses 12 = .ok (.iconst 0, 1) := by decide +kernel
theorem dX8_freePoses_13 : decode cX8_freePoses 13 = .ok (.putfield 76, 3) := by decide +kernel
theorem dX8_freePoses_16 : decode cX8_freePoses 16 = .ok (.aload_n 0, 1) := by decide +kernel
theorem dX8_freePoses_17 : decode cX8_freePoses 17 = .ok (.getfield 76, 3) := by decide +kernel
theorem dX8_freePoses_20 : decode cX8_freePoses 20 = .ok (.ifCond .le 7, 3) := by decide +kernel
theorem dX8_freePoses_23 : decode cX8_freePoses 23 = .ok (.iconst 0, 1) := by decide +kernel
theorem dX8_freePoses_24 : decode cX8_freePoses 24 = .ok (.goto 8, 3) := by decide +kernel
theorem dX8_freePoses_27 : decode cX8_freePoses 27 = .ok (.aload_n 0, 1) := by decide +kernel
theorem dX8_freePoses_28 : decode cX8_freePoses 28 = .ok (.iconst (-1), 1) := by decide +kernel
theorem dX8_freePoses_29 : decode cX8_freePoses 29 = .ok (.invokevirtual 225, 3) := by decide +kernel
theorem dX8_freePoses_32 : decode cX8_freePoses 32 = .ok (.ireturn, 1) := by decide +kernel
theorem dX8_freeAt_0 : decode cX8_freeAt 0 = .ok (.aload_n 0, 1) := by decide +kernel
theorem dX8_freeAt_1 : decode cX8_freeAt 1 = .ok (.invokevirtual 228, 3) := by decide +kernel
theorem dX8_freeAt_4 : decode cX8_freeAt 4 = .ok (.iconst 0, 1) := by decide +kernel
theorem dX8_freeAt_5 : decode cX8_freeAt 5 = .ok (.istore_n 2, 1) := by decide +kernel
theorem dX8_freeAt_6 : decode cX8_freeAt 6 = .ok (.iconst 0, 1) := by decide +kernel
theorem dX8_freeAt_7 : decode cX8_freeAt 7 = .ok (.istore_n 3, 1) := by decide +kernel
theorem dX8_freeAt_8 : decode cX8_freeAt 8 = .ok (.iload_n 3, 1) := by decide +kernel
theorem dX8_freeAt_9 : decode cX8_freeAt 9 = .ok (.aload_n 0, 1) := by decide +kernel
theorem dX8_freeAt_10 : decode cX8_freeAt 10 = .ok (.invokevirtual 133, 3) := by decide +kernel
theorem dX8_freeAt_13 : decode cX8_freeAt 13 = .ok (.if_icmp .ge 40, 3) := by decide +kernel
theorem dX8_freeAt_16 : decode cX8_freeAt 16 = .ok (.iload_n 2, 1) := by decide +kernel
theorem dX8_freeAt_17 : decode cX8_freeAt 17 = .ok (.aload_n 0, 1) := by decide +kernel
theorem dX8_freeAt_18 : decode cX8_freeAt 18 = .ok (.getfield 38, 3) := by decide +kernel
theorem dX8_freeAt_21 : decode cX8_freeAt 21 = .ok (.iload_n 3, 1) := by decide +kernel
theorem dX8_freeAt_22 : decode cX8_freeAt 22 = .ok (.baload, 1) := by decide +kernel
theorem dX8_freeAt_23 : decode cX8_freeAt 23 = .ok (.ifCond .eq 21, 3) := by decide +kernel
theorem dX8_freeAt_26 : decode cX8_freeAt 26 = .ok (.iload_n 1, 1) := by decide +kernel
theorem dX8_freeAt_27 : decode cX8_freeAt 27 = .ok (.ifCond .lt 13, 3) := by decide +kernel
theorem dX8_freeAt_30 : decode cX8_freeAt 30 = .ok (.aload_n 0, 1) := by decide +kernel
theorem dX8_freeAt_31 : decode cX8_freeAt 31 = .ok (.getfield 42, 3) := by decide +kernel
theorem dX8_freeAt_34 : decode cX8_freeAt 34 = .ok (.iload_n 3, 1) := by decide +kernel
theorem dX8_freeAt_35 : decode cX8_freeAt 35 = .ok (.iaload, 1) := by decide +kernel
theorem dX8_freeAt_36 : decode cX8_freeAt 36 = .ok (.iload_n 1, 1) := by decide +kernel
theorem dX8_freeAt_37 : decode cX8_freeAt 37 = .ok (.if_icmp .ne 7, 3) := by decide +kernel
theorem dX8_freeAt_40 : decode cX8_freeAt 40 = .ok (.iconst 1, 1) := by decide +kernel
theorem dX8_freeAt_41 : decode cX8_freeAt 41 = .ok (.goto 4, 3) := by decide +kernel
theorem dX8_freeAt_44 : decode cX8_freeAt 44 = .ok (.iconst 0, 1) := by decide +kernel
theorem dX8_freeAt_45 : decode cX8_freeAt 45 = .ok (.iadd, 1) := by decide +kernel
theorem dX8_freeAt_46 : decode cX8_freeAt 46 = .ok (.istore_n 2, 1) := by decide +kernel
theorem dX8_freeAt_47 : decode cX8_freeAt 47 = .ok (.iinc 3 1, 3) := by decide +kernel
theorem dX8_freeAt_50 : decode cX8_freeAt 50 = .ok (.goto (-42), 3) := by decide +kernel
theorem dX8_freeAt_53 : decode cX8_freeAt 53 = .ok (.iload_n 2, 1) := by decide +kernel
theorem dX8_freeAt_54 : decode cX8_freeAt 54 = .ok (.ireturn, 1) := by decide +kernel
theorem dX8_isPose_0 : decode cX8_isPose 0 = .ok (.iload_n 1, 1) := by decide +kernel
theorem dX8_isPose_1 : decode cX8_isPose 1 = .ok (.iconst 0, 1) := by decide +kernel
theorem dX8_isPose_2 : decode cX8_isPose 2 = .ok (.aload_n 0, 1) := by decide +kernel
theorem dX8_isPose_3 : decode cX8_isPose 3 = .ok (.invokevirtual 133, 3) := by decide +kernel
theorem dX8_isPose_6 : decode cX8_isPose 6 = .ok (.iconst 1, 1) := by decide +kernel
theorem dX8_isPose_7 : decode cX8_isPose 7 = .ok (.isub, 1) := by decide +kernel
theorem dX8_isPose_8 : decode cX8_isPose 8 = .ok (.invokestatic 79, 3) := by decide +kernel
theorem dX8_isPose_11 : decode cX8_isPose 11 = .ok (.ireturn, 1) := by decide +kernel
theorem dX8_poseValue_0 : decode cX8_poseValue 0 = .ok (.aload_n 0, 1) := by decide +kernel
theorem dX8_poseValue_1 : decode cX8_poseValue 1 = .ok (.aload_n 0, 1) := by decide +kernel
theorem dX8_poseValue_2 : decode cX8_poseValue 2 = .ok (.iload_n 1, 1) := by decide +kernel
theorem dX8_poseValue_3 : decode cX8_poseValue 3 = .ok (.invokevirtual 231, 3) := by decide +kernel
theorem dX8_poseValue_6 : decode cX8_poseValue 6 = .ok (.ifCond .eq 15, 3) := by decide +kernel
theorem dX8_poseValue_9 : decode cX8_poseValue 9 = .ok (.aload_n 0, 1) := by decide +kernel
theorem dX8_poseValue_10 : decode cX8_poseValue 10 = .ok (.iload_n 2, 1) := by decide +kernel
theorem dX8_poseValue_11 : decode cX8_poseValue 11 = .ok (.invokevirtual 105, 3) := by decide +kernel
theorem dX8_poseValue_14 : decode cX8_poseValue 14 = .ok (.ifCond .eq 7, 3) := by decide +kernel
theorem dX8_poseValue_17 : decode cX8_poseValue 17 = .ok (.iconst 0, 1) := by decide +kernel
theorem dX8_poseValue_18 : decode cX8_poseValue 18 = .ok (.goto 4, 3) := by decide +kernel
theorem dX8_poseValue_21 : decode cX8_poseValue 21 = .ok (.iconst 1, 1) := by decide +kernel
theorem dX8_poseValue_22 : decode cX8_poseValue 22 = .ok (.putfield 76, 3) := by decide +kernel
theorem dX8_poseValue_25 : decode cX8_poseValue 25 = .ok (.aload_n 0, 1) := by decide +kernel
theorem dX8_poseValue_26 : decode cX8_poseValue 26 = .ok (.getfield 76, 3) := by decide +kernel
theorem dX8_poseValue_29 : decode cX8_poseValue 29 = .ok (.ifCond .le 5, 3) := by decide +kernel
theorem dX8_poseValue_32 : decode cX8_poseValue 32 = .ok (.iconst 0, 1) := by decide +kernel
theorem dX8_poseValue_33 : decode cX8_poseValue 33 = .ok (.ireturn, 1) := by decide +kernel
theorem dX8_poseValue_34 : decode cX8_poseValue 34 = .ok (.aload_n 0, 1) := by decide +kernel
theorem dX8_poseValue_35 : decode cX8_poseValue 35 = .ok (.iload_n 1, 1) := by decide +kernel
theorem dX8_poseValue_36 : decode cX8_poseValue 36 = .ok (.invokevirtual 174, 3) := by decide +kernel
theorem dX8_poseValue_39 : decode cX8_poseValue 39 = .ok (.aload_n 0, 1) := by decide +kernel
theorem dX8_poseValue_40 : decode cX8_poseValue 40 = .ok (.getfield 26, 3) := by decide +kernel
theorem dX8_poseValue_43 : decode cX8_poseValue 43 = .ok (.iload_n 2, 1) := by decide +kernel
theorem dX8_poseValue_44 : decode cX8_poseValue 44 = .ok (.iaload, 1) := by decide +kernel
theorem dX8_poseValue_45 : decode cX8_poseValue 45 = .ok (.ireturn, 1) := by decide +kernel
theorem dX8_isFreePose_0 : decode cX8_isFreePose 0 = .ok (.aload_n 0, 1) := by decide +kernel
theorem dX8_isFreePose_1 : decode cX8_isFreePose 1 = .ok (.aload_n 0, 1) := by decide +kernel
theorem dX8_isFreePose_2 : decode cX8_isFreePose 2 = .ok (.iload_n 1, 1) := by decide +kernel
theorem dX8_isFreePose_3 : decode cX8_isFreePose 3 = .ok (.invokevirtual 231, 3) := by decide +kernel
theorem dX8_isFreePose_6 : decode cX8_isFreePose 6 = .ok (.ifCond .eq 7, 3) := by decide +kernel
theorem dX8_isFreePose_9 : decode cX8_isFreePose 9 = .ok (.iconst 0, 1) := by decide +kernel
theorem dX8_isFreePose_10 : decode cX8_isFreePose 10 = .ok (.goto 4, 3) := by decide +kernel
theorem dX8_isFreePose_13 : decode cX8_isFreePose 13 = .ok (.iconst 1, 1) := by decide +kernel
theorem dX8_isFreePose_14 : decode cX8_isFreePose 14 = .ok (.putfield 76, 3) := by decide +kernel
theorem dX8_isFreePose_17 : decode cX8_isFreePose 17 = .ok (.aload_n 0, 1) := by decide +kernel
theorem dX8_isFreePose_18 : decode cX8_isFreePose 18 = .ok (.getfield 76, 3) := by decide +kernel
theorem dX8_isFreePose_21 : decode cX8_isFreePose 21 = .ok (.ifCond .ne 15, 3) := by decide +kernel
theorem dX8_isFreePose_24 : decode cX8_isFreePose 24 = .ok (.aload_n 0, 1) := by decide +kernel
theorem dX8_isFreePose_25 : decode cX8_isFreePose 25 = .ok (.iload_n 1, 1) := by decide +kernel
theorem dX8_isFreePose_26 : decode cX8_isFreePose 26 = .ok (.invokevirtual 184, 3) := by decide +kernel
theorem dX8_isFreePose_29 : decode cX8_isFreePose 29 = .ok (.ifCond .eq 7, 3) := by decide +kernel
theorem dX8_isFreePose_32 : decode cX8_isFreePose 32 = .ok (.iconst 1, 1) := by decide +kernel
theorem dX8_isFreePose_33 : decode cX8_isFreePose 33 = .ok (.goto 4, 3) := by decide +kernel
theorem dX8_isFreePose_36 : decode cX8_isFreePose 36 = .ok (.iconst 0, 1) := by decide +kernel
theorem dX8_isFreePose_37 : decode cX8_isFreePose 37 = .ok (.ireturn, 1) := by decide +kernel
theorem dX8_posesAt_0 : decode cX8_posesAt 0 = .ok (.aload_n 0, 1) := by decide +kernel
theorem dX8_posesAt_1 : decode cX8_posesAt 1 = .ok (.iload_n 1, 1) := by decide +kernel
theorem dX8_posesAt_2 : decode cX8_posesAt 2 = .ok (.iload_n 2, 1) := by decide +kernel
theorem dX8_posesAt_3 : decode cX8_posesAt 3 = .ok (.invokestatic 109, 3) := by decide +kernel
theorem dX8_posesAt_6 : decode cX8_posesAt 6 = .ok (.ifCond .eq 18, 3) := by decide +kernel
theorem dX8_posesAt_9 : decode cX8_posesAt 9 = .ok (.aload_n 0, 1) := by decide +kernel
theorem dX8_posesAt_10 : decode cX8_posesAt 10 = .ok (.invokevirtual 222, 3) := by decide +kernel
theorem dX8_posesAt_13 : decode cX8_posesAt 13 = .ok (.ifCond .eq 7, 3) := by decide +kernel
theorem dX8_posesAt_16 : decode cX8_posesAt 16 = .ok (.iconst 2, 1) := by decide +kernel
theorem dX8_posesAt_17 : decode cX8_posesAt 17 = .ok (.goto 8, 3) := by decide +kernel
theorem dX8_posesAt_20 : decode cX8_posesAt 20 = .ok (.iconst 0, 1) := by decide +kernel
theorem dX8_posesAt_21 : decode cX8_posesAt 21 = .ok (.goto 4, 3) := by decide +kernel
theorem dX8_posesAt_24 : decode cX8_posesAt 24 = .ok (.iconst 1, 1) := by decide +kernel
theorem dX8_posesAt_25 : decode cX8_posesAt 25 = .ok (.putfield 76, 3) := by decide +kernel
theorem dX8_posesAt_28 : decode cX8_posesAt 28 = .ok (.aload_n 0, 1) := by decide +kernel
theorem dX8_posesAt_29 : decode cX8_posesAt 29 = .ok (.getfield 76, 3) := by decide +kernel
theorem dX8_posesAt_32 : decode cX8_posesAt 32 = .ok (.ifCond .le 7, 3) := by decide +kernel
theorem dX8_posesAt_35 : decode cX8_posesAt 35 = .ok (.iconst 0, 1) := by decide +kernel
theorem dX8_posesAt_36 : decode cX8_posesAt 36 = .ok (.goto 12, 3) := by decide +kernel
theorem dX8_posesAt_39 : decode cX8_posesAt 39 = .ok (.aload_n 0, 1) := by decide +kernel
theorem dX8_posesAt_40 : decode cX8_posesAt 40 = .ok (.iload_n 1, 1) := by decide +kernel
theorem dX8_posesAt_41 : decode cX8_posesAt 41 = .ok (.iload_n 2, 1) := by decide +kernel
theorem dX8_posesAt_42 : decode cX8_posesAt 42 = .ok (.invokestatic 219, 3) := by decide +kernel
theorem dX8_posesAt_45 : decode cX8_posesAt 45 = .ok (.invokevirtual 225, 3) := by decide +kernel
theorem dX8_posesAt_48 : decode cX8_posesAt 48 = .ok (.ireturn, 1) := by decide +kernel
theorem dX8_forgets_0 : decode cX8_forgets 0 = .ok (.aload_n 0, 1) := by decide +kernel
theorem dX8_forgets_1 : decode cX8_forgets 1 = .ok (.iconst 0, 1) := by decide +kernel
theorem dX8_forgets_2 : decode cX8_forgets 2 = .ok (.putfield 234, 3) := by decide +kernel
theorem dX8_forgets_5 : decode cX8_forgets 5 = .ok (.iconst 0, 1) := by decide +kernel
theorem dX8_forgets_6 : decode cX8_forgets 6 = .ok (.istore_n 1, 1) := by decide +kernel
theorem dX8_forgets_7 : decode cX8_forgets 7 = .ok (.iload_n 1, 1) := by decide +kernel
theorem dX8_forgets_8 : decode cX8_forgets 8 = .ok (.aload_n 0, 1) := by decide +kernel
theorem dX8_forgets_9 : decode cX8_forgets 9 = .ok (.invokevirtual 133, 3) := by decide +kernel
theorem dX8_forgets_12 : decode cX8_forgets 12 = .ok (.if_icmp .ge 16, 3) := by decide +kernel
theorem dX8_forgets_15 : decode cX8_forgets 15 = .ok (.aload_n 0, 1) := by decide +kernel
theorem dX8_forgets_16 : decode cX8_forgets 16 = .ok (.getfield 45, 3) := by decide +kernel
theorem dX8_forgets_19 : decode cX8_forgets 19 = .ok (.iload_n 1, 1) := by decide +kernel
theorem dX8_forgets_20 : decode cX8_forgets 20 = .ok (.iconst (-1), 1) := by decide +kernel
theorem dX8_forgets_21 : decode cX8_forgets 21 = .ok (.iastore, 1) := by decide +kernel
theorem dX8_forgets_22 : decode cX8_forgets 22 = .ok (.iinc 1 1, 3) := by decide +kernel
theorem dX8_forgets_25 : decode cX8_forgets 25 = .ok (.goto (-18), 3) := by decide +kernel
theorem dX8_forgets_28 : decode cX8_forgets 28 = .ok (.return_, 1) := by decide +kernel
theorem dX8_starts_0 : decode cX8_starts 0 = .ok (.aload_n 0, 1) := by decide +kernel
theorem dX8_starts_1 : decode cX8_starts 1 = .ok (.getfield 45, 3) := by decide +kernel
theorem dX8_starts_4 : decode cX8_starts 4 = .ok (.iload_n 1, 1) := by decide +kernel
theorem dX8_starts_5 : decode cX8_starts 5 = .ok (.iconst 0, 1) := by decide +kernel
theorem dX8_starts_6 : decode cX8_starts 6 = .ok (.iastore, 1) := by decide +kernel
theorem dX8_starts_7 : decode cX8_starts 7 = .ok (.aload_n 0, 1) := by decide +kernel
theorem dX8_starts_8 : decode cX8_starts 8 = .ok (.getfield 48, 3) := by decide +kernel
theorem dX8_starts_11 : decode cX8_starts 11 = .ok (.aload_n 0, 1) := by decide +kernel
theorem dX8_starts_12 : decode cX8_starts 12 = .ok (.getfield 234, 3) := by decide +kernel
theorem dX8_starts_15 : decode cX8_starts 15 = .ok (.iload_n 1, 1) := by decide +kernel
theorem dX8_starts_16 : decode cX8_starts 16 = .ok (.iastore, 1) := by decide +kernel
theorem dX8_starts_17 : decode cX8_starts 17 = .ok (.aload_n 0, 1) := by decide +kernel
theorem dX8_starts_18 : decode cX8_starts 18 = .ok (.dup, 1) := by decide +kernel
theorem dX8_starts_19 : decode cX8_starts 19 = .ok (.getfield 234, 3) := by decide +kernel
theorem dX8_starts_22 : decode cX8_starts 22 = .ok (.iconst 1, 1) := by decide +kernel
theorem dX8_starts_23 : decode cX8_starts 23 = .ok (.iadd, 1) := by decide +kernel
theorem dX8_starts_24 : decode cX8_starts 24 = .ok (.putfield 234, 3) := by decide +kernel
theorem dX8_starts_27 : decode cX8_starts 27 = .ok (.return_, 1) := by decide +kernel
theorem dX8_spreads_0 : decode cX8_spreads 0 = .ok (.iload_n 1, 1) := by decide +kernel
theorem dX8_spreads_1 : decode cX8_spreads 1 = .ok (.istore_n 2, 1) := by decide +kernel
theorem dX8_spreads_2 : decode cX8_spreads 2 = .ok (.iload_n 2, 1) := by decide +kernel
theorem dX8_spreads_3 : decode cX8_spreads 3 = .ok (.aload_n 0, 1) := by decide +kernel
theorem dX8_spreads_4 : decode cX8_spreads 4 = .ok (.getfield 234, 3) := by decide +kernel
theorem dX8_spreads_7 : decode cX8_spreads 7 = .ok (.if_icmp .ge 108, 3) := by decide +kernel
theorem dX8_spreads_10 : decode cX8_spreads 10 = .ok (.iconst 0, 1) := by decide +kernel
theorem dX8_spreads_11 : decode cX8_spreads 11 = .ok (.istore_n 3, 1) := by decide +kernel
theorem dX8_spreads_12 : decode cX8_spreads 12 = .ok (.iload_n 3, 1) := by decide +kernel
theorem dX8_spreads_13 : decode cX8_spreads 13 = .ok (.iconst 2, 1) := by decide +kernel
theorem dX8_spreads_14 : decode cX8_spreads 14 = .ok (.aload_n 0, 1) := by decide +kernel
theorem dX8_spreads_15 : decode cX8_spreads 15 = .ok (.getfield 7, 3) := by decide +kernel
theorem dX8_spreads_18 : decode cX8_spreads 18 = .ok (.iconst 0, 1) := by decide +kernel
theorem dX8_spreads_19 : decode cX8_spreads 19 = .ok (.iaload, 1) := by decide +kernel
theorem dX8_spreads_20 : decode cX8_spreads 20 = .ok (.imul, 1) := by decide +kernel
theorem dX8_spreads_21 : decode cX8_spreads 21 = .ok (.if_icmp .ge 88, 3) := by decide +kernel
theorem dX8_spreads_24 : decode cX8_spreads 24 = .ok (.aload_n 0, 1) := by decide +kernel
theorem dX8_spreads_25 : decode cX8_spreads 25 = .ok (.aload_n 0, 1) := by decide +kernel
theorem dX8_spreads_26 : decode cX8_spreads 26 = .ok (.getfield 48, 3) := by decide +kernel
theorem dX8_spreads_29 : decode cX8_spreads 29 = .ok (.iload_n 2, 1) := by decide +kernel
theorem dX8_spreads_30 : decode cX8_spreads 30 = .ok (.iaload, 1) := by decide +kernel
theorem dX8_spreads_31 : decode cX8_spreads 31 = .ok (.iload_n 3, 1) := by decide +kernel
theorem dX8_spreads_32 : decode cX8_spreads 32 = .ok (.invokevirtual 196, 3) := by decide +kernel
theorem dX8_spreads_35 : decode cX8_spreads 35 = .ok (.istore 4, 2) := by decide +kernel
theorem dX8_spreads_37 : decode cX8_spreads 37 = .ok (.iload 4, 2) := by decide +kernel
theorem dX8_spreads_39 : decode cX8_spreads 39 = .ok (.ifCond .lt 64, 3) := by decide +kernel
theorem dX8_spreads_42 : decode cX8_spreads 42 = .ok (.aload_n 0, 1) := by decide +kernel
theorem dX8_spreads_43 : decode cX8_spreads 43 = .ok (.getfield 38, 3) := by decide +kernel
theorem dX8_spreads_46 : decode cX8_spreads 46 = .ok (.iload 4, 2) := by decide +kernel
theorem dX8_spreads_48 : decode cX8_spreads 48 = .ok (.baload, 1) := by decide +kernel
theorem dX8_spreads_49 : decode cX8_spreads 49 = .ok (.ifCond .eq 54, 3) := by decide +kernel
theorem dX8_spreads_52 : decode cX8_spreads 52 = .ok (.aload_n 0, 1) := by decide +kernel
theorem dX8_spreads_53 : decode cX8_spreads 53 = .ok (.getfield 45, 3) := by decide +kernel
theorem dX8_spreads_56 : decode cX8_spreads 56 = .ok (.iload 4, 2) := by decide +kernel
theorem dX8_spreads_58 : decode cX8_spreads 58 = .ok (.iaload, 1) := by decide +kernel
theorem dX8_spreads_59 : decode cX8_spreads 59 = .ok (.ifCond .ge 44, 3) := by decide +kernel
theorem dX8_spreads_62 : decode cX8_spreads 62 = .ok (.aload_n 0, 1) := by decide +kernel
theorem dX8_spreads_63 : decode cX8_spreads 63 = .ok (.getfield 45, 3) := by decide +kernel
theorem dX8_spreads_66 : decode cX8_spreads 66 = .ok (.iload 4, 2) := by decide +kernel
theorem dX8_spreads_68 : decode cX8_spreads 68 = .ok (.aload_n 0, 1) := by decide +kernel
theorem dX8_spreads_69 : decode cX8_spreads 69 = .ok (.getfield 45, 3) := by decide +kernel
theorem dX8_spreads_72 : decode cX8_spreads 72 = .ok (.aload_n 0, 1) := by decide +kernel
theorem dX8_spreads_73 : decode cX8_spreads 73 = .ok (.getfield 48, 3) := by decide +kernel
theorem dX8_spreads_76 : decode cX8_spreads 76 = .ok (.iload_n 2, 1) := by decide +kernel
theorem dX8_spreads_77 : decode cX8_spreads 77 = .ok (.iaload, 1) := by decide +kernel
theorem dX8_spreads_78 : decode cX8_spreads 78 = .ok (.iaload, 1) := by decide +kernel
theorem dX8_spreads_79 : decode cX8_spreads 79 = .ok (.iconst 1, 1) := by decide +kernel
theorem dX8_spreads_80 : decode cX8_spreads 80 = .ok (.iadd, 1) := by decide +kernel
theorem dX8_spreads_81 : decode cX8_spreads 81 = .ok (.iastore, 1) := by decide +kernel
theorem dX8_spreads_82 : decode cX8_spreads 82 = .ok (.aload_n 0, 1) := by decide +kernel
theorem dX8_spreads_83 : decode cX8_spreads 83 = .ok (.getfield 48, 3) := by decide +kernel
theorem dX8_spreads_86 : decode cX8_spreads 86 = .ok (.aload_n 0, 1) := by decide +kernel
theorem dX8_spreads_87 : decode cX8_spreads 87 = .ok (.getfield 234, 3) := by decide +kernel
theorem dX8_spreads_90 : decode cX8_spreads 90 = .ok (.iload 4, 2) := by decide +kernel
theorem dX8_spreads_92 : decode cX8_spreads 92 = .ok (.iastore, 1) := by decide +kernel
theorem dX8_spreads_93 : decode cX8_spreads 93 = .ok (.aload_n 0, 1) := by decide +kernel
theorem dX8_spreads_94 : decode cX8_spreads 94 = .ok (.dup, 1) := by decide +kernel
theorem dX8_spreads_95 : decode cX8_spreads 95 = .ok (.getfield 234, 3) := by decide +kernel
theorem dX8_spreads_98 : decode cX8_spreads 98 = .ok (.iconst 1, 1) := by decide +kernel
theorem dX8_spreads_99 : decode cX8_spreads 99 = .ok (.iadd, 1) := by decide +kernel
theorem dX8_spreads_100 : decode cX8_spreads 100 = .ok (.putfield 234, 3) := by decide +kernel
theorem dX8_spreads_103 : decode cX8_spreads 103 = .ok (.iinc 3 1, 3) := by decide +kernel
theorem dX8_spreads_106 : decode cX8_spreads 106 = .ok (.goto (-94), 3) := by decide +kernel
theorem dX8_spreads_109 : decode cX8_spreads 109 = .ok (.iinc 2 1, 3) := by decide +kernel
theorem dX8_spreads_112 : decode cX8_spreads 112 = .ok (.goto (-110), 3) := by decide +kernel
theorem dX8_spreads_115 : decode cX8_spreads 115 = .ok (.return_, 1) := by decide +kernel
theorem dX8_connects_0 : decode cX8_connects 0 = .ok (.aload_n 0, 1) := by decide +kernel
theorem dX8_connects_1 : decode cX8_connects 1 = .ok (.invokevirtual 228, 3) := by decide +kernel
theorem dX8_connects_4 : decode cX8_connects 4 = .ok (.aload_n 0, 1) := by decide +kernel
theorem dX8_connects_5 : decode cX8_connects 5 = .ok (.invokevirtual 237, 3) := by decide +kernel
theorem dX8_connects_8 : decode cX8_connects 8 = .ok (.aload_n 0, 1) := by decide +kernel
theorem dX8_connects_9 : decode cX8_connects 9 = .ok (.getfield 38, 3) := by decide +kernel
theorem dX8_connects_12 : decode cX8_connects 12 = .ok (.aload_n 0, 1) := by decide +kernel
theorem dX8_connects_13 : decode cX8_connects 13 = .ok (.invokevirtual 181, 3) := by decide +kernel
theorem dX8_connects_16 : decode cX8_connects 16 = .ok (.baload, 1) := by decide +kernel
theorem dX8_connects_17 : decode cX8_connects 17 = .ok (.ifCond .eq 16, 3) := by decide +kernel
theorem dX8_connects_20 : decode cX8_connects 20 = .ok (.aload_n 0, 1) := by decide +kernel
theorem dX8_connects_21 : decode cX8_connects 21 = .ok (.aload_n 0, 1) := by decide +kernel
theorem dX8_connects_22 : decode cX8_connects 22 = .ok (.invokevirtual 181, 3) := by decide +kernel
theorem dX8_connects_25 : decode cX8_connects 25 = .ok (.invokevirtual 240, 3) := by decide +kernel
theorem dX8_connects_28 : decode cX8_connects 28 = .ok (.aload_n 0, 1) := by decide +kernel
theorem dX8_connects_29 : decode cX8_connects 29 = .ok (.iconst 0, 1) := by decide +kernel
theorem dX8_connects_30 : decode cX8_connects 30 = .ok (.invokevirtual 243, 3) := by decide +kernel
theorem dX8_connects_33 : decode cX8_connects 33 = .ok (.return_, 1) := by decide +kernel
theorem dX8_connected_0 : decode cX8_connected 0 = .ok (.aload_n 0, 1) := by decide +kernel
theorem dX8_connected_1 : decode cX8_connected 1 = .ok (.aload_n 0, 1) := by decide +kernel
theorem dX8_connected_2 : decode cX8_connected 2 = .ok (.invokevirtual 222, 3) := by decide +kernel
theorem dX8_connected_5 : decode cX8_connected 5 = .ok (.ifCond .eq 7, 3) := by decide +kernel
theorem dX8_connected_8 : decode cX8_connected 8 = .ok (.iconst 1, 1) := by decide +kernel
theorem dX8_connected_9 : decode cX8_connected 9 = .ok (.goto 4, 3) := by decide +kernel
theorem dX8_connected_12 : decode cX8_connected 12 = .ok (.iconst 0, 1) := by decide +kernel
theorem dX8_connected_13 : decode cX8_connected 13 = .ok (.putfield 76, 3) := by decide +kernel
theorem dX8_connected_16 : decode cX8_connected 16 = .ok (.aload_n 0, 1) := by decide +kernel
theorem dX8_connected_17 : decode cX8_connected 17 = .ok (.getfield 76, 3) := by decide +kernel
theorem dX8_connected_20 : decode cX8_connected 20 = .ok (.ifCond .le 5, 3) := by decide +kernel
theorem dX8_connected_23 : decode cX8_connected 23 = .ok (.iconst 0, 1) := by decide +kernel
theorem dX8_connected_24 : decode cX8_connected 24 = .ok (.ireturn, 1) := by decide +kernel
theorem dX8_connected_25 : decode cX8_connected 25 = .ok (.aload_n 0, 1) := by decide +kernel
theorem dX8_connected_26 : decode cX8_connected 26 = .ok (.invokevirtual 246, 3) := by decide +kernel
theorem dX8_connected_29 : decode cX8_connected 29 = .ok (.aload_n 0, 1) := by decide +kernel
theorem dX8_connected_30 : decode cX8_connected 30 = .ok (.getfield 234, 3) := by decide +kernel
theorem dX8_connected_33 : decode cX8_connected 33 = .ok (.ireturn, 1) := by decide +kernel
theorem dX8_counts_0 : decode cX8_counts 0 = .ok (.iconst 0, 1) := by decide +kernel
theorem dX8_counts_1 : decode cX8_counts 1 = .ok (.istore_n 1, 1) := by decide +kernel
theorem dX8_counts_2 : decode cX8_counts 2 = .ok (.iconst 0, 1) := by decide +kernel
theorem dX8_counts_3 : decode cX8_counts 3 = .ok (.istore_n 2, 1) := by decide +kernel
theorem dX8_counts_4 : decode cX8_counts 4 = .ok (.iload_n 2, 1) := by decide +kernel
theorem dX8_counts_5 : decode cX8_counts 5 = .ok (.sipush 441, 3) := by decide +kernel
theorem dX8_counts_8 : decode cX8_counts 8 = .ok (.if_icmp .ge 16, 3) := by decide +kernel
theorem dX8_counts_11 : decode cX8_counts 11 = .ok (.aload_n 0, 1) := by decide +kernel
theorem dX8_counts_12 : decode cX8_counts 12 = .ok (.getfield 51, 3) := by decide +kernel
theorem dX8_counts_15 : decode cX8_counts 15 = .ok (.iload_n 2, 1) := by decide +kernel
theorem dX8_counts_16 : decode cX8_counts 16 = .ok (.iconst 0, 1) := by decide +kernel
theorem dX8_counts_17 : decode cX8_counts 17 = .ok (.iastore, 1) := by decide +kernel
theorem dX8_counts_18 : decode cX8_counts 18 = .ok (.iinc 2 1, 3) := by decide +kernel
theorem dX8_counts_21 : decode cX8_counts 21 = .ok (.goto (-17), 3) := by decide +kernel
theorem dX8_counts_24 : decode cX8_counts 24 = .ok (.iconst 0, 1) := by decide +kernel
theorem dX8_counts_25 : decode cX8_counts 25 = .ok (.istore_n 2, 1) := by decide +kernel
theorem dX8_counts_26 : decode cX8_counts 26 = .ok (.iload_n 2, 1) := by decide +kernel
theorem dX8_counts_27 : decode cX8_counts 27 = .ok (.aload_n 0, 1) := by decide +kernel
theorem dX8_counts_28 : decode cX8_counts 28 = .ok (.getfield 234, 3) := by decide +kernel
theorem dX8_counts_31 : decode cX8_counts 31 = .ok (.if_icmp .ge 56, 3) := by decide +kernel
theorem dX8_counts_34 : decode cX8_counts 34 = .ok (.iload_n 1, 1) := by decide +kernel
theorem dX8_counts_35 : decode cX8_counts 35 = .ok (.aload_n 0, 1) := by decide +kernel
theorem dX8_counts_36 : decode cX8_counts 36 = .ok (.getfield 51, 3) := by decide +kernel
theorem dX8_counts_39 : decode cX8_counts 39 = .ok (.aload_n 0, 1) := by decide +kernel
theorem dX8_counts_40 : decode cX8_counts 40 = .ok (.getfield 42, 3) := by decide +kernel
theorem dX8_counts_43 : decode cX8_counts 43 = .ok (.aload_n 0, 1) := by decide +kernel
theorem dX8_counts_44 : decode cX8_counts 44 = .ok (.getfield 48, 3) := by decide +kernel
theorem dX8_counts_47 : decode cX8_counts 47 = .ok (.iload_n 2, 1) := by decide +kernel
theorem dX8_counts_48 : decode cX8_counts 48 = .ok (.iaload, 1) := by decide +kernel
theorem dX8_counts_49 : decode cX8_counts 49 = .ok (.iaload, 1) := by decide +kernel
theorem dX8_counts_50 : decode cX8_counts 50 = .ok (.iaload, 1) := by decide +kernel
theorem dX8_counts_51 : decode cX8_counts 51 = .ok (.ifCond .ne 7, 3) := by decide +kernel
theorem dX8_counts_54 : decode cX8_counts 54 = .ok (.iconst 1, 1) := by decide +kernel
theorem dX8_counts_55 : decode cX8_counts 55 = .ok (.goto 4, 3) := by decide +kernel
theorem dX8_counts_58 : decode cX8_counts 58 = .ok (.iconst 0, 1) := by decide +kernel
theorem dX8_counts_59 : decode cX8_counts 59 = .ok (.iadd, 1) := by decide +kernel
theorem dX8_counts_60 : decode cX8_counts 60 = .ok (.istore_n 1, 1) := by decide +kernel
theorem dX8_counts_61 : decode cX8_counts 61 = .ok (.aload_n 0, 1) := by decide +kernel
theorem dX8_counts_62 : decode cX8_counts 62 = .ok (.getfield 51, 3) := by decide +kernel
theorem dX8_counts_65 : decode cX8_counts 65 = .ok (.aload_n 0, 1) := by decide +kernel
theorem dX8_counts_66 : decode cX8_counts 66 = .ok (.getfield 42, 3) := by decide +kernel
theorem dX8_counts_69 : decode cX8_counts 69 = .ok (.aload_n 0, 1) := by decide +kernel
theorem dX8_counts_70 : decode cX8_counts 70 = .ok (.getfield 48, 3) := by decide +kernel
theorem dX8_counts_73 : decode cX8_counts 73 = .ok (.iload_n 2, 1) := by decide +kernel
theorem dX8_counts_74 : decode cX8_counts 74 = .ok (.iaload, 1) := by decide +kernel
theorem dX8_counts_75 : decode cX8_counts 75 = .ok (.iaload, 1) := by decide +kernel
theorem dX8_counts_76 : decode cX8_counts 76 = .ok (.dup2, 1) := by decide +kernel
theorem dX8_counts_77 : decode cX8_counts 77 = .ok (.iaload, 1) := by decide +kernel
theorem dX8_counts_78 : decode cX8_counts 78 = .ok (.iconst 1, 1) := by decide +kernel
theorem dX8_counts_79 : decode cX8_counts 79 = .ok (.iadd, 1) := by decide +kernel
theorem dX8_counts_80 : decode cX8_counts 80 = .ok (.iastore, 1) := by decide +kernel
theorem dX8_counts_81 : decode cX8_counts 81 = .ok (.iinc 2 1, 3) := by decide +kernel
theorem dX8_counts_84 : decode cX8_counts 84 = .ok (.goto (-58), 3) := by decide +kernel
theorem dX8_counts_87 : decode cX8_counts 87 = .ok (.iload_n 1, 1) := by decide +kernel
theorem dX8_counts_88 : decode cX8_counts 88 = .ok (.ireturn, 1) := by decide +kernel
theorem dX8_reachableCells_0 : decode cX8_reachableCells 0 = .ok (.aload_n 0, 1) := by decide +kernel
theorem dX8_reachableCells_1 : decode cX8_reachableCells 1 = .ok (.aload_n 0, 1) := by decide +kernel
theorem dX8_reachableCells_2 : decode cX8_reachableCells 2 = .ok (.invokevirtual 222, 3) := by decide +kernel
theorem dX8_reachableCells_5 : decode cX8_reachableCells 5 = .ok (.ifCond .eq 7, 3) := by decide +kernel
theorem dX8_reachableCells_8 : decode cX8_reachableCells 8 = .ok (.iconst 1, 1) := by decide +kernel
theorem dX8_reachableCells_9 : decode cX8_reachableCells 9 = .ok (.goto 4, 3) := by decide +kernel
theorem dX8_reachableCells_12 : decode cX8_reachableCells 12 = .ok (.iconst 0, 1) := by decide +kernel
theorem dX8_reachableCells_13 : decode cX8_reachableCells 13 = .ok (.putfield 76, 3) := by decide +kernel
theorem dX8_reachableCells_16 : decode cX8_reachableCells 16 = .ok (.aload_n 0, 1) := by decide +kernel
theorem dX8_reachableCells_17 : decode cX8_reachableCells 17 = .ok (.getfield 76, 3) := by decide +kernel
theorem dX8_reachableCells_20 : decode cX8_reachableCells 20 = .ok (.ifCond .le 5, 3) := by decide +kernel
theorem dX8_reachableCells_23 : decode cX8_reachableCells 23 = .ok (.iconst 0, 1) := by decide +kernel
theorem dX8_reachableCells_24 : decode cX8_reachableCells 24 = .ok (.ireturn, 1) := by decide +kernel
theorem dX8_reachableCells_25 : decode cX8_reachableCells 25 = .ok (.aload_n 0, 1) := by decide +kernel
theorem dX8_reachableCells_26 : decode cX8_reachableCells 26 = .ok (.invokevirtual 246, 3) := by decide +kernel
theorem dX8_reachableCells_29 : decode cX8_reachableCells 29 = .ok (.aload_n 0, 1) := by decide +kernel
theorem dX8_reachableCells_30 : decode cX8_reachableCells 30 = .ok (.invokevirtual 249, 3) := by decide +kernel
theorem dX8_reachableCells_33 : decode cX8_reachableCells 33 = .ok (.ireturn, 1) := by decide +kernel
theorem dX8_favorite_0 : decode cX8_favorite 0 = .ok (.aload_n 0, 1) := by decide +kernel
theorem dX8_favorite_1 : decode cX8_favorite 1 = .ok (.aload_n 0, 1) := by decide +kernel
theorem dX8_favorite_2 : decode cX8_favorite 2 = .ok (.invokevirtual 222, 3) := by decide +kernel
theorem dX8_favorite_5 : decode cX8_favorite 5 = .ok (.ifCond .eq 7, 3) := by decide +kernel
theorem dX8_favorite_8 : decode cX8_favorite 8 = .ok (.iconst 1, 1) := by decide +kernel
theorem dX8_favorite_9 : decode cX8_favorite 9 = .ok (.goto 4, 3) := by decide +kernel
theorem dX8_favorite_12 : decode cX8_favorite 12 = .ok (.iconst 0, 1) := by decide +kernel
theorem dX8_favorite_13 : decode cX8_favorite 13 = .ok (.putfield 76, 3) := by decide +kernel
theorem dX8_favorite_16 : decode cX8_favorite 16 = .ok (.aload_n 0, 1) := by decide +kernel
theorem dX8_favorite_17 : decode cX8_favorite 17 = .ok (.getfield 76, 3) := by decide +kernel
theorem dX8_favorite_20 : decode cX8_favorite 20 = .ok (.ifCond .le 5, 3) := by decide +kernel
theorem dX8_favorite_23 : decode cX8_favorite 23 = .ok (.iconst 0, 1) := by decide +kernel
theorem dX8_favorite_24 : decode cX8_favorite 24 = .ok (.ireturn, 1) := by decide +kernel
theorem dX8_favorite_25 : decode cX8_favorite 25 = .ok (.aload_n 0, 1) := by decide +kernel
theorem dX8_favorite_26 : decode cX8_favorite 26 = .ok (.invokevirtual 246, 3) := by decide +kernel
theorem dX8_favorite_29 : decode cX8_favorite 29 = .ok (.aload_n 0, 1) := by decide +kernel
theorem dX8_favorite_30 : decode cX8_favorite 30 = .ok (.getfield 234, 3) := by decide +kernel
theorem dX8_favorite_33 : decode cX8_favorite 33 = .ok (.ifCond .ne 9, 3) := by decide +kernel
theorem dX8_favorite_36 : decode cX8_favorite 36 = .ok (.aload_n 0, 1) := by decide +kernel
theorem dX8_favorite_37 : decode cX8_favorite 37 = .ok (.iconst 2, 1) := by decide +kernel
theorem dX8_favorite_38 : decode cX8_favorite 38 = .ok (.invokevirtual 86, 3) := by decide +kernel
theorem dX8_favorite_41 : decode cX8_favorite 41 = .ok (.ireturn, 1) := by decide +kernel
theorem dX8_favorite_42 : decode cX8_favorite 42 = .ok (.aload_n 0, 1) := by decide +kernel
theorem dX8_favorite_43 : decode cX8_favorite 43 = .ok (.invokevirtual 249, 3) := by decide +kernel
theorem dX8_favorite_46 : decode cX8_favorite 46 = .ok (.pop, 1) := by decide +kernel
theorem dX8_favorite_47 : decode cX8_favorite 47 = .ok (.iconst 0, 1) := by decide +kernel
theorem dX8_favorite_48 : decode cX8_favorite 48 = .ok (.istore_n 2, 1) := by decide +kernel
theorem dX8_favorite_49 : decode cX8_favorite 49 = .ok (.iconst 1, 1) := by decide +kernel
theorem dX8_favorite_50 : decode cX8_favorite 50 = .ok (.istore_n 3, 1) := by decide +kernel
theorem dX8_favorite_51 : decode cX8_favorite 51 = .ok (.iload_n 3, 1) := by decide +kernel
theorem dX8_favorite_52 : decode cX8_favorite 52 = .ok (.sipush 441, 3) := by decide +kernel
theorem dX8_favorite_55 : decode cX8_favorite 55 = .ok (.if_icmp .ge 30, 3) := by decide +kernel
theorem dX8_favorite_58 : decode cX8_favorite 58 = .ok (.aload_n 0, 1) := by decide +kernel
theorem dX8_favorite_59 : decode cX8_favorite 59 = .ok (.getfield 51, 3) := by decide +kernel
theorem dX8_favorite_62 : decode cX8_favorite 62 = .ok (.iload_n 3, 1) := by decide +kernel
theorem dX8_favorite_63 : decode cX8_favorite 63 = .ok (.iaload, 1) := by decide +kernel
theorem dX8_favorite_64 : decode cX8_favorite 64 = .ok (.aload_n 0, 1) := by decide +kernel
theorem dX8_favorite_65 : decode cX8_favorite 65 = .ok (.getfield 51, 3) := by decide +kernel
theorem dX8_favorite_68 : decode cX8_favorite 68 = .ok (.iload_n 2, 1) := by decide +kernel
theorem dX8_favorite_69 : decode cX8_favorite 69 = .ok (.iaload, 1) := by decide +kernel
theorem dX8_favorite_70 : decode cX8_favorite 70 = .ok (.if_icmp .le 7, 3) := by decide +kernel
theorem dX8_favorite_73 : decode cX8_favorite 73 = .ok (.iload_n 3, 1) := by decide +kernel
theorem dX8_favorite_74 : decode cX8_favorite 74 = .ok (.goto 4, 3) := by decide +kernel
theorem dX8_favorite_77 : decode cX8_favorite 77 = .ok (.iload_n 2, 1) := by decide +kernel
theorem dX8_favorite_78 : decode cX8_favorite 78 = .ok (.istore_n 2, 1) := by decide +kernel
theorem dX8_favorite_79 : decode cX8_favorite 79 = .ok (.iinc 3 1, 3) := by decide +kernel
theorem dX8_favorite_82 : decode cX8_favorite 82 = .ok (.goto (-31), 3) := by decide +kernel
theorem dX8_favorite_85 : decode cX8_favorite 85 = .ok (.iload_n 1, 1) := by decide +kernel
theorem dX8_favorite_86 : decode cX8_favorite 86 = .ok (.ifCond .eq 10, 3) := by decide +kernel
theorem dX8_favorite_89 : decode cX8_favorite 89 = .ok (.iload_n 2, 1) := by decide +kernel
theorem dX8_favorite_90 : decode cX8_favorite 90 = .ok (.bipush 21, 2) := by decide +kernel
theorem dX8_favorite_92 : decode cX8_favorite 92 = .ok (.irem, 1) := by decide +kernel
theorem dX8_favorite_93 : decode cX8_favorite 93 = .ok (.goto 7, 3) := by decide +kernel
theorem dX8_favorite_96 : decode cX8_favorite 96 = .ok (.iload_n 2, 1) := by decide +kernel
theorem dX8_favorite_97 : decode cX8_favorite 97 = .ok (.bipush 21, 2) := by decide +kernel
theorem dX8_favorite_99 : decode cX8_favorite 99 = .ok (.idiv, 1) := by decide +kernel
theorem dX8_favorite_100 : decode cX8_favorite 100 = .ok (.bipush 10, 2) := by decide +kernel
theorem dX8_favorite_102 : decode cX8_favorite 102 = .ok (.isub, 1) := by decide +kernel
theorem dX8_favorite_103 : decode cX8_favorite 103 = .ok (.ireturn, 1) := by decide +kernel
theorem dX8_farthest_0 : decode cX8_farthest 0 = .ok (.aload_n 0, 1) := by decide +kernel
theorem dX8_farthest_1 : decode cX8_farthest 1 = .ok (.aload_n 0, 1) := by decide +kernel
theorem dX8_farthest_2 : decode cX8_farthest 2 = .ok (.invokevirtual 222, 3) := by decide +kernel
theorem dX8_farthest_5 : decode cX8_farthest 5 = .ok (.ifCond .eq 7, 3) := by decide +kernel
theorem dX8_farthest_8 : decode cX8_farthest 8 = .ok (.iconst 1, 1) := by decide +kernel
theorem dX8_farthest_9 : decode cX8_farthest 9 = .ok (.goto 4, 3) := by decide +kernel
theorem dX8_farthest_12 : decode cX8_farthest 12 = .ok (.iconst 0, 1) := by decide +kernel
theorem dX8_farthest_13 : decode cX8_farthest 13 = .ok (.putfield 76, 3) := by decide +kernel
theorem dX8_farthest_16 : decode cX8_farthest 16 = .ok (.aload_n 0, 1) := by decide +kernel
theorem dX8_farthest_17 : decode cX8_farthest 17 = .ok (.getfield 76, 3) := by decide +kernel
theorem dX8_farthest_20 : decode cX8_farthest 20 = .ok (.ifCond .le 5, 3) := by decide +kernel
theorem dX8_farthest_23 : decode cX8_farthest 23 = .ok (.iconst 0, 1) := by decide +kernel
theorem dX8_farthest_24 : decode cX8_farthest 24 = .ok (.ireturn, 1) := by decide +kernel
theorem dX8_farthest_25 : decode cX8_farthest 25 = .ok (.aload_n 0, 1) := by decide +kernel
theorem dX8_farthest_26 : decode cX8_farthest 26 = .ok (.invokevirtual 246, 3) := by decide +kernel
theorem dX8_farthest_29 : decode cX8_farthest 29 = .ok (.aload_n 0, 1) := by decide +kernel
theorem dX8_farthest_30 : decode cX8_farthest 30 = .ok (.getfield 234, 3) := by decide +kernel
theorem dX8_farthest_33 : decode cX8_farthest 33 = .ok (.ifCond .ne 11, 3) := by decide +kernel
theorem dX8_farthest_36 : decode cX8_farthest 36 = .ok (.aload_n 0, 1) := by decide +kernel
theorem dX8_farthest_37 : decode cX8_farthest 37 = .ok (.iconst 2, 1) := by decide +kernel
theorem dX8_farthest_38 : decode cX8_farthest 38 = .ok (.invokevirtual 86, 3) := by decide +kernel
theorem dX8_farthest_41 : decode cX8_farthest 41 = .ok (.goto 19, 3) := by decide +kernel
theorem dX8_farthest_44 : decode cX8_farthest 44 = .ok (.aload_n 0, 1) := by decide +kernel
theorem dX8_farthest_45 : decode cX8_farthest 45 = .ok (.getfield 45, 3) := by decide +kernel
theorem dX8_farthest_48 : decode cX8_farthest 48 = .ok (.aload_n 0, 1) := by decide +kernel
theorem dX8_farthest_49 : decode cX8_farthest 49 = .ok (.getfield 48, 3) := by decide +kernel
theorem dX8_farthest_52 : decode cX8_farthest 52 = .ok (.aload_n 0, 1) := by decide +kernel
theorem dX8_farthest_53 : decode cX8_farthest 53 = .ok (.getfield 234, 3) := by decide +kernel
theorem dX8_farthest_56 : decode cX8_farthest 56 = .ok (.iconst 1, 1) := by decide +kernel
theorem dX8_farthest_57 : decode cX8_farthest 57 = .ok (.isub, 1) := by decide +kernel
theorem dX8_farthest_58 : decode cX8_farthest 58 = .ok (.iaload, 1) := by decide +kernel
theorem dX8_farthest_59 : decode cX8_farthest 59 = .ok (.iaload, 1) := by decide +kernel
theorem dX8_farthest_60 : decode cX8_farthest 60 = .ok (.ireturn, 1) := by decide +kernel
theorem dX8_groups_0 : decode cX8_groups 0 = .ok (.aload_n 0, 1) := by decide +kernel
theorem dX8_groups_1 : decode cX8_groups 1 = .ok (.aload_n 0, 1) := by decide +kernel
theorem dX8_groups_2 : decode cX8_groups 2 = .ok (.invokevirtual 222, 3) := by decide +kernel
theorem dX8_groups_5 : decode cX8_groups 5 = .ok (.ifCond .eq 7, 3) := by decide +kernel
theorem dX8_groups_8 : decode cX8_groups 8 = .ok (.iconst 1, 1) := by decide +kernel
theorem dX8_groups_9 : decode cX8_groups 9 = .ok (.goto 4, 3) := by decide +kernel
theorem dX8_groups_12 : decode cX8_groups 12 = .ok (.iconst 0, 1) := by decide +kernel
theorem dX8_groups_13 : decode cX8_groups 13 = .ok (.putfield 76, 3) := by decide +kernel
theorem dX8_groups_16 : decode cX8_groups 16 = .ok (.aload_n 0, 1) := by decide +kernel
theorem dX8_groups_17 : decode cX8_groups 17 = .ok (.getfield 76, 3) := by decide +kernel
theorem dX8_groups_20 : decode cX8_groups 20 = .ok (.ifCond .le 5, 3) := by decide +kernel
theorem dX8_groups_23 : decode cX8_groups 23 = .ok (.iconst 0, 1) := by decide +kernel
theorem dX8_groups_24 : decode cX8_groups 24 = .ok (.ireturn, 1) := by decide +kernel
theorem dX8_groups_25 : decode cX8_groups 25 = .ok (.aload_n 0, 1) := by decide +kernel
theorem dX8_groups_26 : decode cX8_groups 26 = .ok (.invokevirtual 228, 3) := by decide +kernel
theorem dX8_groups_29 : decode cX8_groups 29 = .ok (.aload_n 0, 1) := by decide +kernel
theorem dX8_groups_30 : decode cX8_groups 30 = .ok (.invokevirtual 237, 3) := by decide +kernel
theorem dX8_groups_33 : decode cX8_groups 33 = .ok (.iconst 0, 1) := by decide +kernel
theorem dX8_groups_34 : decode cX8_groups 34 = .ok (.istore_n 1, 1) := by decide +kernel
theorem dX8_groups_35 : decode cX8_groups 35 = .ok (.iconst 0, 1) := by decide +kernel
theorem dX8_groups_36 : decode cX8_groups 36 = .ok (.istore_n 2, 1) := by decide +kernel
theorem dX8_groups_37 : decode cX8_groups 37 = .ok (.iload_n 2, 1) := by decide +kernel
theorem dX8_groups_38 : decode cX8_groups 38 = .ok (.aload_n 0, 1) := by decide +kernel
theorem dX8_groups_39 : decode cX8_groups 39 = .ok (.invokevirtual 133, 3) := by decide +kernel
theorem dX8_groups_42 : decode cX8_groups 42 = .ok (.if_icmp .ge 45, 3) := by decide +kernel
theorem dX8_groups_45 : decode cX8_groups 45 = .ok (.aload_n 0, 1) := by decide +kernel
theorem dX8_groups_46 : decode cX8_groups 46 = .ok (.getfield 38, 3) := by decide +kernel
theorem dX8_groups_49 : decode cX8_groups 49 = .ok (.iload_n 2, 1) := by decide +kernel
theorem dX8_groups_50 : decode cX8_groups 50 = .ok (.baload, 1) := by decide +kernel
theorem dX8_groups_51 : decode cX8_groups 51 = .ok (.ifCond .eq 30, 3) := by decide +kernel
theorem dX8_groups_54 : decode cX8_groups 54 = .ok (.aload_n 0, 1) := by decide +kernel
theorem dX8_groups_55 : decode cX8_groups 55 = .ok (.getfield 45, 3) := by decide +kernel
theorem dX8_groups_58 : decode cX8_groups 58 = .ok (.iload_n 2, 1) := by decide +kernel
theorem dX8_groups_59 : decode cX8_groups 59 = .ok (.iaload, 1) := by decide +kernel
theorem dX8_groups_60 : decode cX8_groups 60 = .ok (.ifCond .ge 21, 3) := by decide +kernel
theorem dX8_groups_63 : decode cX8_groups 63 = .ok (.iinc 1 1, 3) := by decide +kernel
theorem dX8_groups_66 : decode cX8_groups 66 = .ok (.aload_n 0, 1) := by decide +kernel
theorem dX8_groups_67 : decode cX8_groups 67 = .ok (.getfield 234, 3) := by decide +kernel
theorem dX8_groups_70 : decode cX8_groups 70 = .ok (.istore_n 3, 1) := by decide +kernel
theorem dX8_groups_71 : decode cX8_groups 71 = .ok (.aload_n 0, 1) := by decide +kernel
theorem dX8_groups_72 : decode cX8_groups 72 = .ok (.iload_n 2, 1) := by decide +kernel
theorem dX8_groups_73 : decode cX8_groups 73 = .ok (.invokevirtual 240, 3) := by decide +kernel
theorem dX8_groups_76 : decode cX8_groups 76 = .ok (.aload_n 0, 1) := by decide +kernel
theorem dX8_groups_77 : decode cX8_groups 77 = .ok (.iload_n 3, 1) := by decide +kernel
theorem dX8_groups_78 : decode cX8_groups 78 = .ok (.invokevirtual 243, 3) := by decide +kernel
theorem dX8_groups_81 : decode cX8_groups 81 = .ok (.iinc 2 1, 3) := by decide +kernel
theorem dX8_groups_84 : decode cX8_groups 84 = .ok (.goto (-47), 3) := by decide +kernel
theorem dX8_groups_87 : decode cX8_groups 87 = .ok (.iload_n 1, 1) := by decide +kernel
theorem dX8_groups_88 : decode cX8_groups 88 = .ok (.ireturn, 1) := by decide +kernel
theorem dX8_freedom_0 : decode cX8_freedom 0 = .ok (.aload_n 0, 1) := by decide +kernel
theorem dX8_freedom_1 : decode cX8_freedom 1 = .ok (.aload_n 0, 1) := by decide +kernel
theorem dX8_freedom_2 : decode cX8_freedom 2 = .ok (.invokevirtual 222, 3) := by decide +kernel
theorem dX8_freedom_5 : decode cX8_freedom 5 = .ok (.ifCond .eq 7, 3) := by decide +kernel
theorem dX8_freedom_8 : decode cX8_freedom 8 = .ok (.iconst 1, 1) := by decide +kernel
theorem dX8_freedom_9 : decode cX8_freedom 9 = .ok (.goto 4, 3) := by decide +kernel
theorem dX8_freedom_12 : decode cX8_freedom 12 = .ok (.iconst 0, 1) := by decide +kernel
theorem dX8_freedom_13 : decode cX8_freedom 13 = .ok (.putfield 76, 3) := by decide +kernel
theorem dX8_freedom_16 : decode cX8_freedom 16 = .ok (.aload_n 0, 1) := by decide +kernel
theorem dX8_freedom_17 : decode cX8_freedom 17 = .ok (.getfield 76, 3) := by decide +kernel
theorem dX8_freedom_20 : decode cX8_freedom 20 = .ok (.ifCond .le 5, 3) := by decide +kernel
theorem dX8_freedom_23 : decode cX8_freedom 23 = .ok (.dconst 0, 1) := by decide +kernel
theorem dX8_freedom_24 : decode cX8_freedom 24 = .ok (.dreturn, 1) := by decide +kernel
theorem dX8_freedom_25 : decode cX8_freedom 25 = .ok (.aload_n 0, 1) := by decide +kernel
theorem dX8_freedom_26 : decode cX8_freedom 26 = .ok (.iconst (-1), 1) := by decide +kernel
theorem dX8_freedom_27 : decode cX8_freedom 27 = .ok (.invokevirtual 225, 3) := by decide +kernel
theorem dX8_freedom_30 : decode cX8_freedom 30 = .ok (.istore_n 1, 1) := by decide +kernel
theorem dX8_freedom_31 : decode cX8_freedom 31 = .ok (.iconst 0, 1) := by decide +kernel
theorem dX8_freedom_32 : decode cX8_freedom 32 = .ok (.istore_n 2, 1) := by decide +kernel
theorem dX8_freedom_33 : decode cX8_freedom 33 = .ok (.iconst 0, 1) := by decide +kernel
theorem dX8_freedom_34 : decode cX8_freedom 34 = .ok (.istore_n 3, 1) := by decide +kernel
theorem dX8_freedom_35 : decode cX8_freedom 35 = .ok (.iload_n 3, 1) := by decide +kernel
theorem dX8_freedom_36 : decode cX8_freedom 36 = .ok (.aload_n 0, 1) := by decide +kernel
theorem dX8_freedom_37 : decode cX8_freedom 37 = .ok (.invokevirtual 133, 3) := by decide +kernel
theorem dX8_freedom_40 : decode cX8_freedom 40 = .ok (.if_icmp .ge 76, 3) := by decide +kernel
theorem dX8_freedom_43 : decode cX8_freedom 43 = .ok (.iconst 0, 1) := by decide +kernel
theorem dX8_freedom_44 : decode cX8_freedom 44 = .ok (.istore 4, 2) := by decide +kernel
theorem dX8_freedom_46 : decode cX8_freedom 46 = .ok (.iload 4, 2) := by decide +kernel
theorem dX8_freedom_48 : decode cX8_freedom 48 = .ok (.iconst 2, 1) := by decide +kernel
theorem dX8_freedom_49 : decode cX8_freedom 49 = .ok (.aload_n 0, 1) := by decide +kernel
theorem dX8_freedom_50 : decode cX8_freedom 50 = .ok (.getfield 7, 3) := by decide +kernel
theorem dX8_freedom_53 : decode cX8_freedom 53 = .ok (.iconst 0, 1) := by decide +kernel
theorem dX8_freedom_54 : decode cX8_freedom 54 = .ok (.iaload, 1) := by decide +kernel
theorem dX8_freedom_55 : decode cX8_freedom 55 = .ok (.imul, 1) := by decide +kernel
theorem dX8_freedom_56 : decode cX8_freedom 56 = .ok (.if_icmp .ge 54, 3) := by decide +kernel
theorem dX8_freedom_59 : decode cX8_freedom 59 = .ok (.aload_n 0, 1) := by decide +kernel
theorem dX8_freedom_60 : decode cX8_freedom 60 = .ok (.getfield 38, 3) := by decide +kernel
theorem dX8_freedom_63 : decode cX8_freedom 63 = .ok (.iload_n 3, 1) := by decide +kernel
theorem dX8_freedom_64 : decode cX8_freedom 64 = .ok (.baload, 1) := by decide +kernel
theorem dX8_freedom_65 : decode cX8_freedom 65 = .ok (.ifCond .eq 13, 3) := by decide +kernel
theorem dX8_freedom_68 : decode cX8_freedom 68 = .ok (.aload_n 0, 1) := by decide +kernel
theorem dX8_freedom_69 : decode cX8_freedom 69 = .ok (.iload_n 3, 1) := by decide +kernel
theorem dX8_freedom_70 : decode cX8_freedom 70 = .ok (.iload 4, 2) := by decide +kernel
theorem dX8_freedom_72 : decode cX8_freedom 72 = .ok (.invokevirtual 196, 3) := by decide +kernel
theorem dX8_freedom_75 : decode cX8_freedom 75 = .ok (.goto 4, 3) := by decide +kernel
theorem dX8_freedom_78 : decode cX8_freedom 78 = .ok (.iconst (-1), 1) := by decide +kernel
theorem dX8_freedom_79 : decode cX8_freedom 79 = .ok (.istore 5, 2) := by decide +kernel
theorem dX8_freedom_81 : decode cX8_freedom 81 = .ok (.iload_n 2, 1) := by decide +kernel
theorem dX8_freedom_82 : decode cX8_freedom 82 = .ok (.iload 5, 2) := by decide +kernel
theorem dX8_freedom_84 : decode cX8_freedom 84 = .ok (.ifCond .lt 17, 3) := by decide +kernel
theorem dX8_freedom_87 : decode cX8_freedom 87 = .ok (.aload_n 0, 1) := by decide +kernel
theorem dX8_freedom_88 : decode cX8_freedom 88 = .ok (.getfield 38, 3) := by decide +kernel
theorem dX8_freedom_91 : decode cX8_freedom 91 = .ok (.iload 5, 2) := by decide +kernel
theorem dX8_freedom_93 : decode cX8_freedom 93 = .ok (.baload, 1) := by decide +kernel
theorem dX8_freedom_94 : decode cX8_freedom 94 = .ok (.ifCond .eq 7, 3) := by decide +kernel
theorem dX8_freedom_97 : decode cX8_freedom 97 = .ok (.iconst 1, 1) := by decide +kernel
theorem dX8_freedom_98 : decode cX8_freedom 98 = .ok (.goto 4, 3) := by decide +kernel
theorem dX8_freedom_101 : decode cX8_freedom 101 = .ok (.iconst 0, 1) := by decide +kernel
theorem dX8_freedom_102 : decode cX8_freedom 102 = .ok (.iadd, 1) := by decide +kernel
theorem dX8_freedom_103 : decode cX8_freedom 103 = .ok (.istore_n 2, 1) := by decide +kernel
theorem dX8_freedom_104 : decode cX8_freedom 104 = .ok (.iinc 4 1, 3) := by decide +kernel
theorem dX8_freedom_107 : decode cX8_freedom 107 = .ok (.goto (-61), 3) := by decide +kernel
theorem dX8_freedom_110 : decode cX8_freedom 110 = .ok (.iinc 3 1, 3) := by decide +kernel
theorem dX8_freedom_113 : decode cX8_freedom 113 = .ok (.goto (-78), 3) := by decide +kernel
theorem dX8_freedom_116 : decode cX8_freedom 116 = .ok (.aload_n 0, 1) := by decide +kernel
theorem dX8_freedom_117 : decode cX8_freedom 117 = .ok (.iload_n 1, 1) := by decide +kernel
theorem dX8_freedom_118 : decode cX8_freedom 118 = .ok (.ifCond .ne 7, 3) := by decide +kernel
theorem dX8_freedom_121 : decode cX8_freedom 121 = .ok (.iconst 2, 1) := by decide +kernel
theorem dX8_freedom_122 : decode cX8_freedom 122 = .ok (.goto 4, 3) := by decide +kernel
theorem dX8_freedom_125 : decode cX8_freedom 125 = .ok (.iconst 0, 1) := by decide +kernel
theorem dX8_freedom_126 : decode cX8_freedom 126 = .ok (.putfield 76, 3) := by decide +kernel
theorem dX8_freedom_129 : decode cX8_freedom 129 = .ok (.aload_n 0, 1) := by decide +kernel
theorem dX8_freedom_130 : decode cX8_freedom 130 = .ok (.getfield 76, 3) := by decide +kernel
theorem dX8_freedom_133 : decode cX8_freedom 133 = .ok (.ifCond .le 7, 3) := by decide +kernel
theorem dX8_freedom_136 : decode cX8_freedom 136 = .ok (.dconst 0, 1) := by decide +kernel
theorem dX8_freedom_137 : decode cX8_freedom 137 = .ok (.goto 8, 3) := by decide +kernel
theorem dX8_freedom_140 : decode cX8_freedom 140 = .ok (.iload_n 2, 1) := by decide +kernel
theorem dX8_freedom_141 : decode cX8_freedom 141 = .ok (.i2d, 1) := by decide +kernel
theorem dX8_freedom_142 : decode cX8_freedom 142 = .ok (.iload_n 1, 1) := by decide +kernel
theorem dX8_freedom_143 : decode cX8_freedom 143 = .ok (.i2d, 1) := by decide +kernel
theorem dX8_freedom_144 : decode cX8_freedom 144 = .ok (.ddiv, 1) := by decide +kernel
theorem dX8_freedom_145 : decode cX8_freedom 145 = .ok (.dreturn, 1) := by decide +kernel
theorem dX8_leads_0 : decode cX8_leads 0 = .ok (.aload_n 0, 1) := by decide +kernel
theorem dX8_leads_1 : decode cX8_leads 1 = .ok (.invokevirtual 181, 3) := by decide +kernel
theorem dX8_leads_4 : decode cX8_leads 4 = .ok (.istore_n 1, 1) := by decide +kernel
theorem dX8_leads_5 : decode cX8_leads 5 = .ok (.aload_n 0, 1) := by decide +kernel
theorem dX8_leads_6 : decode cX8_leads 6 = .ok (.getfield 38, 3) := by decide +kernel
theorem dX8_leads_9 : decode cX8_leads 9 = .ok (.iload_n 1, 1) := by decide +kernel
theorem dX8_leads_10 : decode cX8_leads 10 = .ok (.baload, 1) := by decide +kernel
theorem dX8_leads_11 : decode cX8_leads 11 = .ok (.ifCond .eq 12, 3) := by decide +kernel
theorem dX8_leads_14 : decode cX8_leads 14 = .ok (.aload_n 0, 1) := by decide +kernel
theorem dX8_leads_15 : decode cX8_leads 15 = .ok (.getfield 45, 3) := by decide +kernel
theorem dX8_leads_18 : decode cX8_leads 18 = .ok (.iload_n 1, 1) := by decide +kernel
theorem dX8_leads_19 : decode cX8_leads 19 = .ok (.iaload, 1) := by decide +kernel
theorem dX8_leads_20 : decode cX8_leads 20 = .ok (.ifCond .ge 5, 3) := by decide +kernel
theorem dX8_leads_23 : decode cX8_leads 23 = .ok (.iconst 0, 1) := by decide +kernel
theorem dX8_leads_24 : decode cX8_leads 24 = .ok (.ireturn, 1) := by decide +kernel
theorem dX8_leads_25 : decode cX8_leads 25 = .ok (.aload_n 0, 1) := by decide +kernel
theorem dX8_leads_26 : decode cX8_leads 26 = .ok (.iconst 0, 1) := by decide +kernel
theorem dX8_leads_27 : decode cX8_leads 27 = .ok (.putfield 22, 3) := by decide +kernel
theorem dX8_leads_30 : decode cX8_leads 30 = .ok (.aload_n 0, 1) := by decide +kernel
theorem dX8_leads_31 : decode cX8_leads 31 = .ok (.iconst 0, 1) := by decide +kernel
theorem dX8_leads_32 : decode cX8_leads 32 = .ok (.putfield 252, 3) := by decide +kernel
theorem dX8_leads_35 : decode cX8_leads 35 = .ok (.aload_n 0, 1) := by decide +kernel
theorem dX8_leads_36 : decode cX8_leads 36 = .ok (.getfield 45, 3) := by decide +kernel
theorem dX8_leads_39 : decode cX8_leads 39 = .ok (.iload_n 1, 1) := by decide +kernel
theorem dX8_leads_40 : decode cX8_leads 40 = .ok (.iaload, 1) := by decide +kernel
theorem dX8_leads_41 : decode cX8_leads 41 = .ok (.ifCond .le 50, 3) := by decide +kernel
theorem dX8_leads_44 : decode cX8_leads 44 = .ok (.iconst 0, 1) := by decide +kernel
theorem dX8_leads_45 : decode cX8_leads 45 = .ok (.istore_n 2, 1) := by decide +kernel
theorem dX8_leads_46 : decode cX8_leads 46 = .ok (.aload_n 0, 1) := by decide +kernel
theorem dX8_leads_47 : decode cX8_leads 47 = .ok (.iload_n 1, 1) := by decide +kernel
theorem dX8_leads_48 : decode cX8_leads 48 = .ok (.iload_n 2, 1) := by decide +kernel
theorem dX8_leads_49 : decode cX8_leads 49 = .ok (.invokevirtual 255, 3) := by decide +kernel
theorem dX8_leads_52 : decode cX8_leads 52 = .ok (.ifCond .ne 9, 3) := by decide +kernel
theorem dX8_leads_55 : decode cX8_leads 55 = .ok (.iinc 2 1, 3) := by decide +kernel
theorem dX8_leads_58 : decode cX8_leads 58 = .ok (.goto (-12), 3) := by decide +kernel
theorem dX8_leads_61 : decode cX8_leads 61 = .ok (.aload_n 0, 1) := by decide +kernel
theorem dX8_leads_62 : decode cX8_leads 62 = .ok (.getfield 19, 3) := by decide +kernel
theorem dX8_leads_65 : decode cX8_leads 65 = .ok (.aload_n 0, 1) := by decide +kernel
theorem dX8_leads_66 : decode cX8_leads 66 = .ok (.getfield 22, 3) := by decide +kernel
theorem dX8_leads_69 : decode cX8_leads 69 = .ok (.iload_n 2, 1) := by decide +kernel
theorem dX8_leads_70 : decode cX8_leads 70 = .ok (.iastore, 1) := by decide +kernel
theorem dX8_leads_71 : decode cX8_leads 71 = .ok (.aload_n 0, 1) := by decide +kernel
theorem dX8_leads_72 : decode cX8_leads 72 = .ok (.dup, 1) := by decide +kernel
theorem dX8_leads_73 : decode cX8_leads 73 = .ok (.getfield 22, 3) := by decide +kernel
theorem dX8_leads_76 : decode cX8_leads 76 = .ok (.iconst 1, 1) := by decide +kernel
theorem dX8_leads_77 : decode cX8_leads 77 = .ok (.iadd, 1) := by decide +kernel
theorem dX8_leads_78 : decode cX8_leads 78 = .ok (.putfield 22, 3) := by decide +kernel
theorem dX8_leads_81 : decode cX8_leads 81 = .ok (.aload_n 0, 1) := by decide +kernel
theorem dX8_leads_82 : decode cX8_leads 82 = .ok (.iload_n 1, 1) := by decide +kernel
theorem dX8_leads_83 : decode cX8_leads 83 = .ok (.iload_n 2, 1) := by decide +kernel
theorem dX8_leads_84 : decode cX8_leads 84 = .ok (.invokevirtual 196, 3) := by decide +kernel
theorem dX8_leads_87 : decode cX8_leads 87 = .ok (.istore_n 1, 1) := by decide +kernel
theorem dX8_leads_88 : decode cX8_leads 88 = .ok (.goto (-53), 3) := by decide +kernel
theorem dX8_leads_91 : decode cX8_leads 91 = .ok (.iconst 1, 1) := by decide +kernel
theorem dX8_leads_92 : decode cX8_leads 92 = .ok (.ireturn, 1) := by decide +kernel
theorem dX8_isNearer_0 : decode cX8_isNearer 0 = .ok (.aload_n 0, 1) := by decide +kernel
theorem dX8_isNearer_1 : decode cX8_isNearer 1 = .ok (.iload_n 1, 1) := by decide +kernel
theorem dX8_isNearer_2 : decode cX8_isNearer 2 = .ok (.iload_n 2, 1) := by decide +kernel
theorem dX8_isNearer_3 : decode cX8_isNearer 3 = .ok (.invokevirtual 196, 3) := by decide +kernel
theorem dX8_isNearer_6 : decode cX8_isNearer 6 = .ok (.istore_n 3, 1) := by decide +kernel
theorem dX8_isNearer_7 : decode cX8_isNearer 7 = .ok (.iload_n 3, 1) := by decide +kernel
theorem dX8_isNearer_8 : decode cX8_isNearer 8 = .ok (.ifCond .lt 33, 3) := by decide +kernel
theorem dX8_isNearer_11 : decode cX8_isNearer 11 = .ok (.aload_n 0, 1) := by decide +kernel
theorem dX8_isNearer_12 : decode cX8_isNearer 12 = .ok (.getfield 38, 3) := by decide +kernel
theorem dX8_isNearer_15 : decode cX8_isNearer 15 = .ok (.iload_n 3, 1) := by decide +kernel
theorem dX8_isNearer_16 : decode cX8_isNearer 16 = .ok (.baload, 1) := by decide +kernel
theorem dX8_isNearer_17 : decode cX8_isNearer 17 = .ok (.ifCond .eq 24, 3) := by decide +kernel
theorem dX8_isNearer_20 : decode cX8_isNearer 20 = .ok (.aload_n 0, 1) := by decide +kernel
theorem dX8_isNearer_21 : decode cX8_isNearer 21 = .ok (.getfield 45, 3) := by decide +kernel
theorem dX8_isNearer_24 : decode cX8_isNearer 24 = .ok (.iload_n 3, 1) := by decide +kernel
theorem dX8_isNearer_25 : decode cX8_isNearer 25 = .ok (.iaload, 1) := by decide +kernel
theorem dX8_isNearer_26 : decode cX8_isNearer 26 = .ok (.aload_n 0, 1) := by decide +kernel
theorem dX8_isNearer_27 : decode cX8_isNearer 27 = .ok (.getfield 45, 3) := by decide +kernel
theorem dX8_isNearer_30 : decode cX8_isNearer 30 = .ok (.iload_n 1, 1) := by decide +kernel
theorem dX8_isNearer_31 : decode cX8_isNearer 31 = .ok (.iaload, 1) := by decide +kernel
theorem dX8_isNearer_32 : decode cX8_isNearer 32 = .ok (.iconst 1, 1) := by decide +kernel
theorem dX8_isNearer_33 : decode cX8_isNearer 33 = .ok (.isub, 1) := by decide +kernel
theorem dX8_isNearer_34 : decode cX8_isNearer 34 = .ok (.if_icmp .ne 7, 3) := by decide +kernel
theorem dX8_isNearer_37 : decode cX8_isNearer 37 = .ok (.iconst 1, 1) := by decide +kernel
theorem dX8_isNearer_38 : decode cX8_isNearer 38 = .ok (.goto 4, 3) := by decide +kernel
theorem dX8_isNearer_41 : decode cX8_isNearer 41 = .ok (.iconst 0, 1) := by decide +kernel
theorem dX8_isNearer_42 : decode cX8_isNearer 42 = .ok (.ireturn, 1) := by decide +kernel
theorem dX8_toPose_0 : decode cX8_toPose 0 = .ok (.aload_n 0, 1) := by decide +kernel
theorem dX8_toPose_1 : decode cX8_toPose 1 = .ok (.invokevirtual 228, 3) := by decide +kernel
theorem dX8_toPose_4 : decode cX8_toPose 4 = .ok (.aload_n 0, 1) := by decide +kernel
theorem dX8_toPose_5 : decode cX8_toPose 5 = .ok (.invokevirtual 237, 3) := by decide +kernel
theorem dX8_toPose_8 : decode cX8_toPose 8 = .ok (.aload_n 0, 1) := by decide +kernel
theorem dX8_toPose_9 : decode cX8_toPose 9 = .ok (.getfield 38, 3) := by decide +kernel
theorem dX8_toPose_12 : decode cX8_toPose 12 = .ok (.iload_n 1, 1) := by decide +kernel
theorem dX8_toPose_13 : decode cX8_toPose 13 = .ok (.baload, 1) := by decide +kernel
theorem dX8_toPose_14 : decode cX8_toPose 14 = .ok (.ifCond .eq 13, 3) := by decide +kernel
theorem dX8_toPose_17 : decode cX8_toPose 17 = .ok (.aload_n 0, 1) := by decide +kernel
theorem dX8_toPose_18 : decode cX8_toPose 18 = .ok (.iload_n 1, 1) := by decide +kernel
theorem dX8_toPose_19 : decode cX8_toPose 19 = .ok (.invokevirtual 240, 3) := by decide +kernel
theorem dX8_toPose_22 : decode cX8_toPose 22 = .ok (.aload_n 0, 1) := by decide +kernel
theorem dX8_toPose_23 : decode cX8_toPose 23 = .ok (.iconst 0, 1) := by decide +kernel
theorem dX8_toPose_24 : decode cX8_toPose 24 = .ok (.invokevirtual 243, 3) := by decide +kernel
theorem dX8_toPose_27 : decode cX8_toPose 27 = .ok (.return_, 1) := by decide +kernel
theorem dX8_toCell_0 : decode cX8_toCell 0 = .ok (.aload_n 0, 1) := by decide +kernel
theorem dX8_toCell_1 : decode cX8_toCell 1 = .ok (.invokevirtual 228, 3) := by decide +kernel
theorem dX8_toCell_4 : decode cX8_toCell 4 = .ok (.aload_n 0, 1) := by decide +kernel
theorem dX8_toCell_5 : decode cX8_toCell 5 = .ok (.invokevirtual 237, 3) := by decide +kernel
theorem dX8_toCell_8 : decode cX8_toCell 8 = .ok (.iconst 0, 1) := by decide +kernel
theorem dX8_toCell_9 : decode cX8_toCell 9 = .ok (.istore_n 2, 1) := by decide +kernel
theorem dX8_toCell_10 : decode cX8_toCell 10 = .ok (.iload_n 2, 1) := by decide +kernel
theorem dX8_toCell_11 : decode cX8_toCell 11 = .ok (.aload_n 0, 1) := by decide +kernel
theorem dX8_toCell_12 : decode cX8_toCell 12 = .ok (.invokevirtual 133, 3) := by decide +kernel
theorem dX8_toCell_15 : decode cX8_toCell 15 = .ok (.if_icmp .ge 33, 3) := by decide +kernel
theorem dX8_toCell_18 : decode cX8_toCell 18 = .ok (.aload_n 0, 1) := by decide +kernel
theorem dX8_toCell_19 : decode cX8_toCell 19 = .ok (.getfield 38, 3) := by decide +kernel
theorem dX8_toCell_22 : decode cX8_toCell 22 = .ok (.iload_n 2, 1) := by decide +kernel
theorem dX8_toCell_23 : decode cX8_toCell 23 = .ok (.baload, 1) := by decide +kernel
theorem dX8_toCell_24 : decode cX8_toCell 24 = .ok (.ifCond .eq 18, 3) := by decide +kernel
theorem dX8_toCell_27 : decode cX8_toCell 27 = .ok (.aload_n 0, 1) := by decide +kernel
theorem dX8_toCell_28 : decode cX8_toCell 28 = .ok (.getfield 42, 3) := by decide +kernel
theorem dX8_toCell_31 : decode cX8_toCell 31 = .ok (.iload_n 2, 1) := by decide +kernel
theorem dX8_toCell_32 : decode cX8_toCell 32 = .ok (.iaload, 1) := by decide +kernel
theorem dX8_toCell_33 : decode cX8_toCell 33 = .ok (.iload_n 1, 1) := by decide +kernel
theorem dX8_toCell_34 : decode cX8_toCell 34 = .ok (.if_icmp .ne 8, 3) := by decide +kernel
theorem dX8_toCell_37 : decode cX8_toCell 37 = .ok (.aload_n 0, 1) := by decide +kernel
theorem dX8_toCell_38 : decode cX8_toCell 38 = .ok (.iload_n 2, 1) := by decide +kernel
theorem dX8_toCell_39 : decode cX8_toCell 39 = .ok (.invokevirtual 240, 3) := by decide +kernel
theorem dX8_toCell_42 : decode cX8_toCell 42 = .ok (.iinc 2 1, 3) := by decide +kernel
theorem dX8_toCell_45 : decode cX8_toCell 45 = .ok (.goto (-35), 3) := by decide +kernel
theorem dX8_toCell_48 : decode cX8_toCell 48 = .ok (.aload_n 0, 1) := by decide +kernel
theorem dX8_toCell_49 : decode cX8_toCell 49 = .ok (.iconst 0, 1) := by decide +kernel
theorem dX8_toCell_50 : decode cX8_toCell 50 = .ok (.invokevirtual 243, 3) := by decide +kernel
theorem dX8_toCell_53 : decode cX8_toCell 53 = .ok (.return_, 1) := by decide +kernel
theorem dX8_planToPose_0 : decode cX8_planToPose 0 = .ok (.aload_n 0, 1) := by decide +kernel
theorem dX8_planToPose_1 : decode cX8_planToPose 1 = .ok (.aload_n 0, 1) := by decide +kernel
theorem dX8_planToPose_2 : decode cX8_planToPose 2 = .ok (.iload_n 1, 1) := by decide +kernel
theorem dX8_planToPose_3 : decode cX8_planToPose 3 = .ok (.invokevirtual 231, 3) := by decide +kernel
theorem dX8_planToPose_6 : decode cX8_planToPose 6 = .ok (.ifCond .eq 18, 3) := by decide +kernel
theorem dX8_planToPose_9 : decode cX8_planToPose 9 = .ok (.aload_n 0, 1) := by decide +kernel
theorem dX8_planToPose_10 : decode cX8_planToPose 10 = .ok (.invokevirtual 222, 3) := by decide +kernel
theorem dX8_planToPose_13 : decode cX8_planToPose 13 = .ok (.ifCond .eq 7, 3) := by decide +kernel
theorem dX8_planToPose_16 : decode cX8_planToPose 16 = .ok (.iconst 2, 1) := by decide +kernel
theorem dX8_planToPose_17 : decode cX8_planToPose 17 = .ok (.goto 8, 3) := by decide +kernel
theorem dX8_planToPose_20 : decode cX8_planToPose 20 = .ok (.iconst 0, 1) := by decide +kernel
theorem dX8_planToPose_21 : decode cX8_planToPose 21 = .ok (.goto 4, 3) := by decide +kernel
theorem dX8_planToPose_24 : decode cX8_planToPose 24 = .ok (.iconst 1, 1) := by decide +kernel
theorem dX8_planToPose_25 : decode cX8_planToPose 25 = .ok (.putfield 76, 3) := by decide +kernel
theorem dX8_planToPose_28 : decode cX8_planToPose 28 = .ok (.aload_n 0, 1) := by decide +kernel
theorem dX8_planToPose_29 : decode cX8_planToPose 29 = .ok (.getfield 76, 3) := by decide +kernel
theorem dX8_planToPose_32 : decode cX8_planToPose 32 = .ok (.ifCond .le 5, 3) := by decide +kernel
theorem dX8_planToPose_35 : decode cX8_planToPose 35 = .ok (.iconst 0, 1) := by decide +kernel
theorem dX8_planToPose_36 : decode cX8_planToPose 36 = .ok (.ireturn, 1) := by decide +kernel
theorem dX8_planToPose_37 : decode cX8_planToPose 37 = .ok (.aload_n 0, 1) := by decide +kernel
theorem dX8_planToPose_38 : decode cX8_planToPose 38 = .ok (.iload_n 1, 1) := by decide +kernel
theorem dX8_planToPose_39 : decode cX8_planToPose 39 = .ok (.invokevirtual 258, 3) := by decide +kernel
theorem dX8_planToPose_42 : decode cX8_planToPose 42 = .ok (.aload_n 0, 1) := by decide +kernel
theorem dX8_planToPose_43 : decode cX8_planToPose 43 = .ok (.invokevirtual 261, 3) := by decide +kernel
theorem dX8_planToPose_46 : decode cX8_planToPose 46 = .ok (.ifCond .eq 10, 3) := by decide +kernel
theorem dX8_planToPose_49 : decode cX8_planToPose 49 = .ok (.aload_n 0, 1) := by decide +kernel
theorem dX8_planToPose_50 : decode cX8_planToPose 50 = .ok (.getfield 22, 3) := by decide +kernel
theorem dX8_planToPose_53 : decode cX8_planToPose 53 = .ok (.goto 8, 3) := by decide +kernel
theorem dX8_planToPose_56 : decode cX8_planToPose 56 = .ok (.aload_n 0, 1) := by decide +kernel
theorem dX8_planToPose_57 : decode cX8_planToPose 57 = .ok (.iconst 3, 1) := by decide +kernel
theorem dX8_planToPose_58 : decode cX8_planToPose 58 = .ok (.invokevirtual 86, 3) := by decide +kernel
theorem dX8_planToPose_61 : decode cX8_planToPose 61 = .ok (.ireturn, 1) := by decide +kernel
theorem dX8_planToCell_0 : decode cX8_planToCell 0 = .ok (.aload_n 0, 1) := by decide +kernel
theorem dX8_planToCell_1 : decode cX8_planToCell 1 = .ok (.iload_n 1, 1) := by decide +kernel
theorem dX8_planToCell_2 : decode cX8_planToCell 2 = .ok (.iload_n 2, 1) := by decide +kernel
theorem dX8_planToCell_3 : decode cX8_planToCell 3 = .ok (.invokestatic 109, 3) := by decide +kernel
theorem dX8_planToCell_6 : decode cX8_planToCell 6 = .ok (.ifCond .eq 18, 3) := by decide +kernel
theorem dX8_planToCell_9 : decode cX8_planToCell 9 = .ok (.aload_n 0, 1) := by decide +kernel
theorem dX8_planToCell_10 : decode cX8_planToCell 10 = .ok (.invokevirtual 222, 3) := by decide +kernel
theorem dX8_planToCell_13 : decode cX8_planToCell 13 = .ok (.ifCond .eq 7, 3) := by decide +kernel
theorem dX8_planToCell_16 : decode cX8_planToCell 16 = .ok (.iconst 2, 1) := by decide +kernel
theorem dX8_planToCell_17 : decode cX8_planToCell 17 = .ok (.goto 8, 3) := by decide +kernel
theorem dX8_planToCell_20 : decode cX8_planToCell 20 = .ok (.iconst 0, 1) := by decide +kernel
theorem dX8_planToCell_21 : decode cX8_planToCell 21 = .ok (.goto 4, 3) := by decide +kernel
theorem dX8_planToCell_24 : decode cX8_planToCell 24 = .ok (.iconst 1, 1) := by decide +kernel
theorem dX8_planToCell_25 : decode cX8_planToCell 25 = .ok (.putfield 76, 3) := by decide +kernel
theorem dX8_planToCell_28 : decode cX8_planToCell 28 = .ok (.aload_n 0, 1) := by decide +kernel
theorem dX8_planToCell_29 : decode cX8_planToCell 29 = .ok (.getfield 76, 3) := by decide +kernel
theorem dX8_planToCell_32 : decode cX8_planToCell 32 = .ok (.ifCond .le 5, 3) := by decide +kernel
theorem dX8_planToCell_35 : decode cX8_planToCell 35 = .ok (.iconst 0, 1) := by decide +kernel
theorem dX8_planToCell_36 : decode cX8_planToCell 36 = .ok (.ireturn, 1) := by decide +kernel
theorem dX8_planToCell_37 : decode cX8_planToCell 37 = .ok (.aload_n 0, 1) := by decide +kernel
theorem dX8_planToCell_38 : decode cX8_planToCell 38 = .ok (.iload_n 1, 1) := by decide +kernel
theorem dX8_planToCell_39 : decode cX8_planToCell 39 = .ok (.iload_n 2, 1) := by decide +kernel
theorem dX8_planToCell_40 : decode cX8_planToCell 40 = .ok (.invokestatic 219, 3) := by decide +kernel
theorem dX8_planToCell_43 : decode cX8_planToCell 43 = .ok (.invokevirtual 264, 3) := by decide +kernel
theorem dX8_planToCell_46 : decode cX8_planToCell 46 = .ok (.aload_n 0, 1) := by decide +kernel
theorem dX8_planToCell_47 : decode cX8_planToCell 47 = .ok (.invokevirtual 261, 3) := by decide +kernel
theorem dX8_planToCell_50 : decode cX8_planToCell 50 = .ok (.ifCond .eq 10, 3) := by decide +kernel
theorem dX8_planToCell_53 : decode cX8_planToCell 53 = .ok (.aload_n 0, 1) := by decide +kernel
theorem dX8_planToCell_54 : decode cX8_planToCell 54 = .ok (.getfield 22, 3) := by decide +kernel
theorem dX8_planToCell_57 : decode cX8_planToCell 57 = .ok (.goto 8, 3) := by decide +kernel
theorem dX8_planToCell_60 : decode cX8_planToCell 60 = .ok (.aload_n 0, 1) := by decide +kernel
theorem dX8_planToCell_61 : decode cX8_planToCell 61 = .ok (.iconst 3, 1) := by decide +kernel
theorem dX8_planToCell_62 : decode cX8_planToCell 62 = .ok (.invokevirtual 86, 3) := by decide +kernel
theorem dX8_planToCell_65 : decode cX8_planToCell 65 = .ok (.ireturn, 1) := by decide +kernel
theorem dX8_turnsBy_0 : decode cX8_turnsBy 0 = .ok (.iload_n 2, 1) := by decide +kernel
theorem dX8_turnsBy_1 : decode cX8_turnsBy 1 = .ok (.bipush 8, 2) := by decide +kernel
theorem dX8_turnsBy_3 : decode cX8_turnsBy 3 = .ok (.if_icmp .eq 8, 3) := by decide +kernel
theorem dX8_turnsBy_6 : decode cX8_turnsBy 6 = .ok (.iload_n 2, 1) := by decide +kernel
theorem dX8_turnsBy_7 : decode cX8_turnsBy 7 = .ok (.iload_n 3, 1) := by decide +kernel
theorem dX8_turnsBy_8 : decode cX8_turnsBy 8 = .ok (.if_icmp .ne 7, 3) := by decide +kernel
theorem dX8_turnsBy_11 : decode cX8_turnsBy 11 = .ok (.iconst 0, 1) := by decide +kernel
theorem dX8_turnsBy_12 : decode cX8_turnsBy 12 = .ok (.goto 4, 3) := by decide +kernel
theorem dX8_turnsBy_15 : decode cX8_turnsBy 15 = .ok (.iconst 1, 1) := by decide +kernel
theorem dX8_turnsBy_16 : decode cX8_turnsBy 16 = .ok (.aload_n 0, 1) := by decide +kernel
theorem dX8_turnsBy_17 : decode cX8_turnsBy 17 = .ok (.getfield 55, 3) := by decide +kernel
theorem dX8_turnsBy_20 : decode cX8_turnsBy 20 = .ok (.bipush 9, 2) := by decide +kernel
theorem dX8_turnsBy_22 : decode cX8_turnsBy 22 = .ok (.aload_n 0, 1) := by decide +kernel
theorem dX8_turnsBy_23 : decode cX8_turnsBy 23 = .ok (.iload_n 1, 1) := by decide +kernel
theorem dX8_turnsBy_24 : decode cX8_turnsBy 24 = .ok (.iload_n 3, 1) := by decide +kernel
theorem dX8_turnsBy_25 : decode cX8_turnsBy 25 = .ok (.invokevirtual 196, 3) := by decide +kernel
theorem dX8_turnsBy_28 : decode cX8_turnsBy 28 = .ok (.imul, 1) := by decide +kernel
theorem dX8_turnsBy_29 : decode cX8_turnsBy 29 = .ok (.iload_n 3, 1) := by decide +kernel
theorem dX8_turnsBy_30 : decode cX8_turnsBy 30 = .ok (.iadd, 1) := by decide +kernel
theorem dX8_turnsBy_31 : decode cX8_turnsBy 31 = .ok (.iaload, 1) := by decide +kernel
theorem dX8_turnsBy_32 : decode cX8_turnsBy 32 = .ok (.iadd, 1) := by decide +kernel
theorem dX8_turnsBy_33 : decode cX8_turnsBy 33 = .ok (.ireturn, 1) := by decide +kernel
theorem dX8_leastTurns_0 : decode cX8_leastTurns 0 = .ok (.iconst (-1), 1) := by decide +kernel
theorem dX8_leastTurns_1 : decode cX8_leastTurns 1 = .ok (.istore_n 3, 1) := by decide +kernel
theorem dX8_leastTurns_2 : decode cX8_leastTurns 2 = .ok (.iconst 0, 1) := by decide +kernel
theorem dX8_leastTurns_3 : decode cX8_leastTurns 3 = .ok (.istore 4, 2) := by decide +kernel
theorem dX8_leastTurns_5 : decode cX8_leastTurns 5 = .ok (.iload 4, 2) := by decide +kernel
theorem dX8_leastTurns_7 : decode cX8_leastTurns 7 = .ok (.iconst 2, 1) := by decide +kernel
theorem dX8_leastTurns_8 : decode cX8_leastTurns 8 = .ok (.aload_n 0, 1) := by decide +kernel
theorem dX8_leastTurns_9 : decode cX8_leastTurns 9 = .ok (.getfield 7, 3) := by decide +kernel
theorem dX8_leastTurns_12 : decode cX8_leastTurns 12 = .ok (.iconst 0, 1) := by decide +kernel
theorem dX8_leastTurns_13 : decode cX8_leastTurns 13 = .ok (.iaload, 1) := by decide +kernel
theorem dX8_leastTurns_14 : decode cX8_leastTurns 14 = .ok (.imul, 1) := by decide +kernel
theorem dX8_leastTurns_15 : decode cX8_leastTurns 15 = .ok (.if_icmp .ge 44, 3) := by decide +kernel
theorem dX8_leastTurns_18 : decode cX8_leastTurns 18 = .ok (.aload_n 0, 1) := by decide +kernel
theorem dX8_leastTurns_19 : decode cX8_leastTurns 19 = .ok (.iload_n 1, 1) := by decide +kernel
theorem dX8_leastTurns_20 : decode cX8_leastTurns 20 = .ok (.iload 4, 2) := by decide +kernel
theorem dX8_leastTurns_22 : decode cX8_leastTurns 22 = .ok (.invokevirtual 255, 3) := by decide +kernel
theorem dX8_leastTurns_25 : decode cX8_leastTurns 25 = .ok (.ifCond .eq 28, 3) := by decide +kernel
theorem dX8_leastTurns_28 : decode cX8_leastTurns 28 = .ok (.iload_n 3, 1) := by decide +kernel
theorem dX8_leastTurns_29 : decode cX8_leastTurns 29 = .ok (.ifCond .lt 15, 3) := by decide +kernel
theorem dX8_leastTurns_32 : decode cX8_leastTurns 32 = .ok (.aload_n 0, 1) := by decide +kernel
theorem dX8_leastTurns_33 : decode cX8_leastTurns 33 = .ok (.iload_n 1, 1) := by decide +kernel
theorem dX8_leastTurns_34 : decode cX8_leastTurns 34 = .ok (.iload_n 2, 1) := by decide +kernel
theorem dX8_leastTurns_35 : decode cX8_leastTurns 35 = .ok (.iload 4, 2) := by decide +kernel
theorem dX8_leastTurns_37 : decode cX8_leastTurns 37 = .ok (.invokevirtual 267, 3) := by decide +kernel
theorem dX8_leastTurns_40 : decode cX8_leastTurns 40 = .ok (.iload_n 3, 1) := by decide +kernel
theorem dX8_leastTurns_41 : decode cX8_leastTurns 41 = .ok (.if_icmp .ge 12, 3) := by decide +kernel
theorem dX8_leastTurns_44 : decode cX8_leastTurns 44 = .ok (.aload_n 0, 1) := by decide +kernel
theorem dX8_leastTurns_45 : decode cX8_leastTurns 45 = .ok (.iload_n 1, 1) := by decide +kernel
theorem dX8_leastTurns_46 : decode cX8_leastTurns 46 = .ok (.iload_n 2, 1) := by decide +kernel
theorem dX8_leastTurns_47 : decode cX8_leastTurns 47 = .ok (.iload 4, 2) := by decide +kernel
theorem dX8_leastTurns_49 : decode cX8_leastTurns 49 = .ok (.invokevirtual 267, 3) := by decide +kernel
theorem dX8_leastTurns_52 : decode cX8_leastTurns 52 = .ok (.istore_n 3, 1) := by decide +kernel
theorem dX8_leastTurns_53 : decode cX8_leastTurns 53 = .ok (.iinc 4 1, 3) := by decide +kernel
theorem dX8_leastTurns_56 : decode cX8_leastTurns 56 = .ok (.goto (-51), 3) := by decide +kernel
theorem dX8_leastTurns_59 : decode cX8_leastTurns 59 = .ok (.iload_n 3, 1) := by decide +kernel
theorem dX8_leastTurns_60 : decode cX8_leastTurns 60 = .ok (.ifCond .ge 7, 3) := by decide +kernel
theorem dX8_leastTurns_63 : decode cX8_leastTurns 63 = .ok (.iconst 0, 1) := by decide +kernel
theorem dX8_leastTurns_64 : decode cX8_leastTurns 64 = .ok (.goto 4, 3) := by decide +kernel
theorem dX8_leastTurns_67 : decode cX8_leastTurns 67 = .ok (.iload_n 3, 1) := by decide +kernel
theorem dX8_leastTurns_68 : decode cX8_leastTurns 68 = .ok (.ireturn, 1) := by decide +kernel
theorem dX8_planSmooth_0 : decode cX8_planSmooth 0 = .ok (.aload_n 0, 1) := by decide +kernel
theorem dX8_planSmooth_1 : decode cX8_planSmooth 1 = .ok (.iload_n 1, 1) := by decide +kernel
theorem dX8_planSmooth_2 : decode cX8_planSmooth 2 = .ok (.iload_n 2, 1) := by decide +kernel
theorem dX8_planSmooth_3 : decode cX8_planSmooth 3 = .ok (.invokestatic 109, 3) := by decide +kernel
theorem dX8_planSmooth_6 : decode cX8_planSmooth 6 = .ok (.ifCond .eq 18, 3) := by decide +kernel
theorem dX8_planSmooth_9 : decode cX8_planSmooth 9 = .ok (.aload_n 0, 1) := by decide +kernel
theorem dX8_planSmooth_10 : decode cX8_planSmooth 10 = .ok (.invokevirtual 222, 3) := by decide +kernel
theorem dX8_planSmooth_13 : decode cX8_planSmooth 13 = .ok (.ifCond .eq 7, 3) := by decide +kernel
theorem dX8_planSmooth_16 : decode cX8_planSmooth 16 = .ok (.iconst 2, 1) := by decide +kernel
theorem dX8_planSmooth_17 : decode cX8_planSmooth 17 = .ok (.goto 8, 3) := by decide +kernel
theorem dX8_planSmooth_20 : decode cX8_planSmooth 20 = .ok (.iconst 0, 1) := by decide +kernel
theorem dX8_planSmooth_21 : decode cX8_planSmooth 21 = .ok (.goto 4, 3) := by decide +kernel
theorem dX8_planSmooth_24 : decode cX8_planSmooth 24 = .ok (.iconst 1, 1) := by decide +kernel
theorem dX8_planSmooth_25 : decode cX8_planSmooth 25 = .ok (.putfield 76, 3) := by decide +kernel
theorem dX8_planSmooth_28 : decode cX8_planSmooth 28 = .ok (.aload_n 0, 1) := by decide +kernel
theorem dX8_planSmooth_29 : decode cX8_planSmooth 29 = .ok (.getfield 76, 3) := by decide +kernel
theorem dX8_planSmooth_32 : decode cX8_planSmooth 32 = .ok (.ifCond .le 5, 3) := by decide +kernel
theorem dX8_planSmooth_35 : decode cX8_planSmooth 35 = .ok (.iconst 0, 1) := by decide +kernel
theorem dX8_planSmooth_36 : decode cX8_planSmooth 36 = .ok (.ireturn, 1) := by decide +kernel
theorem dX8_planSmooth_37 : decode cX8_planSmooth 37 = .ok (.aload_n 0, 1) := by decide +kernel
theorem dX8_planSmooth_38 : decode cX8_planSmooth 38 = .ok (.iload_n 1, 1) := by decide +kernel
theorem dX8_planSmooth_39 : decode cX8_planSmooth 39 = .ok (.iload_n 2, 1) := by decide +kernel
theorem dX8_planSmooth_40 : decode cX8_planSmooth 40 = .ok (.invokestatic 219, 3) := by decide +kernel
theorem dX8_planSmooth_43 : decode cX8_planSmooth 43 = .ok (.invokevirtual 264, 3) := by decide +kernel
theorem dX8_planSmooth_46 : decode cX8_planSmooth 46 = .ok (.iconst 0, 1) := by decide +kernel
theorem dX8_planSmooth_47 : decode cX8_planSmooth 47 = .ok (.istore_n 3, 1) := by decide +kernel
theorem dX8_planSmooth_48 : decode cX8_planSmooth 48 = .ok (.iload_n 3, 1) := by decide +kernel
theorem dX8_planSmooth_49 : decode cX8_planSmooth 49 = .ok (.aload_n 0, 1) := by decide +kernel
theorem dX8_planSmooth_50 : decode cX8_planSmooth 50 = .ok (.getfield 234, 3) := by decide +kernel
theorem dX8_planSmooth_53 : decode cX8_planSmooth 53 = .ok (.if_icmp .ge 72, 3) := by decide +kernel
theorem dX8_planSmooth_56 : decode cX8_planSmooth 56 = .ok (.iconst 0, 1) := by decide +kernel
theorem dX8_planSmooth_57 : decode cX8_planSmooth 57 = .ok (.istore 4, 2) := by decide +kernel
theorem dX8_planSmooth_59 : decode cX8_planSmooth 59 = .ok (.iload 4, 2) := by decide +kernel
theorem dX8_planSmooth_61 : decode cX8_planSmooth 61 = .ok (.bipush 9, 2) := by decide +kernel
theorem dX8_planSmooth_63 : decode cX8_planSmooth 63 = .ok (.if_icmp .ge 56, 3) := by decide +kernel
theorem dX8_planSmooth_66 : decode cX8_planSmooth 66 = .ok (.aload_n 0, 1) := by decide +kernel
theorem dX8_planSmooth_67 : decode cX8_planSmooth 67 = .ok (.getfield 55, 3) := by decide +kernel
theorem dX8_planSmooth_70 : decode cX8_planSmooth 70 = .ok (.bipush 9, 2) := by decide +kernel
theorem dX8_planSmooth_72 : decode cX8_planSmooth 72 = .ok (.aload_n 0, 1) := by decide +kernel
theorem dX8_planSmooth_73 : decode cX8_planSmooth 73 = .ok (.getfield 48, 3) := by decide +kernel
theorem dX8_planSmooth_76 : decode cX8_planSmooth 76 = .ok (.iload_n 3, 1) := by decide +kernel
theorem dX8_planSmooth_77 : decode cX8_planSmooth 77 = .ok (.iaload, 1) := by decide +kernel
theorem dX8_planSmooth_78 : decode cX8_planSmooth 78 = .ok (.imul, 1) := by decide +kernel
theorem dX8_planSmooth_79 : decode cX8_planSmooth 79 = .ok (.iload 4, 2) := by decide +kernel
theorem dX8_planSmooth_81 : decode cX8_planSmooth 81 = .ok (.iadd, 1) := by decide +kernel
theorem dX8_planSmooth_82 : decode cX8_planSmooth 82 = .ok (.aload_n 0, 1) := by decide +kernel
theorem dX8_planSmooth_83 : decode cX8_planSmooth 83 = .ok (.getfield 45, 3) := by decide +kernel
theorem dX8_planSmooth_86 : decode cX8_planSmooth 86 = .ok (.aload_n 0, 1) := by decide +kernel
theorem dX8_planSmooth_87 : decode cX8_planSmooth 87 = .ok (.getfield 48, 3) := by decide +kernel
theorem dX8_planSmooth_90 : decode cX8_planSmooth 90 = .ok (.iload_n 3, 1) := by decide +kernel
theorem dX8_planSmooth_91 : decode cX8_planSmooth 91 = .ok (.iaload, 1) := by decide +kernel
theorem dX8_planSmooth_92 : decode cX8_planSmooth 92 = .ok (.iaload, 1) := by decide +kernel
theorem dX8_planSmooth_93 : decode cX8_planSmooth 93 = .ok (.ifCond .ne 7, 3) := by decide +kernel
theorem dX8_planSmooth_96 : decode cX8_planSmooth 96 = .ok (.iconst 0, 1) := by decide +kernel
theorem dX8_planSmooth_97 : decode cX8_planSmooth 97 = .ok (.goto 15, 3) := by decide +kernel
theorem dX8_planSmooth_100 : decode cX8_planSmooth 100 = .ok (.aload_n 0, 1) := by decide +kernel
theorem dX8_planSmooth_101 : decode cX8_planSmooth 101 = .ok (.aload_n 0, 1) := by decide +kernel
theorem dX8_planSmooth_102 : decode cX8_planSmooth 102 = .ok (.getfield 48, 3) := by decide +kernel
theorem dX8_planSmooth_105 : decode cX8_planSmooth 105 = .ok (.iload_n 3, 1) := by decide +kernel
theorem dX8_planSmooth_106 : decode cX8_planSmooth 106 = .ok (.iaload, 1) := by decide +kernel
theorem dX8_planSmooth_107 : decode cX8_planSmooth 107 = .ok (.iload 4, 2) := by decide +kernel
theorem dX8_planSmooth_109 : decode cX8_planSmooth 109 = .ok (.invokevirtual 270, 3) := by decide +kernel
theorem dX8_planSmooth_112 : decode cX8_planSmooth 112 = .ok (.iastore, 1) := by decide +kernel
theorem dX8_planSmooth_113 : decode cX8_planSmooth 113 = .ok (.iinc 4 1, 3) := by decide +kernel
theorem dX8_planSmooth_116 : decode cX8_planSmooth 116 = .ok (.goto (-57), 3) := by decide +kernel
theorem dX8_planSmooth_119 : decode cX8_planSmooth 119 = .ok (.iinc 3 1, 3) := by decide +kernel
theorem dX8_planSmooth_122 : decode cX8_planSmooth 122 = .ok (.goto (-74), 3) := by decide +kernel
theorem dX8_planSmooth_125 : decode cX8_planSmooth 125 = .ok (.aload_n 0, 1) := by decide +kernel
theorem dX8_planSmooth_126 : decode cX8_planSmooth 126 = .ok (.invokevirtual 261, 3) := by decide +kernel
theorem dX8_planSmooth_129 : decode cX8_planSmooth 129 = .ok (.ifCond .ne 9, 3) := by decide +kernel
theorem dX8_planSmooth_132 : decode cX8_planSmooth 132 = .ok (.aload_n 0, 1) := by decide +kernel
theorem dX8_planSmooth_133 : decode cX8_planSmooth 133 = .ok (.iconst 3, 1) := by decide +kernel
theorem dX8_planSmooth_134 : decode cX8_planSmooth 134 = .ok (.invokevirtual 86, 3) := by decide +kernel
theorem dX8_planSmooth_137 : decode cX8_planSmooth 137 = .ok (.ireturn, 1) := by decide +kernel
theorem dX8_planSmooth_138 : decode cX8_planSmooth 138 = .ok (.aload_n 0, 1) := by decide +kernel
theorem dX8_planSmooth_139 : decode cX8_planSmooth 139 = .ok (.invokevirtual 181, 3) := by decide +kernel
theorem dX8_planSmooth_142 : decode cX8_planSmooth 142 = .ok (.istore_n 3, 1) := by decide +kernel
theorem dX8_planSmooth_143 : decode cX8_planSmooth 143 = .ok (.bipush 8, 2) := by decide +kernel
theorem dX8_planSmooth_145 : decode cX8_planSmooth 145 = .ok (.istore 4, 2) := by decide +kernel
theorem dX8_planSmooth_147 : decode cX8_planSmooth 147 = .ok (.iconst 0, 1) := by decide +kernel
theorem dX8_planSmooth_148 : decode cX8_planSmooth 148 = .ok (.istore 5, 2) := by decide +kernel
theorem dX8_planSmooth_150 : decode cX8_planSmooth 150 = .ok (.iload 5, 2) := by decide +kernel
theorem dX8_planSmooth_152 : decode cX8_planSmooth 152 = .ok (.aload_n 0, 1) := by decide +kernel
theorem dX8_planSmooth_153 : decode cX8_planSmooth 153 = .ok (.getfield 22, 3) := by decide +kernel
theorem dX8_planSmooth_156 : decode cX8_planSmooth 156 = .ok (.if_icmp .ge 68, 3) := by decide +kernel
theorem dX8_planSmooth_159 : decode cX8_planSmooth 159 = .ok (.iconst 0, 1) := by decide +kernel
theorem dX8_planSmooth_160 : decode cX8_planSmooth 160 = .ok (.istore 6, 2) := by decide +kernel
theorem dX8_planSmooth_162 : decode cX8_planSmooth 162 = .ok (.aload_n 0, 1) := by decide +kernel
theorem dX8_planSmooth_163 : decode cX8_planSmooth 163 = .ok (.iload_n 3, 1) := by decide +kernel
theorem dX8_planSmooth_164 : decode cX8_planSmooth 164 = .ok (.iload 6, 2) := by decide +kernel
theorem dX8_planSmooth_166 : decode cX8_planSmooth 166 = .ok (.invokevirtual 255, 3) := by decide +kernel
theorem dX8_planSmooth_169 : decode cX8_planSmooth 169 = .ok (.ifCond .eq 22, 3) := by decide +kernel
theorem dX8_planSmooth_172 : decode cX8_planSmooth 172 = .ok (.aload_n 0, 1) := by decide +kernel
theorem dX8_planSmooth_173 : decode cX8_planSmooth 173 = .ok (.iload_n 3, 1) := by decide +kernel
theorem dX8_planSmooth_174 : decode cX8_planSmooth 174 = .ok (.iload 4, 2) := by decide +kernel
theorem dX8_planSmooth_176 : decode cX8_planSmooth 176 = .ok (.iload 6, 2) := by decide +kernel
theorem dX8_planSmooth_178 : decode cX8_planSmooth 178 = .ok (.invokevirtual 267, 3) := by decide +kernel
theorem dX8_planSmooth_181 : decode cX8_planSmooth 181 = .ok (.aload_n 0, 1) := by decide +kernel
theorem dX8_planSmooth_182 : decode cX8_planSmooth 182 = .ok (.iload_n 3, 1) := by decide +kernel
theorem dX8_planSmooth_183 : decode cX8_planSmooth 183 = .ok (.iload 4, 2) := by decide +kernel
theorem dX8_planSmooth_185 : decode cX8_planSmooth 185 = .ok (.invokevirtual 270, 3) := by decide +kernel
theorem dX8_planSmooth_188 : decode cX8_planSmooth 188 = .ok (.if_icmp .eq 9, 3) := by decide +kernel
theorem dX8_planSmooth_191 : decode cX8_planSmooth 191 = .ok (.iinc 6 1, 3) := by decide +kernel
theorem dX8_planSmooth_194 : decode cX8_planSmooth 194 = .ok (.goto (-32), 3) := by decide +kernel
theorem dX8_planSmooth_197 : decode cX8_planSmooth 197 = .ok (.aload_n 0, 1) := by decide +kernel
theorem dX8_planSmooth_198 : decode cX8_planSmooth 198 = .ok (.getfield 19, 3) := by decide +kernel
theorem dX8_planSmooth_201 : decode cX8_planSmooth 201 = .ok (.iload 5, 2) := by decide +kernel
theorem dX8_planSmooth_203 : decode cX8_planSmooth 203 = .ok (.iload 6, 2) := by decide +kernel
theorem dX8_planSmooth_205 : decode cX8_planSmooth 205 = .ok (.iastore, 1) := by decide +kernel
theorem dX8_planSmooth_206 : decode cX8_planSmooth 206 = .ok (.aload_n 0, 1) := by decide +kernel
theorem dX8_planSmooth_207 : decode cX8_planSmooth 207 = .ok (.iload_n 3, 1) := by decide +kernel
theorem dX8_planSmooth_208 : decode cX8_planSmooth 208 = .ok (.iload 6, 2) := by decide +kernel
theorem dX8_planSmooth_210 : decode cX8_planSmooth 210 = .ok (.invokevirtual 196, 3) := by decide +kernel
theorem dX8_planSmooth_213 : decode cX8_planSmooth 213 = .ok (.istore_n 3, 1) := by decide +kernel
theorem dX8_planSmooth_214 : decode cX8_planSmooth 214 = .ok (.iload 6, 2) := by decide +kernel
theorem dX8_planSmooth_216 : decode cX8_planSmooth 216 = .ok (.istore 4, 2) := by decide +kernel
theorem dX8_planSmooth_218 : decode cX8_planSmooth 218 = .ok (.iinc 5 1, 3) := by decide +kernel
theorem dX8_planSmooth_221 : decode cX8_planSmooth 221 = .ok (.goto (-71), 3) := by decide +kernel
theorem dX8_planSmooth_224 : decode cX8_planSmooth 224 = .ok (.aload_n 0, 1) := by decide +kernel
theorem dX8_planSmooth_225 : decode cX8_planSmooth 225 = .ok (.invokevirtual 273, 3) := by decide +kernel
theorem dX8_planSmooth_228 : decode cX8_planSmooth 228 = .ok (.ireturn, 1) := by decide +kernel
theorem dX8_changesOf_0 : decode cX8_changesOf 0 = .ok (.iconst 0, 1) := by decide +kernel
theorem dX8_changesOf_1 : decode cX8_changesOf 1 = .ok (.istore_n 1, 1) := by decide +kernel
theorem dX8_changesOf_2 : decode cX8_changesOf 2 = .ok (.iconst 1, 1) := by decide +kernel
theorem dX8_changesOf_3 : decode cX8_changesOf 3 = .ok (.istore_n 2, 1) := by decide +kernel
theorem dX8_changesOf_4 : decode cX8_changesOf 4 = .ok (.iload_n 2, 1) := by decide +kernel
theorem dX8_changesOf_5 : decode cX8_changesOf 5 = .ok (.aload_n 0, 1) := by decide +kernel
theorem dX8_changesOf_6 : decode cX8_changesOf 6 = .ok (.getfield 22, 3) := by decide +kernel
theorem dX8_changesOf_9 : decode cX8_changesOf 9 = .ok (.if_icmp .ge 34, 3) := by decide +kernel
theorem dX8_changesOf_12 : decode cX8_changesOf 12 = .ok (.iload_n 1, 1) := by decide +kernel
theorem dX8_changesOf_13 : decode cX8_changesOf 13 = .ok (.aload_n 0, 1) := by decide +kernel
theorem dX8_changesOf_14 : decode cX8_changesOf 14 = .ok (.getfield 19, 3) := by decide +kernel
theorem dX8_changesOf_17 : decode cX8_changesOf 17 = .ok (.iload_n 2, 1) := by decide +kernel
theorem dX8_changesOf_18 : decode cX8_changesOf 18 = .ok (.iaload, 1) := by decide +kernel
theorem dX8_changesOf_19 : decode cX8_changesOf 19 = .ok (.aload_n 0, 1) := by decide +kernel
theorem dX8_changesOf_20 : decode cX8_changesOf 20 = .ok (.getfield 19, 3) := by decide +kernel
theorem dX8_changesOf_23 : decode cX8_changesOf 23 = .ok (.iload_n 2, 1) := by decide +kernel
theorem dX8_changesOf_24 : decode cX8_changesOf 24 = .ok (.iconst 1, 1) := by decide +kernel
theorem dX8_changesOf_25 : decode cX8_changesOf 25 = .ok (.isub, 1) := by decide +kernel
theorem dX8_changesOf_26 : decode cX8_changesOf 26 = .ok (.iaload, 1) := by decide +kernel
theorem dX8_changesOf_27 : decode cX8_changesOf 27 = .ok (.if_icmp .ne 7, 3) := by decide +kernel
theorem dX8_changesOf_30 : decode cX8_changesOf 30 = .ok (.iconst 0, 1) := by decide +kernel
theorem dX8_changesOf_31 : decode cX8_changesOf 31 = .ok (.goto 4, 3) := by decide +kernel
theorem dX8_changesOf_34 : decode cX8_changesOf 34 = .ok (.iconst 1, 1) := by decide +kernel
theorem dX8_changesOf_35 : decode cX8_changesOf 35 = .ok (.iadd, 1) := by decide +kernel
theorem dX8_changesOf_36 : decode cX8_changesOf 36 = .ok (.istore_n 1, 1) := by decide +kernel
theorem dX8_changesOf_37 : decode cX8_changesOf 37 = .ok (.iinc 2 1, 3) := by decide +kernel
theorem dX8_changesOf_40 : decode cX8_changesOf 40 = .ok (.goto (-36), 3) := by decide +kernel
theorem dX8_changesOf_43 : decode cX8_changesOf 43 = .ok (.iload_n 1, 1) := by decide +kernel
theorem dX8_changesOf_44 : decode cX8_changesOf 44 = .ok (.ireturn, 1) := by decide +kernel
theorem dX8_planNear_0 : decode cX8_planNear 0 = .ok (.aload_n 0, 1) := by decide +kernel
theorem dX8_planNear_1 : decode cX8_planNear 1 = .ok (.iload_n 1, 1) := by decide +kernel
theorem dX8_planNear_2 : decode cX8_planNear 2 = .ok (.iload_n 2, 1) := by decide +kernel
theorem dX8_planNear_3 : decode cX8_planNear 3 = .ok (.invokestatic 109, 3) := by decide +kernel
theorem dX8_planNear_6 : decode cX8_planNear 6 = .ok (.ifCond .eq 18, 3) := by decide +kernel
theorem dX8_planNear_9 : decode cX8_planNear 9 = .ok (.aload_n 0, 1) := by decide +kernel
theorem dX8_planNear_10 : decode cX8_planNear 10 = .ok (.invokevirtual 222, 3) := by decide +kernel
theorem dX8_planNear_13 : decode cX8_planNear 13 = .ok (.ifCond .eq 7, 3) := by decide +kernel
theorem dX8_planNear_16 : decode cX8_planNear 16 = .ok (.iconst 2, 1) := by decide +kernel
theorem dX8_planNear_17 : decode cX8_planNear 17 = .ok (.goto 8, 3) := by decide +kernel
theorem dX8_planNear_20 : decode cX8_planNear 20 = .ok (.iconst 0, 1) := by decide +kernel
theorem dX8_planNear_21 : decode cX8_planNear 21 = .ok (.goto 4, 3) := by decide +kernel
theorem dX8_planNear_24 : decode cX8_planNear 24 = .ok (.iconst 1, 1) := by decide +kernel
theorem dX8_planNear_25 : decode cX8_planNear 25 = .ok (.putfield 76, 3) := by decide +kernel
theorem dX8_planNear_28 : decode cX8_planNear 28 = .ok (.aload_n 0, 1) := by decide +kernel
theorem dX8_planNear_29 : decode cX8_planNear 29 = .ok (.getfield 76, 3) := by decide +kernel
theorem dX8_planNear_32 : decode cX8_planNear 32 = .ok (.ifCond .le 5, 3) := by decide +kernel
theorem dX8_planNear_35 : decode cX8_planNear 35 = .ok (.iconst 0, 1) := by decide +kernel
theorem dX8_planNear_36 : decode cX8_planNear 36 = .ok (.ireturn, 1) := by decide +kernel
theorem dX8_planNear_37 : decode cX8_planNear 37 = .ok (.aload_n 0, 1) := by decide +kernel
theorem dX8_planNear_38 : decode cX8_planNear 38 = .ok (.invokevirtual 246, 3) := by decide +kernel
theorem dX8_planNear_41 : decode cX8_planNear 41 = .ok (.aload_n 0, 1) := by decide +kernel
theorem dX8_planNear_42 : decode cX8_planNear 42 = .ok (.getfield 234, 3) := by decide +kernel
theorem dX8_planNear_45 : decode cX8_planNear 45 = .ok (.ifCond .ne 9, 3) := by decide +kernel
theorem dX8_planNear_48 : decode cX8_planNear 48 = .ok (.aload_n 0, 1) := by decide +kernel
theorem dX8_planNear_49 : decode cX8_planNear 49 = .ok (.iconst 3, 1) := by decide +kernel
theorem dX8_planNear_50 : decode cX8_planNear 50 = .ok (.invokevirtual 86, 3) := by decide +kernel
theorem dX8_planNear_53 : decode cX8_planNear 53 = .ok (.ireturn, 1) := by decide +kernel
theorem dX8_planNear_54 : decode cX8_planNear 54 = .ok (.sipush 1000, 3) := by decide +kernel
theorem dX8_planNear_57 : decode cX8_planNear 57 = .ok (.istore_n 3, 1) := by decide +kernel
theorem dX8_planNear_58 : decode cX8_planNear 58 = .ok (.iconst 0, 1) := by decide +kernel
theorem dX8_planNear_59 : decode cX8_planNear 59 = .ok (.istore 4, 2) := by decide +kernel
theorem dX8_planNear_61 : decode cX8_planNear 61 = .ok (.iload 4, 2) := by decide +kernel
theorem dX8_planNear_63 : decode cX8_planNear 63 = .ok (.aload_n 0, 1) := by decide +kernel
theorem dX8_planNear_64 : decode cX8_planNear 64 = .ok (.getfield 234, 3) := by decide +kernel
theorem dX8_planNear_67 : decode cX8_planNear 67 = .ok (.if_icmp .ge 37, 3) := by decide +kernel
theorem dX8_planNear_70 : decode cX8_planNear 70 = .ok (.aload_n 0, 1) := by decide +kernel
theorem dX8_planNear_71 : decode cX8_planNear 71 = .ok (.aload_n 0, 1) := by decide +kernel
theorem dX8_planNear_72 : decode cX8_planNear 72 = .ok (.getfield 48, 3) := by decide +kernel
theorem dX8_planNear_75 : decode cX8_planNear 75 = .ok (.iload 4, 2) := by decide +kernel
theorem dX8_planNear_77 : decode cX8_planNear 77 = .ok (.iaload, 1) := by decide +kernel
theorem dX8_planNear_78 : decode cX8_planNear 78 = .ok (.iload_n 1, 1) := by decide +kernel
theorem dX8_planNear_79 : decode cX8_planNear 79 = .ok (.iload_n 2, 1) := by decide +kernel
theorem dX8_planNear_80 : decode cX8_planNear 80 = .ok (.invokevirtual 276, 3) := by decide +kernel
theorem dX8_planNear_83 : decode cX8_planNear 83 = .ok (.istore 5, 2) := by decide +kernel
theorem dX8_planNear_85 : decode cX8_planNear 85 = .ok (.iload 5, 2) := by decide +kernel
theorem dX8_planNear_87 : decode cX8_planNear 87 = .ok (.iload_n 3, 1) := by decide +kernel
theorem dX8_planNear_88 : decode cX8_planNear 88 = .ok (.if_icmp .ge 8, 3) := by decide +kernel
theorem dX8_planNear_91 : decode cX8_planNear 91 = .ok (.iload 5, 2) := by decide +kernel
theorem dX8_planNear_93 : decode cX8_planNear 93 = .ok (.goto 4, 3) := by decide +kernel
theorem dX8_planNear_96 : decode cX8_planNear 96 = .ok (.iload_n 3, 1) := by decide +kernel
theorem dX8_planNear_97 : decode cX8_planNear 97 = .ok (.istore_n 3, 1) := by decide +kernel
theorem dX8_planNear_98 : decode cX8_planNear 98 = .ok (.iinc 4 1, 3) := by decide +kernel
theorem dX8_planNear_101 : decode cX8_planNear 101 = .ok (.goto (-40), 3) := by decide +kernel
theorem dX8_planNear_104 : decode cX8_planNear 104 = .ok (.aload_n 0, 1) := by decide +kernel
theorem dX8_planNear_105 : decode cX8_planNear 105 = .ok (.invokevirtual 237, 3) := by decide +kernel
theorem dX8_planNear_108 : decode cX8_planNear 108 = .ok (.iconst 0, 1) := by decide +kernel
theorem dX8_planNear_109 : decode cX8_planNear 109 = .ok (.istore 4, 2) := by decide +kernel
theorem dX8_planNear_111 : decode cX8_planNear 111 = .ok (.iload 4, 2) := by decide +kernel
theorem dX8_planNear_113 : decode cX8_planNear 113 = .ok (.aload_n 0, 1) := by decide +kernel
theorem dX8_planNear_114 : decode cX8_planNear 114 = .ok (.invokevirtual 133, 3) := by decide +kernel
theorem dX8_planNear_117 : decode cX8_planNear 117 = .ok (.if_icmp .ge 37, 3) := by decide +kernel
theorem dX8_planNear_120 : decode cX8_planNear 120 = .ok (.aload_n 0, 1) := by decide +kernel
theorem dX8_planNear_121 : decode cX8_planNear 121 = .ok (.getfield 38, 3) := by decide +kernel
theorem dX8_planNear_124 : decode cX8_planNear 124 = .ok (.iload 4, 2) := by decide +kernel
theorem dX8_planNear_126 : decode cX8_planNear 126 = .ok (.baload, 1) := by decide +kernel
theorem dX8_planNear_127 : decode cX8_planNear 127 = .ok (.ifCond .eq 21, 3) := by decide +kernel
theorem dX8_planNear_130 : decode cX8_planNear 130 = .ok (.aload_n 0, 1) := by decide +kernel
theorem dX8_planNear_131 : decode cX8_planNear 131 = .ok (.iload 4, 2) := by decide +kernel
theorem dX8_planNear_133 : decode cX8_planNear 133 = .ok (.iload_n 1, 1) := by decide +kernel
theorem dX8_planNear_134 : decode cX8_planNear 134 = .ok (.iload_n 2, 1) := by decide +kernel
theorem dX8_planNear_135 : decode cX8_planNear 135 = .ok (.invokevirtual 276, 3) := by decide +kernel
theorem dX8_planNear_138 : decode cX8_planNear 138 = .ok (.iload_n 3, 1) := by decide +kernel
theorem dX8_planNear_139 : decode cX8_planNear 139 = .ok (.if_icmp .ne 9, 3) := by decide +kernel
theorem dX8_planNear_142 : decode cX8_planNear 142 = .ok (.aload_n 0, 1) := by decide +kernel
theorem dX8_planNear_143 : decode cX8_planNear 143 = .ok (.iload 4, 2) := by decide +kernel
theorem dX8_planNear_145 : decode cX8_planNear 145 = .ok (.invokevirtual 240, 3) := by decide +kernel
theorem dX8_planNear_148 : decode cX8_planNear 148 = .ok (.iinc 4 1, 3) := by decide +kernel
theorem dX8_planNear_151 : decode cX8_planNear 151 = .ok (.goto (-40), 3) := by decide +kernel
theorem dX8_planNear_154 : decode cX8_planNear 154 = .ok (.aload_n 0, 1) := by decide +kernel
theorem dX8_planNear_155 : decode cX8_planNear 155 = .ok (.iconst 0, 1) := by decide +kernel
theorem dX8_planNear_156 : decode cX8_planNear 156 = .ok (.invokevirtual 243, 3) := by decide +kernel
theorem dX8_planNear_159 : decode cX8_planNear 159 = .ok (.aload_n 0, 1) := by decide +kernel
theorem dX8_planNear_160 : decode cX8_planNear 160 = .ok (.invokevirtual 261, 3) := by decide +kernel
theorem dX8_planNear_163 : decode cX8_planNear 163 = .ok (.pop, 1) := by decide +kernel
theorem dX8_planNear_164 : decode cX8_planNear 164 = .ok (.iload_n 3, 1) := by decide +kernel
theorem dX8_planNear_165 : decode cX8_planNear 165 = .ok (.ireturn, 1) := by decide +kernel
theorem dX8_tipDistance_0 : decode cX8_tipDistance 0 = .ok (.aload_n 0, 1) := by decide +kernel
theorem dX8_tipDistance_1 : decode cX8_tipDistance 1 = .ok (.getfield 42, 3) := by decide +kernel
theorem dX8_tipDistance_4 : decode cX8_tipDistance 4 = .ok (.iload_n 1, 1) := by decide +kernel
theorem dX8_tipDistance_5 : decode cX8_tipDistance 5 = .ok (.iaload, 1) := by decide +kernel
theorem dX8_tipDistance_6 : decode cX8_tipDistance 6 = .ok (.bipush 21, 2) := by decide +kernel
theorem dX8_tipDistance_8 : decode cX8_tipDistance 8 = .ok (.idiv, 1) := by decide +kernel
theorem dX8_tipDistance_9 : decode cX8_tipDistance 9 = .ok (.bipush 10, 2) := by decide +kernel
theorem dX8_tipDistance_11 : decode cX8_tipDistance 11 = .ok (.isub, 1) := by decide +kernel
theorem dX8_tipDistance_12 : decode cX8_tipDistance 12 = .ok (.aload_n 0, 1) := by decide +kernel
theorem dX8_tipDistance_13 : decode cX8_tipDistance 13 = .ok (.getfield 42, 3) := by decide +kernel
theorem dX8_tipDistance_16 : decode cX8_tipDistance 16 = .ok (.iload_n 1, 1) := by decide +kernel
theorem dX8_tipDistance_17 : decode cX8_tipDistance 17 = .ok (.iaload, 1) := by decide +kernel
theorem dX8_tipDistance_18 : decode cX8_tipDistance 18 = .ok (.bipush 21, 2) := by decide +kernel
theorem dX8_tipDistance_20 : decode cX8_tipDistance 20 = .ok (.irem, 1) := by decide +kernel
theorem dX8_tipDistance_21 : decode cX8_tipDistance 21 = .ok (.bipush 10, 2) := by decide +kernel
theorem dX8_tipDistance_23 : decode cX8_tipDistance 23 = .ok (.isub, 1) := by decide +kernel
theorem dX8_tipDistance_24 : decode cX8_tipDistance 24 = .ok (.iload_n 2, 1) := by decide +kernel
theorem dX8_tipDistance_25 : decode cX8_tipDistance 25 = .ok (.iload_n 3, 1) := by decide +kernel
theorem dX8_tipDistance_26 : decode cX8_tipDistance 26 = .ok (.invokestatic 215, 3) := by decide +kernel
theorem dX8_tipDistance_29 : decode cX8_tipDistance 29 = .ok (.ireturn, 1) := by decide +kernel
theorem dX8_pathLength_0 : decode cX8_pathLength 0 = .ok (.aload_n 0, 1) := by decide +kernel
theorem dX8_pathLength_1 : decode cX8_pathLength 1 = .ok (.aload_n 0, 1) := by decide +kernel
theorem dX8_pathLength_2 : decode cX8_pathLength 2 = .ok (.getfield 22, 3) := by decide +kernel
theorem dX8_pathLength_5 : decode cX8_pathLength 5 = .ok (.ifCond .ge 7, 3) := by decide +kernel
theorem dX8_pathLength_8 : decode cX8_pathLength 8 = .ok (.iconst 1, 1) := by decide +kernel
theorem dX8_pathLength_9 : decode cX8_pathLength 9 = .ok (.goto 4, 3) := by decide +kernel
theorem dX8_pathLength_12 : decode cX8_pathLength 12 = .ok (.iconst 0, 1) := by decide +kernel
theorem dX8_pathLength_13 : decode cX8_pathLength 13 = .ok (.putfield 76, 3) := by decide +kernel
theorem dX8_pathLength_16 : decode cX8_pathLength 16 = .ok (.aload_n 0, 1) := by decide +kernel
theorem dX8_pathLength_17 : decode cX8_pathLength 17 = .ok (.getfield 76, 3) := by decide +kernel
theorem dX8_pathLength_20 : decode cX8_pathLength 20 = .ok (.ifCond .le 7, 3) := by decide +kernel
theorem dX8_pathLength_23 : decode cX8_pathLength 23 = .ok (.iconst 0, 1) := by decide +kernel
theorem dX8_pathLength_24 : decode cX8_pathLength 24 = .ok (.goto 7, 3) := by decide +kernel
theorem dX8_pathLength_27 : decode cX8_pathLength 27 = .ok (.aload_n 0, 1) := by decide +kernel
theorem dX8_pathLength_28 : decode cX8_pathLength 28 = .ok (.getfield 22, 3) := by decide +kernel
theorem dX8_pathLength_31 : decode cX8_pathLength 31 = .ok (.ireturn, 1) := by decide +kernel
theorem dX8_pathMove_0 : decode cX8_pathMove 0 = .ok (.aload_n 0, 1) := by decide +kernel
theorem dX8_pathMove_1 : decode cX8_pathMove 1 = .ok (.iload_n 1, 1) := by decide +kernel
theorem dX8_pathMove_2 : decode cX8_pathMove 2 = .ok (.iconst 0, 1) := by decide +kernel
theorem dX8_pathMove_3 : decode cX8_pathMove 3 = .ok (.aload_n 0, 1) := by decide +kernel
theorem dX8_pathMove_4 : decode cX8_pathMove 4 = .ok (.getfield 22, 3) := by decide +kernel
theorem dX8_pathMove_7 : decode cX8_pathMove 7 = .ok (.iconst 1, 1) := by decide +kernel
theorem dX8_pathMove_8 : decode cX8_pathMove 8 = .ok (.isub, 1) := by decide +kernel
theorem dX8_pathMove_9 : decode cX8_pathMove 9 = .ok (.invokestatic 79, 3) := by decide +kernel
theorem dX8_pathMove_12 : decode cX8_pathMove 12 = .ok (.ifCond .eq 7, 3) := by decide +kernel
theorem dX8_pathMove_15 : decode cX8_pathMove 15 = .ok (.iconst 0, 1) := by decide +kernel
theorem dX8_pathMove_16 : decode cX8_pathMove 16 = .ok (.goto 4, 3) := by decide +kernel
theorem dX8_pathMove_19 : decode cX8_pathMove 19 = .ok (.iconst 1, 1) := by decide +kernel
theorem dX8_pathMove_20 : decode cX8_pathMove 20 = .ok (.putfield 76, 3) := by decide +kernel
theorem dX8_pathMove_23 : decode cX8_pathMove 23 = .ok (.aload_n 0, 1) := by decide +kernel
theorem dX8_pathMove_24 : decode cX8_pathMove 24 = .ok (.getfield 76, 3) := by decide +kernel
theorem dX8_pathMove_27 : decode cX8_pathMove 27 = .ok (.ifCond .le 7, 3) := by decide +kernel
theorem dX8_pathMove_30 : decode cX8_pathMove 30 = .ok (.iconst 0, 1) := by decide +kernel
theorem dX8_pathMove_31 : decode cX8_pathMove 31 = .ok (.goto 9, 3) := by decide +kernel
theorem dX8_pathMove_34 : decode cX8_pathMove 34 = .ok (.aload_n 0, 1) := by decide +kernel
theorem dX8_pathMove_35 : decode cX8_pathMove 35 = .ok (.getfield 19, 3) := by decide +kernel
theorem dX8_pathMove_38 : decode cX8_pathMove 38 = .ok (.iload_n 1, 1) := by decide +kernel
theorem dX8_pathMove_39 : decode cX8_pathMove 39 = .ok (.iaload, 1) := by decide +kernel
theorem dX8_pathMove_40 : decode cX8_pathMove 40 = .ok (.ireturn, 1) := by decide +kernel
theorem dX8_pathChanges_0 : decode cX8_pathChanges 0 = .ok (.aload_n 0, 1) := by decide +kernel
theorem dX8_pathChanges_1 : decode cX8_pathChanges 1 = .ok (.aload_n 0, 1) := by decide +kernel
theorem dX8_pathChanges_2 : decode cX8_pathChanges 2 = .ok (.getfield 22, 3) := by decide +kernel
theorem dX8_pathChanges_5 : decode cX8_pathChanges 5 = .ok (.ifCond .ge 7, 3) := by decide +kernel
theorem dX8_pathChanges_8 : decode cX8_pathChanges 8 = .ok (.iconst 1, 1) := by decide +kernel
theorem dX8_pathChanges_9 : decode cX8_pathChanges 9 = .ok (.goto 4, 3) := by decide +kernel
theorem dX8_pathChanges_12 : decode cX8_pathChanges 12 = .ok (.iconst 0, 1) := by decide +kernel
theorem dX8_pathChanges_13 : decode cX8_pathChanges 13 = .ok (.putfield 76, 3) := by decide +kernel
theorem dX8_pathChanges_16 : decode cX8_pathChanges 16 = .ok (.aload_n 0, 1) := by decide +kernel
theorem dX8_pathChanges_17 : decode cX8_pathChanges 17 = .ok (.getfield 76, 3) := by decide +kernel
theorem dX8_pathChanges_20 : decode cX8_pathChanges 20 = .ok (.ifCond .le 7, 3) := by decide +kernel
theorem dX8_pathChanges_23 : decode cX8_pathChanges 23 = .ok (.iconst 0, 1) := by decide +kernel
theorem dX8_pathChanges_24 : decode cX8_pathChanges 24 = .ok (.goto 7, 3) := by decide +kernel
theorem dX8_pathChanges_27 : decode cX8_pathChanges 27 = .ok (.aload_n 0, 1) := by decide +kernel
theorem dX8_pathChanges_28 : decode cX8_pathChanges 28 = .ok (.invokevirtual 273, 3) := by decide +kernel
theorem dX8_pathChanges_31 : decode cX8_pathChanges 31 = .ok (.ireturn, 1) := by decide +kernel
theorem dX8_follow_0 : decode cX8_follow 0 = .ok (.aload_n 0, 1) := by decide +kernel
theorem dX8_follow_1 : decode cX8_follow 1 = .ok (.iload_n 1, 1) := by decide +kernel
theorem dX8_follow_2 : decode cX8_follow 2 = .ok (.ifCond .ge 7, 3) := by decide +kernel
theorem dX8_follow_5 : decode cX8_follow 5 = .ok (.iconst 1, 1) := by decide +kernel
theorem dX8_follow_6 : decode cX8_follow 6 = .ok (.goto 15, 3) := by decide +kernel
theorem dX8_follow_9 : decode cX8_follow 9 = .ok (.aload_n 0, 1) := by decide +kernel
theorem dX8_follow_10 : decode cX8_follow 10 = .ok (.getfield 22, 3) := by decide +kernel
theorem dX8_follow_13 : decode cX8_follow 13 = .ok (.ifCond .ge 7, 3) := by decide +kernel
theorem dX8_follow_16 : decode cX8_follow 16 = .ok (.iconst 2, 1) := by decide +kernel
theorem dX8_follow_17 : decode cX8_follow 17 = .ok (.goto 4, 3) := by decide +kernel
theorem dX8_follow_20 : decode cX8_follow 20 = .ok (.iconst 0, 1) := by decide +kernel
theorem dX8_follow_21 : decode cX8_follow 21 = .ok (.putfield 76, 3) := by decide +kernel
theorem dX8_follow_24 : decode cX8_follow 24 = .ok (.iconst 0, 1) := by decide +kernel
theorem dX8_follow_25 : decode cX8_follow 25 = .ok (.istore_n 2, 1) := by decide +kernel
theorem dX8_follow_26 : decode cX8_follow 26 = .ok (.iload_n 2, 1) := by decide +kernel
theorem dX8_follow_27 : decode cX8_follow 27 = .ok (.iload_n 1, 1) := by decide +kernel
theorem dX8_follow_28 : decode cX8_follow 28 = .ok (.if_icmp .ge 50, 3) := by decide +kernel
theorem dX8_follow_31 : decode cX8_follow 31 = .ok (.aload_n 0, 1) := by decide +kernel
theorem dX8_follow_32 : decode cX8_follow 32 = .ok (.getfield 76, 3) := by decide +kernel
theorem dX8_follow_35 : decode cX8_follow 35 = .ok (.ifCond .ne 43, 3) := by decide +kernel
theorem dX8_follow_38 : decode cX8_follow 38 = .ok (.aload_n 0, 1) := by decide +kernel
theorem dX8_follow_39 : decode cX8_follow 39 = .ok (.getfield 252, 3) := by decide +kernel
theorem dX8_follow_42 : decode cX8_follow 42 = .ok (.aload_n 0, 1) := by decide +kernel
theorem dX8_follow_43 : decode cX8_follow 43 = .ok (.getfield 22, 3) := by decide +kernel
theorem dX8_follow_46 : decode cX8_follow 46 = .ok (.if_icmp .ge 32, 3) := by decide +kernel
theorem dX8_follow_49 : decode cX8_follow 49 = .ok (.aload_n 0, 1) := by decide +kernel
theorem dX8_follow_50 : decode cX8_follow 50 = .ok (.aload_n 0, 1) := by decide +kernel
theorem dX8_follow_51 : decode cX8_follow 51 = .ok (.getfield 19, 3) := by decide +kernel
theorem dX8_follow_54 : decode cX8_follow 54 = .ok (.aload_n 0, 1) := by decide +kernel
theorem dX8_follow_55 : decode cX8_follow 55 = .ok (.getfield 252, 3) := by decide +kernel
theorem dX8_follow_58 : decode cX8_follow 58 = .ok (.iaload, 1) := by decide +kernel
theorem dX8_follow_59 : decode cX8_follow 59 = .ok (.invokevirtual 209, 3) := by decide +kernel
theorem dX8_follow_62 : decode cX8_follow 62 = .ok (.aload_n 0, 1) := by decide +kernel
theorem dX8_follow_63 : decode cX8_follow 63 = .ok (.dup, 1) := by decide +kernel
theorem dX8_follow_64 : decode cX8_follow 64 = .ok (.getfield 252, 3) := by decide +kernel
theorem dX8_follow_67 : decode cX8_follow 67 = .ok (.iconst 1, 1) := by decide +kernel
theorem dX8_follow_68 : decode cX8_follow 68 = .ok (.iadd, 1) := by decide +kernel
theorem dX8_follow_69 : decode cX8_follow 69 = .ok (.putfield 252, 3) := by decide +kernel
theorem dX8_follow_72 : decode cX8_follow 72 = .ok (.iinc 2 1, 3) := by decide +kernel
theorem dX8_follow_75 : decode cX8_follow 75 = .ok (.goto (-49), 3) := by decide +kernel
theorem dX8_follow_78 : decode cX8_follow 78 = .ok (.aload_n 0, 1) := by decide +kernel
theorem dX8_follow_79 : decode cX8_follow 79 = .ok (.getfield 76, 3) := by decide +kernel
theorem dX8_follow_82 : decode cX8_follow 82 = .ok (.ifCond .le 7, 3) := by decide +kernel
theorem dX8_follow_85 : decode cX8_follow 85 = .ok (.iconst 0, 1) := by decide +kernel
theorem dX8_follow_86 : decode cX8_follow 86 = .ok (.goto 12, 3) := by decide +kernel
theorem dX8_follow_89 : decode cX8_follow 89 = .ok (.aload_n 0, 1) := by decide +kernel
theorem dX8_follow_90 : decode cX8_follow 90 = .ok (.getfield 22, 3) := by decide +kernel
theorem dX8_follow_93 : decode cX8_follow 93 = .ok (.aload_n 0, 1) := by decide +kernel
theorem dX8_follow_94 : decode cX8_follow 94 = .ok (.getfield 252, 3) := by decide +kernel
theorem dX8_follow_97 : decode cX8_follow 97 = .ok (.isub, 1) := by decide +kernel
theorem dX8_follow_98 : decode cX8_follow 98 = .ok (.ireturn, 1) := by decide +kernel
theorem dX8_back_0 : decode cX8_back 0 = .ok (.aload_n 0, 1) := by decide +kernel
theorem dX8_back_1 : decode cX8_back 1 = .ok (.iload_n 1, 1) := by decide +kernel
theorem dX8_back_2 : decode cX8_back 2 = .ok (.ifCond .ge 7, 3) := by decide +kernel
theorem dX8_back_5 : decode cX8_back 5 = .ok (.iconst 1, 1) := by decide +kernel
theorem dX8_back_6 : decode cX8_back 6 = .ok (.goto 15, 3) := by decide +kernel
theorem dX8_back_9 : decode cX8_back 9 = .ok (.aload_n 0, 1) := by decide +kernel
theorem dX8_back_10 : decode cX8_back 10 = .ok (.getfield 22, 3) := by decide +kernel
theorem dX8_back_13 : decode cX8_back 13 = .ok (.ifCond .ge 7, 3) := by decide +kernel
theorem dX8_back_16 : decode cX8_back 16 = .ok (.iconst 2, 1) := by decide +kernel
theorem dX8_back_17 : decode cX8_back 17 = .ok (.goto 4, 3) := by decide +kernel
theorem dX8_back_20 : decode cX8_back 20 = .ok (.iconst 0, 1) := by decide +kernel
theorem dX8_back_21 : decode cX8_back 21 = .ok (.putfield 76, 3) := by decide +kernel
theorem dX8_back_24 : decode cX8_back 24 = .ok (.iconst 0, 1) := by decide +kernel
theorem dX8_back_25 : decode cX8_back 25 = .ok (.istore_n 2, 1) := by decide +kernel
theorem dX8_back_26 : decode cX8_back 26 = .ok (.iload_n 2, 1) := by decide +kernel
theorem dX8_back_27 : decode cX8_back 27 = .ok (.iload_n 1, 1) := by decide +kernel
theorem dX8_back_28 : decode cX8_back 28 = .ok (.if_icmp .ge 76, 3) := by decide +kernel
theorem dX8_back_31 : decode cX8_back 31 = .ok (.aload_n 0, 1) := by decide +kernel
theorem dX8_back_32 : decode cX8_back 32 = .ok (.getfield 76, 3) := by decide +kernel
theorem dX8_back_35 : decode cX8_back 35 = .ok (.ifCond .ne 69, 3) := by decide +kernel
theorem dX8_back_38 : decode cX8_back 38 = .ok (.aload_n 0, 1) := by decide +kernel
theorem dX8_back_39 : decode cX8_back 39 = .ok (.getfield 252, 3) := by decide +kernel
theorem dX8_back_42 : decode cX8_back 42 = .ok (.ifCond .le 62, 3) := by decide +kernel
theorem dX8_back_45 : decode cX8_back 45 = .ok (.aload_n 0, 1) := by decide +kernel
theorem dX8_back_46 : decode cX8_back 46 = .ok (.dup, 1) := by decide +kernel
theorem dX8_back_47 : decode cX8_back 47 = .ok (.getfield 252, 3) := by decide +kernel
theorem dX8_back_50 : decode cX8_back 50 = .ok (.iconst 1, 1) := by decide +kernel
theorem dX8_back_51 : decode cX8_back 51 = .ok (.isub, 1) := by decide +kernel
theorem dX8_back_52 : decode cX8_back 52 = .ok (.putfield 252, 3) := by decide +kernel
theorem dX8_back_55 : decode cX8_back 55 = .ok (.aload_n 0, 1) := by decide +kernel
theorem dX8_back_56 : decode cX8_back 56 = .ok (.aload_n 0, 1) := by decide +kernel
theorem dX8_back_57 : decode cX8_back 57 = .ok (.getfield 19, 3) := by decide +kernel
theorem dX8_back_60 : decode cX8_back 60 = .ok (.aload_n 0, 1) := by decide +kernel
theorem dX8_back_61 : decode cX8_back 61 = .ok (.getfield 252, 3) := by decide +kernel
theorem dX8_back_64 : decode cX8_back 64 = .ok (.iaload, 1) := by decide +kernel
theorem dX8_back_65 : decode cX8_back 65 = .ok (.iconst 2, 1) := by decide +kernel
theorem dX8_back_66 : decode cX8_back 66 = .ok (.irem, 1) := by decide +kernel
theorem dX8_back_67 : decode cX8_back 67 = .ok (.ifCond .ne 17, 3) := by decide +kernel
theorem dX8_back_70 : decode cX8_back 70 = .ok (.aload_n 0, 1) := by decide +kernel
theorem dX8_back_71 : decode cX8_back 71 = .ok (.getfield 19, 3) := by decide +kernel
theorem dX8_back_74 : decode cX8_back 74 = .ok (.aload_n 0, 1) := by decide +kernel
theorem dX8_back_75 : decode cX8_back 75 = .ok (.getfield 252, 3) := by decide +kernel
theorem dX8_back_78 : decode cX8_back 78 = .ok (.iaload, 1) := by decide +kernel
theorem dX8_back_79 : decode cX8_back 79 = .ok (.iconst 1, 1) := by decide +kernel
theorem dX8_back_80 : decode cX8_back 80 = .ok (.iadd, 1) := by decide +kernel
theorem dX8_back_81 : decode cX8_back 81 = .ok (.goto 14, 3) := by decide +kernel
theorem dX8_back_84 : decode cX8_back 84 = .ok (.aload_n 0, 1) := by decide +kernel
theorem dX8_back_85 : decode cX8_back 85 = .ok (.getfield 19, 3) := by decide +kernel
theorem dX8_back_88 : decode cX8_back 88 = .ok (.aload_n 0, 1) := by decide +kernel
theorem dX8_back_89 : decode cX8_back 89 = .ok (.getfield 252, 3) := by decide +kernel
theorem dX8_back_92 : decode cX8_back 92 = .ok (.iaload, 1) := by decide +kernel
theorem dX8_back_93 : decode cX8_back 93 = .ok (.iconst 1, 1) := by decide +kernel
theorem dX8_back_94 : decode cX8_back 94 = .ok (.isub, 1) := by decide +kernel
theorem dX8_back_95 : decode cX8_back 95 = .ok (.invokevirtual 209, 3) := by decide +kernel
theorem dX8_back_98 : decode cX8_back 98 = .ok (.iinc 2 1, 3) := by decide +kernel
theorem dX8_back_101 : decode cX8_back 101 = .ok (.goto (-75), 3) := by decide +kernel
theorem dX8_back_104 : decode cX8_back 104 = .ok (.aload_n 0, 1) := by decide +kernel
theorem dX8_back_105 : decode cX8_back 105 = .ok (.getfield 76, 3) := by decide +kernel
theorem dX8_back_108 : decode cX8_back 108 = .ok (.ifCond .le 7, 3) := by decide +kernel
theorem dX8_back_111 : decode cX8_back 111 = .ok (.iconst 0, 1) := by decide +kernel
theorem dX8_back_112 : decode cX8_back 112 = .ok (.goto 7, 3) := by decide +kernel
theorem dX8_back_115 : decode cX8_back 115 = .ok (.aload_n 0, 1) := by decide +kernel
theorem dX8_back_116 : decode cX8_back 116 = .ok (.getfield 252, 3) := by decide +kernel
theorem dX8_back_119 : decode cX8_back 119 = .ok (.ireturn, 1) := by decide +kernel
theorem dX8_pathCells_0 : decode cX8_pathCells 0 = .ok (.aload_n 0, 1) := by decide +kernel
theorem dX8_pathCells_1 : decode cX8_pathCells 1 = .ok (.aload_n 0, 1) := by decide +kernel
theorem dX8_pathCells_2 : decode cX8_pathCells 2 = .ok (.getfield 22, 3) := by decide +kernel
theorem dX8_pathCells_5 : decode cX8_pathCells 5 = .ok (.ifCond .ge 7, 3) := by decide +kernel
theorem dX8_pathCells_8 : decode cX8_pathCells 8 = .ok (.iconst 1, 1) := by decide +kernel
theorem dX8_pathCells_9 : decode cX8_pathCells 9 = .ok (.goto 4, 3) := by decide +kernel
theorem dX8_pathCells_12 : decode cX8_pathCells 12 = .ok (.iconst 0, 1) := by decide +kernel
theorem dX8_pathCells_13 : decode cX8_pathCells 13 = .ok (.putfield 76, 3) := by decide +kernel
theorem dX8_pathCells_16 : decode cX8_pathCells 16 = .ok (.aload_n 0, 1) := by decide +kernel
theorem dX8_pathCells_17 : decode cX8_pathCells 17 = .ok (.getfield 76, 3) := by decide +kernel
theorem dX8_pathCells_20 : decode cX8_pathCells 20 = .ok (.ifCond .le 5, 3) := by decide +kernel
theorem dX8_pathCells_23 : decode cX8_pathCells 23 = .ok (.iconst 0, 1) := by decide +kernel
theorem dX8_pathCells_24 : decode cX8_pathCells 24 = .ok (.ireturn, 1) := by decide +kernel
theorem dX8_pathCells_25 : decode cX8_pathCells 25 = .ok (.aload_n 0, 1) := by decide +kernel
theorem dX8_pathCells_26 : decode cX8_pathCells 26 = .ok (.invokevirtual 181, 3) := by decide +kernel
theorem dX8_pathCells_29 : decode cX8_pathCells 29 = .ok (.istore_n 1, 1) := by decide +kernel
theorem dX8_pathCells_30 : decode cX8_pathCells 30 = .ok (.aload_n 0, 1) := by decide +kernel
theorem dX8_pathCells_31 : decode cX8_pathCells 31 = .ok (.getfield 252, 3) := by decide +kernel
theorem dX8_pathCells_34 : decode cX8_pathCells 34 = .ok (.iconst 1, 1) := by decide +kernel
theorem dX8_pathCells_35 : decode cX8_pathCells 35 = .ok (.isub, 1) := by decide +kernel
theorem dX8_pathCells_36 : decode cX8_pathCells 36 = .ok (.istore_n 2, 1) := by decide +kernel
theorem dX8_pathCells_37 : decode cX8_pathCells 37 = .ok (.iload_n 2, 1) := by decide +kernel
theorem dX8_pathCells_38 : decode cX8_pathCells 38 = .ok (.ifCond .lt 45, 3) := by decide +kernel
theorem dX8_pathCells_41 : decode cX8_pathCells 41 = .ok (.aload_n 0, 1) := by decide +kernel
theorem dX8_pathCells_42 : decode cX8_pathCells 42 = .ok (.iload_n 1, 1) := by decide +kernel
theorem dX8_pathCells_43 : decode cX8_pathCells 43 = .ok (.aload_n 0, 1) := by decide +kernel
theorem dX8_pathCells_44 : decode cX8_pathCells 44 = .ok (.getfield 19, 3) := by decide +kernel
theorem dX8_pathCells_47 : decode cX8_pathCells 47 = .ok (.iload_n 2, 1) := by decide +kernel
theorem dX8_pathCells_48 : decode cX8_pathCells 48 = .ok (.iaload, 1) := by decide +kernel
theorem dX8_pathCells_49 : decode cX8_pathCells 49 = .ok (.iconst 2, 1) := by decide +kernel
theorem dX8_pathCells_50 : decode cX8_pathCells 50 = .ok (.irem, 1) := by decide +kernel
theorem dX8_pathCells_51 : decode cX8_pathCells 51 = .ok (.ifCond .ne 14, 3) := by decide +kernel
theorem dX8_pathCells_54 : decode cX8_pathCells 54 = .ok (.aload_n 0, 1) := by decide +kernel
theorem dX8_pathCells_55 : decode cX8_pathCells 55 = .ok (.getfield 19, 3) := by decide +kernel
theorem dX8_pathCells_58 : decode cX8_pathCells 58 = .ok (.iload_n 2, 1) := by decide +kernel
theorem dX8_pathCells_59 : decode cX8_pathCells 59 = .ok (.iaload, 1) := by decide +kernel
theorem dX8_pathCells_60 : decode cX8_pathCells 60 = .ok (.iconst 1, 1) := by decide +kernel
theorem dX8_pathCells_61 : decode cX8_pathCells 61 = .ok (.iadd, 1) := by decide +kernel
theorem dX8_pathCells_62 : decode cX8_pathCells 62 = .ok (.goto 11, 3) := by decide +kernel
theorem dX8_pathCells_65 : decode cX8_pathCells 65 = .ok (.aload_n 0, 1) := by decide +kernel
theorem dX8_pathCells_66 : decode cX8_pathCells 66 = .ok (.getfield 19, 3) := by decide +kernel
theorem dX8_pathCells_69 : decode cX8_pathCells 69 = .ok (.iload_n 2, 1) := by decide +kernel
theorem dX8_pathCells_70 : decode cX8_pathCells 70 = .ok (.iaload, 1) := by decide +kernel
theorem dX8_pathCells_71 : decode cX8_pathCells 71 = .ok (.iconst 1, 1) := by decide +kernel
theorem dX8_pathCells_72 : decode cX8_pathCells 72 = .ok (.isub, 1) := by decide +kernel
theorem dX8_pathCells_73 : decode cX8_pathCells 73 = .ok (.invokevirtual 196, 3) := by decide +kernel
theorem dX8_pathCells_76 : decode cX8_pathCells 76 = .ok (.istore_n 1, 1) := by decide +kernel
theorem dX8_pathCells_77 : decode cX8_pathCells 77 = .ok (.iinc 2 (-1), 3) := by decide +kernel
theorem dX8_pathCells_80 : decode cX8_pathCells 80 = .ok (.goto (-43), 3) := by decide +kernel
theorem dX8_pathCells_83 : decode cX8_pathCells 83 = .ok (.aload_n 0, 1) := by decide +kernel
theorem dX8_pathCells_84 : decode cX8_pathCells 84 = .ok (.iconst 0, 1) := by decide +kernel
theorem dX8_pathCells_85 : decode cX8_pathCells 85 = .ok (.putfield 234, 3) := by decide +kernel
theorem dX8_pathCells_88 : decode cX8_pathCells 88 = .ok (.iconst 0, 1) := by decide +kernel
theorem dX8_pathCells_89 : decode cX8_pathCells 89 = .ok (.istore_n 2, 1) := by decide +kernel
theorem dX8_pathCells_90 : decode cX8_pathCells 90 = .ok (.iload_n 2, 1) := by decide +kernel
theorem dX8_pathCells_91 : decode cX8_pathCells 91 = .ok (.aload_n 0, 1) := by decide +kernel
theorem dX8_pathCells_92 : decode cX8_pathCells 92 = .ok (.getfield 22, 3) := by decide +kernel
theorem dX8_pathCells_95 : decode cX8_pathCells 95 = .ok (.if_icmp .gt 89, 3) := by decide +kernel
theorem dX8_pathCells_98 : decode cX8_pathCells 98 = .ok (.aload_n 0, 1) := by decide +kernel
theorem dX8_pathCells_99 : decode cX8_pathCells 99 = .ok (.iload_n 1, 1) := by decide +kernel
theorem dX8_pathCells_100 : decode cX8_pathCells 100 = .ok (.invokevirtual 174, 3) := by decide +kernel
theorem dX8_pathCells_103 : decode cX8_pathCells 103 = .ok (.aload_n 0, 1) := by decide +kernel
theorem dX8_pathCells_104 : decode cX8_pathCells 104 = .ok (.getfield 42, 3) := by decide +kernel
theorem dX8_pathCells_107 : decode cX8_pathCells 107 = .ok (.iload_n 1, 1) := by decide +kernel
theorem dX8_pathCells_108 : decode cX8_pathCells 108 = .ok (.aload_n 0, 1) := by decide +kernel
theorem dX8_pathCells_109 : decode cX8_pathCells 109 = .ok (.getfield 32, 3) := by decide +kernel
theorem dX8_pathCells_112 : decode cX8_pathCells 112 = .ok (.aload_n 0, 1) := by decide +kernel
theorem dX8_pathCells_113 : decode cX8_pathCells 113 = .ok (.getfield 7, 3) := by decide +kernel
theorem dX8_pathCells_116 : decode cX8_pathCells 116 = .ok (.iconst 0, 1) := by decide +kernel
theorem dX8_pathCells_117 : decode cX8_pathCells 117 = .ok (.iaload, 1) := by decide +kernel
theorem dX8_pathCells_118 : decode cX8_pathCells 118 = .ok (.iaload, 1) := by decide +kernel
theorem dX8_pathCells_119 : decode cX8_pathCells 119 = .ok (.aload_n 0, 1) := by decide +kernel
theorem dX8_pathCells_120 : decode cX8_pathCells 120 = .ok (.getfield 35, 3) := by decide +kernel
theorem dX8_pathCells_123 : decode cX8_pathCells 123 = .ok (.aload_n 0, 1) := by decide +kernel
theorem dX8_pathCells_124 : decode cX8_pathCells 124 = .ok (.getfield 7, 3) := by decide +kernel
theorem dX8_pathCells_127 : decode cX8_pathCells 127 = .ok (.iconst 0, 1) := by decide +kernel
theorem dX8_pathCells_128 : decode cX8_pathCells 128 = .ok (.iaload, 1) := by decide +kernel
theorem dX8_pathCells_129 : decode cX8_pathCells 129 = .ok (.iaload, 1) := by decide +kernel
theorem dX8_pathCells_130 : decode cX8_pathCells 130 = .ok (.invokestatic 219, 3) := by decide +kernel
theorem dX8_pathCells_133 : decode cX8_pathCells 133 = .ok (.iastore, 1) := by decide +kernel
theorem dX8_pathCells_134 : decode cX8_pathCells 134 = .ok (.aload_n 0, 1) := by decide +kernel
theorem dX8_pathCells_135 : decode cX8_pathCells 135 = .ok (.getfield 48, 3) := by decide +kernel
theorem dX8_pathCells_138 : decode cX8_pathCells 138 = .ok (.aload_n 0, 1) := by decide +kernel
theorem dX8_pathCells_139 : decode cX8_pathCells 139 = .ok (.getfield 234, 3) := by decide +kernel
theorem dX8_pathCells_142 : decode cX8_pathCells 142 = .ok (.iload_n 1, 1) := by decide +kernel
theorem dX8_pathCells_143 : decode cX8_pathCells 143 = .ok (.iastore, 1) := by decide +kernel
theorem dX8_pathCells_144 : decode cX8_pathCells 144 = .ok (.aload_n 0, 1) := by decide +kernel
theorem dX8_pathCells_145 : decode cX8_pathCells 145 = .ok (.dup, 1) := by decide +kernel
theorem dX8_pathCells_146 : decode cX8_pathCells 146 = .ok (.getfield 234, 3) := by decide +kernel
theorem dX8_pathCells_149 : decode cX8_pathCells 149 = .ok (.iconst 1, 1) := by decide +kernel
theorem dX8_pathCells_150 : decode cX8_pathCells 150 = .ok (.iadd, 1) := by decide +kernel
theorem dX8_pathCells_151 : decode cX8_pathCells 151 = .ok (.putfield 234, 3) := by decide +kernel
theorem dX8_pathCells_154 : decode cX8_pathCells 154 = .ok (.iload_n 2, 1) := by decide +kernel
theorem dX8_pathCells_155 : decode cX8_pathCells 155 = .ok (.aload_n 0, 1) := by decide +kernel
theorem dX8_pathCells_156 : decode cX8_pathCells 156 = .ok (.getfield 22, 3) := by decide +kernel
theorem dX8_pathCells_159 : decode cX8_pathCells 159 = .ok (.if_icmp .ge 17, 3) := by decide +kernel
theorem dX8_pathCells_162 : decode cX8_pathCells 162 = .ok (.aload_n 0, 1) := by decide +kernel
theorem dX8_pathCells_163 : decode cX8_pathCells 163 = .ok (.iload_n 1, 1) := by decide +kernel
theorem dX8_pathCells_164 : decode cX8_pathCells 164 = .ok (.aload_n 0, 1) := by decide +kernel
theorem dX8_pathCells_165 : decode cX8_pathCells 165 = .ok (.getfield 19, 3) := by decide +kernel
theorem dX8_pathCells_168 : decode cX8_pathCells 168 = .ok (.iload_n 2, 1) := by decide +kernel
theorem dX8_pathCells_169 : decode cX8_pathCells 169 = .ok (.iaload, 1) := by decide +kernel
theorem dX8_pathCells_170 : decode cX8_pathCells 170 = .ok (.invokevirtual 196, 3) := by decide +kernel
theorem dX8_pathCells_173 : decode cX8_pathCells 173 = .ok (.goto 4, 3) := by decide +kernel
theorem dX8_pathCells_176 : decode cX8_pathCells 176 = .ok (.iload_n 1, 1) := by decide +kernel
theorem dX8_pathCells_177 : decode cX8_pathCells 177 = .ok (.istore_n 1, 1) := by decide +kernel
theorem dX8_pathCells_178 : decode cX8_pathCells 178 = .ok (.iinc 2 1, 3) := by decide +kernel
theorem dX8_pathCells_181 : decode cX8_pathCells 181 = .ok (.goto (-91), 3) := by decide +kernel
theorem dX8_pathCells_184 : decode cX8_pathCells 184 = .ok (.aload_n 0, 1) := by decide +kernel
theorem dX8_pathCells_185 : decode cX8_pathCells 185 = .ok (.invokevirtual 249, 3) := by decide +kernel
theorem dX8_pathCells_188 : decode cX8_pathCells 188 = .ok (.ireturn, 1) := by decide +kernel
theorem dX8_used_0 : decode cX8_used 0 = .ok (.iconst 0, 1) := by decide +kernel
theorem dX8_used_1 : decode cX8_used 1 = .ok (.istore_n 1, 1) := by decide +kernel
theorem dX8_used_2 : decode cX8_used 2 = .ok (.iconst 0, 1) := by decide +kernel
theorem dX8_used_3 : decode cX8_used 3 = .ok (.istore_n 2, 1) := by decide +kernel
theorem dX8_used_4 : decode cX8_used 4 = .ok (.iload_n 2, 1) := by decide +kernel
theorem dX8_used_5 : decode cX8_used 5 = .ok (.bipush 26, 2) := by decide +kernel
theorem dX8_used_7 : decode cX8_used 7 = .ok (.if_icmp .ge 26, 3) := by decide +kernel
theorem dX8_used_10 : decode cX8_used 10 = .ok (.iload_n 1, 1) := by decide +kernel
theorem dX8_used_11 : decode cX8_used 11 = .ok (.aload_n 0, 1) := by decide +kernel
theorem dX8_used_12 : decode cX8_used 12 = .ok (.getfield 58, 3) := by decide +kernel
theorem dX8_used_15 : decode cX8_used 15 = .ok (.iload_n 2, 1) := by decide +kernel
theorem dX8_used_16 : decode cX8_used 16 = .ok (.iaload, 1) := by decide +kernel
theorem dX8_used_17 : decode cX8_used 17 = .ok (.ifCond .lt 7, 3) := by decide +kernel
theorem dX8_used_20 : decode cX8_used 20 = .ok (.iconst 1, 1) := by decide +kernel
theorem dX8_used_21 : decode cX8_used 21 = .ok (.goto 4, 3) := by decide +kernel
theorem dX8_used_24 : decode cX8_used 24 = .ok (.iconst 0, 1) := by decide +kernel
theorem dX8_used_25 : decode cX8_used 25 = .ok (.iadd, 1) := by decide +kernel
theorem dX8_used_26 : decode cX8_used 26 = .ok (.istore_n 1, 1) := by decide +kernel
theorem dX8_used_27 : decode cX8_used 27 = .ok (.iinc 2 1, 3) := by decide +kernel
theorem dX8_used_30 : decode cX8_used 30 = .ok (.goto (-26), 3) := by decide +kernel
theorem dX8_used_33 : decode cX8_used 33 = .ok (.iload_n 1, 1) := by decide +kernel
theorem dX8_used_34 : decode cX8_used 34 = .ok (.ireturn, 1) := by decide +kernel
theorem dX8_bookmark_0 : decode cX8_bookmark 0 = .ok (.iload_n 1, 1) := by decide +kernel
theorem dX8_bookmark_1 : decode cX8_bookmark 1 = .ok (.bipush 97, 2) := by decide +kernel
theorem dX8_bookmark_3 : decode cX8_bookmark 3 = .ok (.isub, 1) := by decide +kernel
theorem dX8_bookmark_4 : decode cX8_bookmark 4 = .ok (.istore_n 2, 1) := by decide +kernel
theorem dX8_bookmark_5 : decode cX8_bookmark 5 = .ok (.aload_n 0, 1) := by decide +kernel
theorem dX8_bookmark_6 : decode cX8_bookmark 6 = .ok (.iload_n 2, 1) := by decide +kernel
theorem dX8_bookmark_7 : decode cX8_bookmark 7 = .ok (.iconst 0, 1) := by decide +kernel
theorem dX8_bookmark_8 : decode cX8_bookmark 8 = .ok (.bipush 25, 2) := by decide +kernel
theorem dX8_bookmark_10 : decode cX8_bookmark 10 = .ok (.invokestatic 79, 3) := by decide +kernel
theorem dX8_bookmark_13 : decode cX8_bookmark 13 = .ok (.ifCond .eq 29, 3) := by decide +kernel
theorem dX8_bookmark_16 : decode cX8_bookmark 16 = .ok (.aload_n 0, 1) := by decide +kernel
theorem dX8_bookmark_17 : decode cX8_bookmark 17 = .ok (.getfield 58, 3) := by decide +kernel
theorem dX8_bookmark_20 : decode cX8_bookmark 20 = .ok (.iload_n 2, 1) := by decide +kernel
theorem dX8_bookmark_21 : decode cX8_bookmark 21 = .ok (.iaload, 1) := by decide +kernel
theorem dX8_bookmark_22 : decode cX8_bookmark 22 = .ok (.ifCond .ge 16, 3) := by decide +kernel
theorem dX8_bookmark_25 : decode cX8_bookmark 25 = .ok (.aload_n 0, 1) := by decide +kernel
theorem dX8_bookmark_26 : decode cX8_bookmark 26 = .ok (.invokevirtual 279, 3) := by decide +kernel
theorem dX8_bookmark_29 : decode cX8_bookmark 29 = .ok (.bipush 6, 2) := by decide +kernel
theorem dX8_bookmark_31 : decode cX8_bookmark 31 = .ok (.if_icmp .ne 7, 3) := by decide +kernel
theorem dX8_bookmark_34 : decode cX8_bookmark 34 = .ok (.iconst 2, 1) := by decide +kernel
theorem dX8_bookmark_35 : decode cX8_bookmark 35 = .ok (.goto 8, 3) := by decide +kernel
theorem dX8_bookmark_38 : decode cX8_bookmark 38 = .ok (.iconst 0, 1) := by decide +kernel
theorem dX8_bookmark_39 : decode cX8_bookmark 39 = .ok (.goto 4, 3) := by decide +kernel
theorem dX8_bookmark_42 : decode cX8_bookmark 42 = .ok (.iconst 1, 1) := by decide +kernel
theorem dX8_bookmark_43 : decode cX8_bookmark 43 = .ok (.putfield 76, 3) := by decide +kernel
theorem dX8_bookmark_46 : decode cX8_bookmark 46 = .ok (.aload_n 0, 1) := by decide +kernel
theorem dX8_bookmark_47 : decode cX8_bookmark 47 = .ok (.getfield 76, 3) := by decide +kernel
theorem dX8_bookmark_50 : decode cX8_bookmark 50 = .ok (.ifCond .le 5, 3) := by decide +kernel
theorem dX8_bookmark_53 : decode cX8_bookmark 53 = .ok (.iconst 0, 1) := by decide +kernel
theorem dX8_bookmark_54 : decode cX8_bookmark 54 = .ok (.ireturn, 1) := by decide +kernel
theorem dX8_bookmark_55 : decode cX8_bookmark 55 = .ok (.aload_n 0, 1) := by decide +kernel
theorem dX8_bookmark_56 : decode cX8_bookmark 56 = .ok (.getfield 58, 3) := by decide +kernel
theorem dX8_bookmark_59 : decode cX8_bookmark 59 = .ok (.iload_n 2, 1) := by decide +kernel
theorem dX8_bookmark_60 : decode cX8_bookmark 60 = .ok (.aload_n 0, 1) := by decide +kernel
theorem dX8_bookmark_61 : decode cX8_bookmark 61 = .ok (.getfield 7, 3) := by decide +kernel
theorem dX8_bookmark_64 : decode cX8_bookmark 64 = .ok (.iconst 0, 1) := by decide +kernel
theorem dX8_bookmark_65 : decode cX8_bookmark 65 = .ok (.iaload, 1) := by decide +kernel
theorem dX8_bookmark_66 : decode cX8_bookmark 66 = .ok (.iastore, 1) := by decide +kernel
theorem dX8_bookmark_67 : decode cX8_bookmark 67 = .ok (.iconst 0, 1) := by decide +kernel
theorem dX8_bookmark_68 : decode cX8_bookmark 68 = .ok (.istore_n 3, 1) := by decide +kernel
theorem dX8_bookmark_69 : decode cX8_bookmark 69 = .ok (.iload_n 3, 1) := by decide +kernel
theorem dX8_bookmark_70 : decode cX8_bookmark 70 = .ok (.aload_n 0, 1) := by decide +kernel
theorem dX8_bookmark_71 : decode cX8_bookmark 71 = .ok (.getfield 7, 3) := by decide +kernel
theorem dX8_bookmark_74 : decode cX8_bookmark 74 = .ok (.iconst 0, 1) := by decide +kernel
theorem dX8_bookmark_75 : decode cX8_bookmark 75 = .ok (.iaload, 1) := by decide +kernel
theorem dX8_bookmark_76 : decode cX8_bookmark 76 = .ok (.if_icmp .ge 29, 3) := by decide +kernel
theorem dX8_bookmark_79 : decode cX8_bookmark 79 = .ok (.aload_n 0, 1) := by decide +kernel
theorem dX8_bookmark_80 : decode cX8_bookmark 80 = .ok (.getfield 61, 3) := by decide +kernel
theorem dX8_bookmark_83 : decode cX8_bookmark 83 = .ok (.iconst 4, 1) := by decide +kernel
theorem dX8_bookmark_84 : decode cX8_bookmark 84 = .ok (.iload_n 2, 1) := by decide +kernel
theorem dX8_bookmark_85 : decode cX8_bookmark 85 = .ok (.imul, 1) := by decide +kernel
theorem dX8_bookmark_86 : decode cX8_bookmark 86 = .ok (.iload_n 3, 1) := by decide +kernel
theorem dX8_bookmark_87 : decode cX8_bookmark 87 = .ok (.iadd, 1) := by decide +kernel
theorem dX8_bookmark_88 : decode cX8_bookmark 88 = .ok (.aload_n 0, 1) := by decide +kernel
theorem dX8_bookmark_89 : decode cX8_bookmark 89 = .ok (.getfield 7, 3) := by decide +kernel
theorem dX8_bookmark_92 : decode cX8_bookmark 92 = .ok (.iconst 4, 1) := by decide +kernel
theorem dX8_bookmark_93 : decode cX8_bookmark 93 = .ok (.iconst 4, 1) := by decide +kernel
theorem dX8_bookmark_94 : decode cX8_bookmark 94 = .ok (.iload_n 3, 1) := by decide +kernel
theorem dX8_bookmark_95 : decode cX8_bookmark 95 = .ok (.imul, 1) := by decide +kernel
theorem dX8_bookmark_96 : decode cX8_bookmark 96 = .ok (.iadd, 1) := by decide +kernel
theorem dX8_bookmark_97 : decode cX8_bookmark 97 = .ok (.iaload, 1) := by decide +kernel
theorem dX8_bookmark_98 : decode cX8_bookmark 98 = .ok (.iastore, 1) := by decide +kernel
theorem dX8_bookmark_99 : decode cX8_bookmark 99 = .ok (.iinc 3 1, 3) := by decide +kernel
theorem dX8_bookmark_102 : decode cX8_bookmark 102 = .ok (.goto (-33), 3) := by decide +kernel
theorem dX8_bookmark_105 : decode cX8_bookmark 105 = .ok (.aload_n 0, 1) := by decide +kernel
theorem dX8_bookmark_106 : decode cX8_bookmark 106 = .ok (.invokevirtual 279, 3) := by decide +kernel
theorem dX8_bookmark_109 : decode cX8_bookmark 109 = .ok (.ireturn, 1) := by decide +kernel
theorem dX8_isNamed_0 : decode cX8_isNamed 0 = .ok (.aload_n 0, 1) := by decide +kernel
theorem dX8_isNamed_1 : decode cX8_isNamed 1 = .ok (.getfield 58, 3) := by decide +kernel
theorem dX8_isNamed_4 : decode cX8_isNamed 4 = .ok (.iload_n 1, 1) := by decide +kernel
theorem dX8_isNamed_5 : decode cX8_isNamed 5 = .ok (.iaload, 1) := by decide +kernel
theorem dX8_isNamed_6 : decode cX8_isNamed 6 = .ok (.aload_n 0, 1) := by decide +kernel
theorem dX8_isNamed_7 : decode cX8_isNamed 7 = .ok (.getfield 7, 3) := by decide +kernel
theorem dX8_isNamed_10 : decode cX8_isNamed 10 = .ok (.iconst 0, 1) := by decide +kernel
theorem dX8_isNamed_11 : decode cX8_isNamed 11 = .ok (.iaload, 1) := by decide +kernel
theorem dX8_isNamed_12 : decode cX8_isNamed 12 = .ok (.if_icmp .ne 7, 3) := by decide +kernel
theorem dX8_isNamed_15 : decode cX8_isNamed 15 = .ok (.iconst 1, 1) := by decide +kernel
theorem dX8_isNamed_16 : decode cX8_isNamed 16 = .ok (.goto 4, 3) := by decide +kernel
theorem dX8_isNamed_19 : decode cX8_isNamed 19 = .ok (.iconst 0, 1) := by decide +kernel
theorem dX8_isNamed_20 : decode cX8_isNamed 20 = .ok (.istore_n 2, 1) := by decide +kernel
theorem dX8_isNamed_21 : decode cX8_isNamed 21 = .ok (.iconst 0, 1) := by decide +kernel
theorem dX8_isNamed_22 : decode cX8_isNamed 22 = .ok (.istore_n 3, 1) := by decide +kernel
theorem dX8_isNamed_23 : decode cX8_isNamed 23 = .ok (.iload_n 3, 1) := by decide +kernel
theorem dX8_isNamed_24 : decode cX8_isNamed 24 = .ok (.aload_n 0, 1) := by decide +kernel
theorem dX8_isNamed_25 : decode cX8_isNamed 25 = .ok (.getfield 7, 3) := by decide +kernel
theorem dX8_isNamed_28 : decode cX8_isNamed 28 = .ok (.iconst 0, 1) := by decide +kernel
theorem dX8_isNamed_29 : decode cX8_isNamed 29 = .ok (.iaload, 1) := by decide +kernel
theorem dX8_isNamed_30 : decode cX8_isNamed 30 = .ok (.if_icmp .ge 38, 3) := by decide +kernel
theorem dX8_isNamed_33 : decode cX8_isNamed 33 = .ok (.iload_n 2, 1) := by decide +kernel
theorem dX8_isNamed_34 : decode cX8_isNamed 34 = .ok (.ifCond .eq 34, 3) := by decide +kernel
theorem dX8_isNamed_37 : decode cX8_isNamed 37 = .ok (.aload_n 0, 1) := by decide +kernel
theorem dX8_isNamed_38 : decode cX8_isNamed 38 = .ok (.getfield 61, 3) := by decide +kernel
theorem dX8_isNamed_41 : decode cX8_isNamed 41 = .ok (.iconst 4, 1) := by decide +kernel
theorem dX8_isNamed_42 : decode cX8_isNamed 42 = .ok (.iload_n 1, 1) := by decide +kernel
theorem dX8_isNamed_43 : decode cX8_isNamed 43 = .ok (.imul, 1) := by decide +kernel
theorem dX8_isNamed_44 : decode cX8_isNamed 44 = .ok (.iload_n 3, 1) := by decide +kernel
theorem dX8_isNamed_45 : decode cX8_isNamed 45 = .ok (.iadd, 1) := by decide +kernel
theorem dX8_isNamed_46 : decode cX8_isNamed 46 = .ok (.iaload, 1) := by decide +kernel
theorem dX8_isNamed_47 : decode cX8_isNamed 47 = .ok (.aload_n 0, 1) := by decide +kernel
theorem dX8_isNamed_48 : decode cX8_isNamed 48 = .ok (.iload_n 3, 1) := by decide +kernel
theorem dX8_isNamed_49 : decode cX8_isNamed 49 = .ok (.invokevirtual 124, 3) := by decide +kernel
theorem dX8_isNamed_52 : decode cX8_isNamed 52 = .ok (.ineg, 1) := by decide +kernel
theorem dX8_isNamed_53 : decode cX8_isNamed 53 = .ok (.aload_n 0, 1) := by decide +kernel
theorem dX8_isNamed_54 : decode cX8_isNamed 54 = .ok (.iload_n 3, 1) := by decide +kernel
theorem dX8_isNamed_55 : decode cX8_isNamed 55 = .ok (.invokevirtual 127, 3) := by decide +kernel
theorem dX8_isNamed_58 : decode cX8_isNamed 58 = .ok (.invokestatic 79, 3) := by decide +kernel
theorem dX8_isNamed_61 : decode cX8_isNamed 61 = .ok (.istore_n 2, 1) := by decide +kernel
theorem dX8_isNamed_62 : decode cX8_isNamed 62 = .ok (.iinc 3 1, 3) := by decide +kernel
theorem dX8_isNamed_65 : decode cX8_isNamed 65 = .ok (.goto (-42), 3) := by decide +kernel
theorem dX8_isNamed_68 : decode cX8_isNamed 68 = .ok (.iload_n 2, 1) := by decide +kernel
theorem dX8_isNamed_69 : decode cX8_isNamed 69 = .ok (.ireturn, 1) := by decide +kernel
theorem dX8_planToName_0 : decode cX8_planToName 0 = .ok (.iload_n 1, 1) := by decide +kernel
theorem dX8_planToName_1 : decode cX8_planToName 1 = .ok (.bipush 97, 2) := by decide +kernel
theorem dX8_planToName_3 : decode cX8_planToName 3 = .ok (.isub, 1) := by decide +kernel
theorem dX8_planToName_4 : decode cX8_planToName 4 = .ok (.istore_n 2, 1) := by decide +kernel
theorem dX8_planToName_5 : decode cX8_planToName 5 = .ok (.aload_n 0, 1) := by decide +kernel
theorem dX8_planToName_6 : decode cX8_planToName 6 = .ok (.iload_n 2, 1) := by decide +kernel
theorem dX8_planToName_7 : decode cX8_planToName 7 = .ok (.iconst 0, 1) := by decide +kernel
theorem dX8_planToName_8 : decode cX8_planToName 8 = .ok (.bipush 25, 2) := by decide +kernel
theorem dX8_planToName_10 : decode cX8_planToName 10 = .ok (.invokestatic 79, 3) := by decide +kernel
theorem dX8_planToName_13 : decode cX8_planToName 13 = .ok (.ifCond .eq 30, 3) := by decide +kernel
theorem dX8_planToName_16 : decode cX8_planToName 16 = .ok (.aload_n 0, 1) := by decide +kernel
theorem dX8_planToName_17 : decode cX8_planToName 17 = .ok (.iload_n 2, 1) := by decide +kernel
theorem dX8_planToName_18 : decode cX8_planToName 18 = .ok (.invokevirtual 282, 3) := by decide +kernel
theorem dX8_planToName_21 : decode cX8_planToName 21 = .ok (.ifCond .eq 18, 3) := by decide +kernel
theorem dX8_planToName_24 : decode cX8_planToName 24 = .ok (.aload_n 0, 1) := by decide +kernel
theorem dX8_planToName_25 : decode cX8_planToName 25 = .ok (.invokevirtual 222, 3) := by decide +kernel
theorem dX8_planToName_28 : decode cX8_planToName 28 = .ok (.ifCond .eq 7, 3) := by decide +kernel
theorem dX8_planToName_31 : decode cX8_planToName 31 = .ok (.iconst 3, 1) := by decide +kernel
theorem dX8_planToName_32 : decode cX8_planToName 32 = .ok (.goto 12, 3) := by decide +kernel
theorem dX8_planToName_35 : decode cX8_planToName 35 = .ok (.iconst 0, 1) := by decide +kernel
theorem dX8_planToName_36 : decode cX8_planToName 36 = .ok (.goto 8, 3) := by decide +kernel
theorem dX8_planToName_39 : decode cX8_planToName 39 = .ok (.iconst 2, 1) := by decide +kernel
theorem dX8_planToName_40 : decode cX8_planToName 40 = .ok (.goto 4, 3) := by decide +kernel
theorem dX8_planToName_43 : decode cX8_planToName 43 = .ok (.iconst 1, 1) := by decide +kernel
theorem dX8_planToName_44 : decode cX8_planToName 44 = .ok (.putfield 76, 3) := by decide +kernel
theorem dX8_planToName_47 : decode cX8_planToName 47 = .ok (.aload_n 0, 1) := by decide +kernel
theorem dX8_planToName_48 : decode cX8_planToName 48 = .ok (.getfield 76, 3) := by decide +kernel
theorem dX8_planToName_51 : decode cX8_planToName 51 = .ok (.ifCond .le 5, 3) := by decide +kernel
theorem dX8_planToName_54 : decode cX8_planToName 54 = .ok (.iconst 0, 1) := by decide +kernel
theorem dX8_planToName_55 : decode cX8_planToName 55 = .ok (.ireturn, 1) := by decide +kernel
theorem dX8_planToName_56 : decode cX8_planToName 56 = .ok (.iconst 0, 1) := by decide +kernel
theorem dX8_planToName_57 : decode cX8_planToName 57 = .ok (.istore_n 3, 1) := by decide +kernel
theorem dX8_planToName_58 : decode cX8_planToName 58 = .ok (.iconst 0, 1) := by decide +kernel
theorem dX8_planToName_59 : decode cX8_planToName 59 = .ok (.istore 4, 2) := by decide +kernel
theorem dX8_planToName_61 : decode cX8_planToName 61 = .ok (.iload 4, 2) := by decide +kernel
theorem dX8_planToName_63 : decode cX8_planToName 63 = .ok (.aload_n 0, 1) := by decide +kernel
theorem dX8_planToName_64 : decode cX8_planToName 64 = .ok (.getfield 7, 3) := by decide +kernel
theorem dX8_planToName_67 : decode cX8_planToName 67 = .ok (.iconst 0, 1) := by decide +kernel
theorem dX8_planToName_68 : decode cX8_planToName 68 = .ok (.iaload, 1) := by decide +kernel
theorem dX8_planToName_69 : decode cX8_planToName 69 = .ok (.if_icmp .ge 37, 3) := by decide +kernel
theorem dX8_planToName_72 : decode cX8_planToName 72 = .ok (.iload_n 3, 1) := by decide +kernel
theorem dX8_planToName_73 : decode cX8_planToName 73 = .ok (.aload_n 0, 1) := by decide +kernel
theorem dX8_planToName_74 : decode cX8_planToName 74 = .ok (.iload 4, 2) := by decide +kernel
theorem dX8_planToName_76 : decode cX8_planToName 76 = .ok (.invokevirtual 130, 3) := by decide +kernel
theorem dX8_planToName_79 : decode cX8_planToName 79 = .ok (.imul, 1) := by decide +kernel
theorem dX8_planToName_80 : decode cX8_planToName 80 = .ok (.aload_n 0, 1) := by decide +kernel
theorem dX8_planToName_81 : decode cX8_planToName 81 = .ok (.getfield 61, 3) := by decide +kernel
theorem dX8_planToName_84 : decode cX8_planToName 84 = .ok (.iconst 4, 1) := by decide +kernel
theorem dX8_planToName_85 : decode cX8_planToName 85 = .ok (.iload_n 2, 1) := by decide +kernel
theorem dX8_planToName_86 : decode cX8_planToName 86 = .ok (.imul, 1) := by decide +kernel
theorem dX8_planToName_87 : decode cX8_planToName 87 = .ok (.iload 4, 2) := by decide +kernel
theorem dX8_planToName_89 : decode cX8_planToName 89 = .ok (.iadd, 1) := by decide +kernel
theorem dX8_planToName_90 : decode cX8_planToName 90 = .ok (.iaload, 1) := by decide +kernel
theorem dX8_planToName_91 : decode cX8_planToName 91 = .ok (.iadd, 1) := by decide +kernel
theorem dX8_planToName_92 : decode cX8_planToName 92 = .ok (.aload_n 0, 1) := by decide +kernel
theorem dX8_planToName_93 : decode cX8_planToName 93 = .ok (.iload 4, 2) := by decide +kernel
theorem dX8_planToName_95 : decode cX8_planToName 95 = .ok (.invokevirtual 124, 3) := by decide +kernel
theorem dX8_planToName_98 : decode cX8_planToName 98 = .ok (.iadd, 1) := by decide +kernel
theorem dX8_planToName_99 : decode cX8_planToName 99 = .ok (.istore_n 3, 1) := by decide +kernel
theorem dX8_planToName_100 : decode cX8_planToName 100 = .ok (.iinc 4 1, 3) := by decide +kernel
theorem dX8_planToName_103 : decode cX8_planToName 103 = .ok (.goto (-42), 3) := by decide +kernel
theorem dX8_planToName_106 : decode cX8_planToName 106 = .ok (.aload_n 0, 1) := by decide +kernel
theorem dX8_planToName_107 : decode cX8_planToName 107 = .ok (.iload_n 3, 1) := by decide +kernel
theorem dX8_planToName_108 : decode cX8_planToName 108 = .ok (.invokevirtual 258, 3) := by decide +kernel
theorem dX8_planToName_111 : decode cX8_planToName 111 = .ok (.aload_n 0, 1) := by decide +kernel
theorem dX8_planToName_112 : decode cX8_planToName 112 = .ok (.invokevirtual 261, 3) := by decide +kernel
theorem dX8_planToName_115 : decode cX8_planToName 115 = .ok (.ifCond .eq 10, 3) := by decide +kernel
theorem dX8_planToName_118 : decode cX8_planToName 118 = .ok (.aload_n 0, 1) := by decide +kernel
theorem dX8_planToName_119 : decode cX8_planToName 119 = .ok (.getfield 22, 3) := by decide +kernel
theorem dX8_planToName_122 : decode cX8_planToName 122 = .ok (.goto 8, 3) := by decide +kernel
theorem dX8_planToName_125 : decode cX8_planToName 125 = .ok (.aload_n 0, 1) := by decide +kernel
theorem dX8_planToName_126 : decode cX8_planToName 126 = .ok (.iconst 4, 1) := by decide +kernel
theorem dX8_planToName_127 : decode cX8_planToName 127 = .ok (.invokevirtual 86, 3) := by decide +kernel
theorem dX8_planToName_130 : decode cX8_planToName 130 = .ok (.ireturn, 1) := by decide +kernel
theorem dX8_append_0 : decode cX8_append 0 = .ok (.aload_n 0, 1) := by decide +kernel
theorem dX8_append_1 : decode cX8_append 1 = .ok (.iload_n 1, 1) := by decide +kernel
theorem dX8_append_2 : decode cX8_append 2 = .ok (.bipush 32, 2) := by decide +kernel
theorem dX8_append_4 : decode cX8_append 4 = .ok (.bipush 126, 2) := by decide +kernel
theorem dX8_append_6 : decode cX8_append 6 = .ok (.invokestatic 79, 3) := by decide +kernel
theorem dX8_append_9 : decode cX8_append 9 = .ok (.ifCond .eq 20, 3) := by decide +kernel
theorem dX8_append_12 : decode cX8_append 12 = .ok (.aload_n 0, 1) := by decide +kernel
theorem dX8_append_13 : decode cX8_append 13 = .ok (.getfield 285, 3) := by decide +kernel
theorem dX8_append_16 : decode cX8_append 16 = .ok (.bipush 60, 2) := by decide +kernel
theorem dX8_append_18 : decode cX8_append 18 = .ok (.if_icmp .ne 7, 3) := by decide +kernel
theorem dX8_append_21 : decode cX8_append 21 = .ok (.iconst 2, 1) := by decide +kernel
theorem dX8_append_22 : decode cX8_append 22 = .ok (.goto 8, 3) := by decide +kernel
theorem dX8_append_25 : decode cX8_append 25 = .ok (.iconst 0, 1) := by decide +kernel
theorem dX8_append_26 : decode cX8_append 26 = .ok (.goto 4, 3) := by decide +kernel
theorem dX8_append_29 : decode cX8_append 29 = .ok (.iconst 1, 1) := by decide +kernel
theorem dX8_append_30 : decode cX8_append 30 = .ok (.putfield 76, 3) := by decide +kernel
theorem dX8_append_33 : decode cX8_append 33 = .ok (.aload_n 0, 1) := by decide +kernel
theorem dX8_append_34 : decode cX8_append 34 = .ok (.getfield 76, 3) := by decide +kernel
theorem dX8_append_37 : decode cX8_append 37 = .ok (.ifCond .le 5, 3) := by decide +kernel
theorem dX8_append_40 : decode cX8_append 40 = .ok (.iconst 0, 1) := by decide +kernel
theorem dX8_append_41 : decode cX8_append 41 = .ok (.ireturn, 1) := by decide +kernel
theorem dX8_append_42 : decode cX8_append 42 = .ok (.aload_n 0, 1) := by decide +kernel
theorem dX8_append_43 : decode cX8_append 43 = .ok (.getfield 64, 3) := by decide +kernel
theorem dX8_append_46 : decode cX8_append 46 = .ok (.aload_n 0, 1) := by decide +kernel
theorem dX8_append_47 : decode cX8_append 47 = .ok (.getfield 285, 3) := by decide +kernel
theorem dX8_append_50 : decode cX8_append 50 = .ok (.iload_n 1, 1) := by decide +kernel
theorem dX8_append_51 : decode cX8_append 51 = .ok (.iastore, 1) := by decide +kernel
theorem dX8_append_52 : decode cX8_append 52 = .ok (.aload_n 0, 1) := by decide +kernel
theorem dX8_append_53 : decode cX8_append 53 = .ok (.dup, 1) := by decide +kernel
theorem dX8_append_54 : decode cX8_append 54 = .ok (.getfield 285, 3) := by decide +kernel
theorem dX8_append_57 : decode cX8_append 57 = .ok (.iconst 1, 1) := by decide +kernel
theorem dX8_append_58 : decode cX8_append 58 = .ok (.iadd, 1) := by decide +kernel
theorem dX8_append_59 : decode cX8_append 59 = .ok (.putfield 285, 3) := by decide +kernel
theorem dX8_append_62 : decode cX8_append 62 = .ok (.aload_n 0, 1) := by decide +kernel
theorem dX8_append_63 : decode cX8_append 63 = .ok (.getfield 285, 3) := by decide +kernel
theorem dX8_append_66 : decode cX8_append 66 = .ok (.ireturn, 1) := by decide +kernel
theorem dX8_here_0 : decode cX8_here 0 = .ok (.aload_n 0, 1) := by decide +kernel
theorem dX8_here_1 : decode cX8_here 1 = .ok (.getfield 288, 3) := by decide +kernel
theorem dX8_here_4 : decode cX8_here 4 = .ok (.aload_n 0, 1) := by decide +kernel
theorem dX8_here_5 : decode cX8_here 5 = .ok (.getfield 285, 3) := by decide +kernel
theorem dX8_here_8 : decode cX8_here 8 = .ok (.if_icmp .ge 15, 3) := by decide +kernel
theorem dX8_here_11 : decode cX8_here 11 = .ok (.aload_n 0, 1) := by decide +kernel
theorem dX8_here_12 : decode cX8_here 12 = .ok (.getfield 64, 3) := by decide +kernel
theorem dX8_here_15 : decode cX8_here 15 = .ok (.aload_n 0, 1) := by decide +kernel
theorem dX8_here_16 : decode cX8_here 16 = .ok (.getfield 288, 3) := by decide +kernel
theorem dX8_here_19 : decode cX8_here 19 = .ok (.iaload, 1) := by decide +kernel
theorem dX8_here_20 : decode cX8_here 20 = .ok (.goto 4, 3) := by decide +kernel
theorem dX8_here_23 : decode cX8_here 23 = .ok (.iconst (-1), 1) := by decide +kernel
theorem dX8_here_24 : decode cX8_here 24 = .ok (.ireturn, 1) := by decide +kernel
theorem dX8_skips_0 : decode cX8_skips 0 = .ok (.aload_n 0, 1) := by decide +kernel
theorem dX8_skips_1 : decode cX8_skips 1 = .ok (.invokevirtual 291, 3) := by decide +kernel
theorem dX8_skips_4 : decode cX8_skips 4 = .ok (.iload_n 1, 1) := by decide +kernel
theorem dX8_skips_5 : decode cX8_skips 5 = .ok (.if_icmp .eq 5, 3) := by decide +kernel
theorem dX8_skips_8 : decode cX8_skips 8 = .ok (.iconst 0, 1) := by decide +kernel
theorem dX8_skips_9 : decode cX8_skips 9 = .ok (.ireturn, 1) := by decide +kernel
theorem dX8_skips_10 : decode cX8_skips 10 = .ok (.aload_n 0, 1) := by decide +kernel
theorem dX8_skips_11 : decode cX8_skips 11 = .ok (.dup, 1) := by decide +kernel
theorem dX8_skips_12 : decode cX8_skips 12 = .ok (.getfield 288, 3) := by decide +kernel
theorem dX8_skips_15 : decode cX8_skips 15 = .ok (.iconst 1, 1) := by decide +kernel
theorem dX8_skips_16 : decode cX8_skips 16 = .ok (.iadd, 1) := by decide +kernel
theorem dX8_skips_17 : decode cX8_skips 17 = .ok (.putfield 288, 3) := by decide +kernel
theorem dX8_skips_20 : decode cX8_skips 20 = .ok (.iconst 1, 1) := by decide +kernel
theorem dX8_skips_21 : decode cX8_skips 21 = .ok (.ireturn, 1) := by decide +kernel
theorem dX8_digit_0 : decode cX8_digit 0 = .ok (.aload_n 0, 1) := by decide +kernel
theorem dX8_digit_1 : decode cX8_digit 1 = .ok (.invokevirtual 291, 3) := by decide +kernel
theorem dX8_digit_4 : decode cX8_digit 4 = .ok (.bipush 48, 2) := by decide +kernel
theorem dX8_digit_6 : decode cX8_digit 6 = .ok (.iload_n 1, 1) := by decide +kernel
theorem dX8_digit_7 : decode cX8_digit 7 = .ok (.iadd, 1) := by decide +kernel
theorem dX8_digit_8 : decode cX8_digit 8 = .ok (.bipush 48, 2) := by decide +kernel
theorem dX8_digit_10 : decode cX8_digit 10 = .ok (.iload_n 2, 1) := by decide +kernel
theorem dX8_digit_11 : decode cX8_digit 11 = .ok (.iadd, 1) := by decide +kernel
theorem dX8_digit_12 : decode cX8_digit 12 = .ok (.invokestatic 79, 3) := by decide +kernel
theorem dX8_digit_15 : decode cX8_digit 15 = .ok (.ifCond .ne 5, 3) := by decide +kernel
theorem dX8_digit_18 : decode cX8_digit 18 = .ok (.iconst 0, 1) := by decide +kernel
theorem dX8_digit_19 : decode cX8_digit 19 = .ok (.ireturn, 1) := by decide +kernel
theorem dX8_digit_20 : decode cX8_digit 20 = .ok (.aload_n 0, 1) := by decide +kernel
theorem dX8_digit_21 : decode cX8_digit 21 = .ok (.aload_n 0, 1) := by decide +kernel
theorem dX8_digit_22 : decode cX8_digit 22 = .ok (.invokevirtual 291, 3) := by decide +kernel
theorem dX8_digit_25 : decode cX8_digit 25 = .ok (.bipush 48, 2) := by decide +kernel
theorem dX8_digit_27 : decode cX8_digit 27 = .ok (.isub, 1) := by decide +kernel
theorem dX8_digit_28 : decode cX8_digit 28 = .ok (.putfield 294, 3) := by decide +kernel
theorem dX8_digit_31 : decode cX8_digit 31 = .ok (.aload_n 0, 1) := by decide +kernel
theorem dX8_digit_32 : decode cX8_digit 32 = .ok (.dup, 1) := by decide +kernel
theorem dX8_digit_33 : decode cX8_digit 33 = .ok (.getfield 288, 3) := by decide +kernel
theorem dX8_digit_36 : decode cX8_digit 36 = .ok (.iconst 1, 1) := by decide +kernel
theorem dX8_digit_37 : decode cX8_digit 37 = .ok (.iadd, 1) := by decide +kernel
theorem dX8_digit_38 : decode cX8_digit 38 = .ok (.putfield 288, 3) := by decide +kernel
theorem dX8_digit_41 : decode cX8_digit 41 = .ok (.iconst 1, 1) := by decide +kernel
theorem dX8_digit_42 : decode cX8_digit 42 = .ok (.ireturn, 1) := by decide +kernel
theorem dX8_linkHere_0 : decode cX8_linkHere 0 = .ok (.aload_n 0, 1) := by decide +kernel
theorem dX8_linkHere_1 : decode cX8_linkHere 1 = .ok (.iconst 1, 1) := by decide +kernel
theorem dX8_linkHere_2 : decode cX8_linkHere 2 = .ok (.iconst 5, 1) := by decide +kernel
theorem dX8_linkHere_3 : decode cX8_linkHere 3 = .ok (.invokevirtual 297, 3) := by decide +kernel
theorem dX8_linkHere_6 : decode cX8_linkHere 6 = .ok (.ifCond .ne 5, 3) := by decide +kernel
theorem dX8_linkHere_9 : decode cX8_linkHere 9 = .ok (.iconst 0, 1) := by decide +kernel
theorem dX8_linkHere_10 : decode cX8_linkHere 10 = .ok (.ireturn, 1) := by decide +kernel
theorem dX8_linkHere_11 : decode cX8_linkHere 11 = .ok (.aload_n 0, 1) := by decide +kernel
theorem dX8_linkHere_12 : decode cX8_linkHere 12 = .ok (.getfield 70, 3) := by decide +kernel
theorem dX8_linkHere_15 : decode cX8_linkHere 15 = .ok (.iconst 3, 1) := by decide +kernel
theorem dX8_linkHere_16 : decode cX8_linkHere 16 = .ok (.aload_n 0, 1) := by decide +kernel
theorem dX8_linkHere_17 : decode cX8_linkHere 17 = .ok (.getfield 300, 3) := by decide +kernel
theorem dX8_linkHere_20 : decode cX8_linkHere 20 = .ok (.imul, 1) := by decide +kernel
theorem dX8_linkHere_21 : decode cX8_linkHere 21 = .ok (.aload_n 0, 1) := by decide +kernel
theorem dX8_linkHere_22 : decode cX8_linkHere 22 = .ok (.getfield 294, 3) := by decide +kernel
theorem dX8_linkHere_25 : decode cX8_linkHere 25 = .ok (.iastore, 1) := by decide +kernel
theorem dX8_linkHere_26 : decode cX8_linkHere 26 = .ok (.aload_n 0, 1) := by decide +kernel
theorem dX8_linkHere_27 : decode cX8_linkHere 27 = .ok (.bipush 40, 2) := by decide +kernel
theorem dX8_linkHere_29 : decode cX8_linkHere 29 = .ok (.invokevirtual 303, 3) := by decide +kernel
theorem dX8_linkHere_32 : decode cX8_linkHere 32 = .ok (.ifCond .eq 22, 3) := by decide +kernel
theorem dX8_linkHere_35 : decode cX8_linkHere 35 = .ok (.aload_n 0, 1) := by decide +kernel
theorem dX8_linkHere_36 : decode cX8_linkHere 36 = .ok (.bipush 45, 2) := by decide +kernel
theorem dX8_linkHere_38 : decode cX8_linkHere 38 = .ok (.invokevirtual 303, 3) := by decide +kernel
theorem dX8_linkHere_41 : decode cX8_linkHere 41 = .ok (.ifCond .eq 13, 3) := by decide +kernel
theorem dX8_linkHere_44 : decode cX8_linkHere 44 = .ok (.aload_n 0, 1) := by decide +kernel
theorem dX8_linkHere_45 : decode cX8_linkHere 45 = .ok (.iconst 0, 1) := by decide +kernel
theorem dX8_linkHere_46 : decode cX8_linkHere 46 = .ok (.bipush 8, 2) := by decide +kernel
theorem dX8_linkHere_48 : decode cX8_linkHere 48 = .ok (.invokevirtual 297, 3) := by decide +kernel
theorem dX8_linkHere_51 : decode cX8_linkHere 51 = .ok (.ifCond .ne 5, 3) := by decide +kernel
theorem dX8_linkHere_54 : decode cX8_linkHere 54 = .ok (.iconst 0, 1) := by decide +kernel
theorem dX8_linkHere_55 : decode cX8_linkHere 55 = .ok (.ireturn, 1) := by decide +kernel
theorem dX8_linkHere_56 : decode cX8_linkHere 56 = .ok (.aload_n 0, 1) := by decide +kernel
theorem dX8_linkHere_57 : decode cX8_linkHere 57 = .ok (.getfield 70, 3) := by decide +kernel
theorem dX8_linkHere_60 : decode cX8_linkHere 60 = .ok (.iconst 3, 1) := by decide +kernel
theorem dX8_linkHere_61 : decode cX8_linkHere 61 = .ok (.aload_n 0, 1) := by decide +kernel
theorem dX8_linkHere_62 : decode cX8_linkHere 62 = .ok (.getfield 300, 3) := by decide +kernel
theorem dX8_linkHere_65 : decode cX8_linkHere 65 = .ok (.imul, 1) := by decide +kernel
theorem dX8_linkHere_66 : decode cX8_linkHere 66 = .ok (.iconst 1, 1) := by decide +kernel
theorem dX8_linkHere_67 : decode cX8_linkHere 67 = .ok (.iadd, 1) := by decide +kernel
theorem dX8_linkHere_68 : decode cX8_linkHere 68 = .ok (.aload_n 0, 1) := by decide +kernel
theorem dX8_linkHere_69 : decode cX8_linkHere 69 = .ok (.getfield 294, 3) := by decide +kernel
theorem dX8_linkHere_72 : decode cX8_linkHere 72 = .ok (.iastore, 1) := by decide +kernel
theorem dX8_linkHere_73 : decode cX8_linkHere 73 = .ok (.aload_n 0, 1) := by decide +kernel
theorem dX8_linkHere_74 : decode cX8_linkHere 74 = .ok (.bipush 44, 2) := by decide +kernel
theorem dX8_linkHere_76 : decode cX8_linkHere 76 = .ok (.invokevirtual 303, 3) := by decide +kernel
theorem dX8_linkHere_79 : decode cX8_linkHere 79 = .ok (.ifCond .eq 13, 3) := by decide +kernel
theorem dX8_linkHere_82 : decode cX8_linkHere 82 = .ok (.aload_n 0, 1) := by decide +kernel
theorem dX8_linkHere_83 : decode cX8_linkHere 83 = .ok (.iconst 0, 1) := by decide +kernel
theorem dX8_linkHere_84 : decode cX8_linkHere 84 = .ok (.bipush 8, 2) := by decide +kernel
theorem dX8_linkHere_86 : decode cX8_linkHere 86 = .ok (.invokevirtual 297, 3) := by decide +kernel
theorem dX8_linkHere_89 : decode cX8_linkHere 89 = .ok (.ifCond .ne 5, 3) := by decide +kernel
theorem dX8_linkHere_92 : decode cX8_linkHere 92 = .ok (.iconst 0, 1) := by decide +kernel
theorem dX8_linkHere_93 : decode cX8_linkHere 93 = .ok (.ireturn, 1) := by decide +kernel
theorem dX8_linkHere_94 : decode cX8_linkHere 94 = .ok (.aload_n 0, 1) := by decide +kernel
theorem dX8_linkHere_95 : decode cX8_linkHere 95 = .ok (.getfield 70, 3) := by decide +kernel
theorem dX8_linkHere_98 : decode cX8_linkHere 98 = .ok (.iconst 3, 1) := by decide +kernel
theorem dX8_linkHere_99 : decode cX8_linkHere 99 = .ok (.aload_n 0, 1) := by decide +kernel
theorem dX8_linkHere_100 : decode cX8_linkHere 100 = .ok (.getfield 300, 3) := by decide +kernel
theorem dX8_linkHere_103 : decode cX8_linkHere 103 = .ok (.imul, 1) := by decide +kernel
theorem dX8_linkHere_104 : decode cX8_linkHere 104 = .ok (.iconst 2, 1) := by decide +kernel
theorem dX8_linkHere_105 : decode cX8_linkHere 105 = .ok (.iadd, 1) := by decide +kernel
theorem dX8_linkHere_106 : decode cX8_linkHere 106 = .ok (.aload_n 0, 1) := by decide +kernel
theorem dX8_linkHere_107 : decode cX8_linkHere 107 = .ok (.getfield 294, 3) := by decide +kernel
theorem dX8_linkHere_110 : decode cX8_linkHere 110 = .ok (.iastore, 1) := by decide +kernel
theorem dX8_linkHere_111 : decode cX8_linkHere 111 = .ok (.aload_n 0, 1) := by decide +kernel
theorem dX8_linkHere_112 : decode cX8_linkHere 112 = .ok (.bipush 41, 2) := by decide +kernel
theorem dX8_linkHere_114 : decode cX8_linkHere 114 = .ok (.invokevirtual 303, 3) := by decide +kernel
theorem dX8_linkHere_117 : decode cX8_linkHere 117 = .ok (.ireturn, 1) := by decide +kernel
theorem dX8_coordinate_0 : decode cX8_coordinate 0 = .ok (.aload_n 0, 1) := by decide +kernel
theorem dX8_coordinate_1 : decode cX8_coordinate 1 = .ok (.bipush 45, 2) := by decide +kernel
theorem dX8_coordinate_3 : decode cX8_coordinate 3 = .ok (.invokevirtual 303, 3) := by decide +kernel
theorem dX8_coordinate_6 : decode cX8_coordinate 6 = .ok (.istore_n 1, 1) := by decide +kernel
theorem dX8_coordinate_7 : decode cX8_coordinate 7 = .ok (.aload_n 0, 1) := by decide +kernel
theorem dX8_coordinate_8 : decode cX8_coordinate 8 = .ok (.iconst 0, 1) := by decide +kernel
theorem dX8_coordinate_9 : decode cX8_coordinate 9 = .ok (.bipush 9, 2) := by decide +kernel
theorem dX8_coordinate_11 : decode cX8_coordinate 11 = .ok (.invokevirtual 297, 3) := by decide +kernel
theorem dX8_coordinate_14 : decode cX8_coordinate 14 = .ok (.ifCond .ne 5, 3) := by decide +kernel
theorem dX8_coordinate_17 : decode cX8_coordinate 17 = .ok (.iconst 0, 1) := by decide +kernel
theorem dX8_coordinate_18 : decode cX8_coordinate 18 = .ok (.ireturn, 1) := by decide +kernel
theorem dX8_coordinate_19 : decode cX8_coordinate 19 = .ok (.aload_n 0, 1) := by decide +kernel
theorem dX8_coordinate_20 : decode cX8_coordinate 20 = .ok (.getfield 294, 3) := by decide +kernel
theorem dX8_coordinate_23 : decode cX8_coordinate 23 = .ok (.iconst 1, 1) := by decide +kernel
theorem dX8_coordinate_24 : decode cX8_coordinate 24 = .ok (.if_icmp .ne 18, 3) := by decide +kernel
theorem dX8_coordinate_27 : decode cX8_coordinate 27 = .ok (.aload_n 0, 1) := by decide +kernel
theorem dX8_coordinate_28 : decode cX8_coordinate 28 = .ok (.bipush 48, 2) := by decide +kernel
theorem dX8_coordinate_30 : decode cX8_coordinate 30 = .ok (.invokevirtual 303, 3) := by decide +kernel
theorem dX8_coordinate_33 : decode cX8_coordinate 33 = .ok (.ifCond .eq 9, 3) := by decide +kernel
theorem dX8_coordinate_36 : decode cX8_coordinate 36 = .ok (.aload_n 0, 1) := by decide +kernel
theorem dX8_coordinate_37 : decode cX8_coordinate 37 = .ok (.bipush 10, 2) := by decide +kernel
theorem dX8_coordinate_39 : decode cX8_coordinate 39 = .ok (.putfield 294, 3) := by decide +kernel
theorem dX8_coordinate_42 : decode cX8_coordinate 42 = .ok (.aload_n 0, 1) := by decide +kernel
theorem dX8_coordinate_43 : decode cX8_coordinate 43 = .ok (.iload_n 1, 1) := by decide +kernel
theorem dX8_coordinate_44 : decode cX8_coordinate 44 = .ok (.ifCond .eq 11, 3) := by decide +kernel
theorem dX8_coordinate_47 : decode cX8_coordinate 47 = .ok (.aload_n 0, 1) := by decide +kernel
theorem dX8_coordinate_48 : decode cX8_coordinate 48 = .ok (.getfield 294, 3) := by decide +kernel
theorem dX8_coordinate_51 : decode cX8_coordinate 51 = .ok (.ineg, 1) := by decide +kernel
theorem dX8_coordinate_52 : decode cX8_coordinate 52 = .ok (.goto 7, 3) := by decide +kernel
theorem dX8_coordinate_55 : decode cX8_coordinate 55 = .ok (.aload_n 0, 1) := by decide +kernel
theorem dX8_coordinate_56 : decode cX8_coordinate 56 = .ok (.getfield 294, 3) := by decide +kernel
theorem dX8_coordinate_59 : decode cX8_coordinate 59 = .ok (.putfield 294, 3) := by decide +kernel
theorem dX8_coordinate_62 : decode cX8_coordinate 62 = .ok (.iconst 1, 1) := by decide +kernel
theorem dX8_coordinate_63 : decode cX8_coordinate 63 = .ok (.ireturn, 1) := by decide +kernel
theorem dX8_stoneHere_0 : decode cX8_stoneHere 0 = .ok (.aload_n 0, 1) := by decide +kernel
theorem dX8_stoneHere_1 : decode cX8_stoneHere 1 = .ok (.getfield 70, 3) := by decide +kernel
theorem dX8_stoneHere_4 : decode cX8_stoneHere 4 = .ok (.iconst 3, 1) := by decide +kernel
theorem dX8_stoneHere_5 : decode cX8_stoneHere 5 = .ok (.aload_n 0, 1) := by decide +kernel
theorem dX8_stoneHere_6 : decode cX8_stoneHere 6 = .ok (.getfield 300, 3) := by decide +kernel
theorem dX8_stoneHere_9 : decode cX8_stoneHere 9 = .ok (.imul, 1) := by decide +kernel
theorem dX8_stoneHere_10 : decode cX8_stoneHere 10 = .ok (.iconst 0, 1) := by decide +kernel
theorem dX8_stoneHere_11 : decode cX8_stoneHere 11 = .ok (.iastore, 1) := by decide +kernel
theorem dX8_stoneHere_12 : decode cX8_stoneHere 12 = .ok (.aload_n 0, 1) := by decide +kernel
theorem dX8_stoneHere_13 : decode cX8_stoneHere 13 = .ok (.invokevirtual 306, 3) := by decide +kernel
theorem dX8_stoneHere_16 : decode cX8_stoneHere 16 = .ok (.ifCond .ne 5, 3) := by decide +kernel
theorem dX8_stoneHere_19 : decode cX8_stoneHere 19 = .ok (.iconst 0, 1) := by decide +kernel
theorem dX8_stoneHere_20 : decode cX8_stoneHere 20 = .ok (.ireturn, 1) := by decide +kernel
theorem dX8_stoneHere_21 : decode cX8_stoneHere 21 = .ok (.aload_n 0, 1) := by decide +kernel
theorem dX8_stoneHere_22 : decode cX8_stoneHere 22 = .ok (.getfield 70, 3) := by decide +kernel
theorem dX8_stoneHere_25 : decode cX8_stoneHere 25 = .ok (.iconst 3, 1) := by decide +kernel
theorem dX8_stoneHere_26 : decode cX8_stoneHere 26 = .ok (.aload_n 0, 1) := by decide +kernel
theorem dX8_stoneHere_27 : decode cX8_stoneHere 27 = .ok (.getfield 300, 3) := by decide +kernel
theorem dX8_stoneHere_30 : decode cX8_stoneHere 30 = .ok (.imul, 1) := by decide +kernel
theorem dX8_stoneHere_31 : decode cX8_stoneHere 31 = .ok (.iconst 1, 1) := by decide +kernel
theorem dX8_stoneHere_32 : decode cX8_stoneHere 32 = .ok (.iadd, 1) := by decide +kernel
theorem dX8_stoneHere_33 : decode cX8_stoneHere 33 = .ok (.aload_n 0, 1) := by decide +kernel
theorem dX8_stoneHere_34 : decode cX8_stoneHere 34 = .ok (.getfield 294, 3) := by decide +kernel
theorem dX8_stoneHere_37 : decode cX8_stoneHere 37 = .ok (.iastore, 1) := by decide +kernel
theorem dX8_stoneHere_38 : decode cX8_stoneHere 38 = .ok (.aload_n 0, 1) := by decide +kernel
theorem dX8_stoneHere_39 : decode cX8_stoneHere 39 = .ok (.bipush 44, 2) := by decide +kernel
theorem dX8_stoneHere_41 : decode cX8_stoneHere 41 = .ok (.invokevirtual 303, 3) := by decide +kernel
theorem dX8_stoneHere_44 : decode cX8_stoneHere 44 = .ok (.ifCond .eq 10, 3) := by decide +kernel
theorem dX8_stoneHere_47 : decode cX8_stoneHere 47 = .ok (.aload_n 0, 1) := by decide +kernel
theorem dX8_stoneHere_48 : decode cX8_stoneHere 48 = .ok (.invokevirtual 306, 3) := by decide +kernel
theorem dX8_stoneHere_51 : decode cX8_stoneHere 51 = .ok (.ifCond .ne 5, 3) := by decide +kernel
theorem dX8_stoneHere_54 : decode cX8_stoneHere 54 = .ok (.iconst 0, 1) := by decide +kernel
theorem dX8_stoneHere_55 : decode cX8_stoneHere 55 = .ok (.ireturn, 1) := by decide +kernel
theorem dX8_stoneHere_56 : decode cX8_stoneHere 56 = .ok (.aload_n 0, 1) := by decide +kernel
theorem dX8_stoneHere_57 : decode cX8_stoneHere 57 = .ok (.getfield 70, 3) := by decide +kernel
theorem dX8_stoneHere_60 : decode cX8_stoneHere 60 = .ok (.iconst 3, 1) := by decide +kernel
theorem dX8_stoneHere_61 : decode cX8_stoneHere 61 = .ok (.aload_n 0, 1) := by decide +kernel
theorem dX8_stoneHere_62 : decode cX8_stoneHere 62 = .ok (.getfield 300, 3) := by decide +kernel
theorem dX8_stoneHere_65 : decode cX8_stoneHere 65 = .ok (.imul, 1) := by decide +kernel
theorem dX8_stoneHere_66 : decode cX8_stoneHere 66 = .ok (.iconst 2, 1) := by decide +kernel
theorem dX8_stoneHere_67 : decode cX8_stoneHere 67 = .ok (.iadd, 1) := by decide +kernel
theorem dX8_stoneHere_68 : decode cX8_stoneHere 68 = .ok (.aload_n 0, 1) := by decide +kernel
theorem dX8_stoneHere_69 : decode cX8_stoneHere 69 = .ok (.getfield 294, 3) := by decide +kernel
theorem dX8_stoneHere_72 : decode cX8_stoneHere 72 = .ok (.iastore, 1) := by decide +kernel
theorem dX8_stoneHere_73 : decode cX8_stoneHere 73 = .ok (.iconst 1, 1) := by decide +kernel
theorem dX8_stoneHere_74 : decode cX8_stoneHere 74 = .ok (.ireturn, 1) := by decide +kernel
theorem dX8_isText_0 : decode cX8_isText 0 = .ok (.aload_n 0, 1) := by decide +kernel
theorem dX8_isText_1 : decode cX8_isText 1 = .ok (.iconst 0, 1) := by decide +kernel
theorem dX8_isText_2 : decode cX8_isText 2 = .ok (.putfield 288, 3) := by decide +kernel
theorem dX8_isText_5 : decode cX8_isText 5 = .ok (.aload_n 0, 1) := by decide +kernel
theorem dX8_isText_6 : decode cX8_isText 6 = .ok (.iconst 0, 1) := by decide +kernel
theorem dX8_isText_7 : decode cX8_isText 7 = .ok (.putfield 300, 3) := by decide +kernel
theorem dX8_isText_10 : decode cX8_isText 10 = .ok (.aload_n 0, 1) := by decide +kernel
theorem dX8_isText_11 : decode cX8_isText 11 = .ok (.bipush 76, 2) := by decide +kernel
theorem dX8_isText_13 : decode cX8_isText 13 = .ok (.invokevirtual 303, 3) := by decide +kernel
theorem dX8_isText_16 : decode cX8_isText 16 = .ok (.ifCond .eq 13, 3) := by decide +kernel
theorem dX8_isText_19 : decode cX8_isText 19 = .ok (.aload_n 0, 1) := by decide +kernel
theorem dX8_isText_20 : decode cX8_isText 20 = .ok (.invokevirtual 309, 3) := by decide +kernel
theorem dX8_isText_23 : decode cX8_isText 23 = .ok (.ifCond .ne 24, 3) := by decide +kernel
theorem dX8_isText_26 : decode cX8_isText 26 = .ok (.goto 19, 3) := by decide +kernel
theorem dX8_isText_29 : decode cX8_isText 29 = .ok (.aload_n 0, 1) := by decide +kernel
theorem dX8_isText_30 : decode cX8_isText 30 = .ok (.bipush 79, 2) := by decide +kernel
theorem dX8_isText_32 : decode cX8_isText 32 = .ok (.invokevirtual 303, 3) := by decide +kernel
theorem dX8_isText_35 : decode cX8_isText 35 = .ok (.ifCond .eq 10, 3) := by decide +kernel
theorem dX8_isText_38 : decode cX8_isText 38 = .ok (.aload_n 0, 1) := by decide +kernel
theorem dX8_isText_39 : decode cX8_isText 39 = .ok (.invokevirtual 312, 3) := by decide +kernel
theorem dX8_isText_42 : decode cX8_isText 42 = .ok (.ifCond .ne 5, 3) := by decide +kernel
theorem dX8_isText_45 : decode cX8_isText 45 = .ok (.iconst 0, 1) := by decide +kernel
theorem dX8_isText_46 : decode cX8_isText 46 = .ok (.ireturn, 1) := by decide +kernel
theorem dX8_isText_47 : decode cX8_isText 47 = .ok (.aload_n 0, 1) := by decide +kernel
theorem dX8_isText_48 : decode cX8_isText 48 = .ok (.bipush 59, 2) := by decide +kernel
theorem dX8_isText_50 : decode cX8_isText 50 = .ok (.invokevirtual 303, 3) := by decide +kernel
theorem dX8_isText_53 : decode cX8_isText 53 = .ok (.ifCond .ne 5, 3) := by decide +kernel
theorem dX8_isText_56 : decode cX8_isText 56 = .ok (.iconst 0, 1) := by decide +kernel
theorem dX8_isText_57 : decode cX8_isText 57 = .ok (.ireturn, 1) := by decide +kernel
theorem dX8_isText_58 : decode cX8_isText 58 = .ok (.aload_n 0, 1) := by decide +kernel
theorem dX8_isText_59 : decode cX8_isText 59 = .ok (.dup, 1) := by decide +kernel
theorem dX8_isText_60 : decode cX8_isText 60 = .ok (.getfield 300, 3) := by decide +kernel
theorem dX8_isText_63 : decode cX8_isText 63 = .ok (.iconst 1, 1) := by decide +kernel
theorem dX8_isText_64 : decode cX8_isText 64 = .ok (.iadd, 1) := by decide +kernel
theorem dX8_isText_65 : decode cX8_isText 65 = .ok (.putfield 300, 3) := by decide +kernel
theorem dX8_isText_68 : decode cX8_isText 68 = .ok (.aload_n 0, 1) := by decide +kernel
theorem dX8_isText_69 : decode cX8_isText 69 = .ok (.getfield 288, 3) := by decide +kernel
theorem dX8_isText_72 : decode cX8_isText 72 = .ok (.aload_n 0, 1) := by decide +kernel
theorem dX8_isText_73 : decode cX8_isText 73 = .ok (.getfield 285, 3) := by decide +kernel
theorem dX8_isText_76 : decode cX8_isText 76 = .ok (.if_icmp .lt (-66), 3) := by decide +kernel
theorem dX8_isText_79 : decode cX8_isText 79 = .ok (.iconst 1, 1) := by decide +kernel
theorem dX8_isText_80 : decode cX8_isText 80 = .ok (.ireturn, 1) := by decide +kernel
theorem dX8_addsAll_0 : decode cX8_addsAll 0 = .ok (.iconst 0, 1) := by decide +kernel
theorem dX8_addsAll_1 : decode cX8_addsAll 1 = .ok (.istore_n 1, 1) := by decide +kernel
theorem dX8_addsAll_2 : decode cX8_addsAll 2 = .ok (.iload_n 1, 1) := by decide +kernel
theorem dX8_addsAll_3 : decode cX8_addsAll 3 = .ok (.sipush 141, 3) := by decide +kernel
theorem dX8_addsAll_6 : decode cX8_addsAll 6 = .ok (.if_icmp .ge 21, 3) := by decide +kernel
theorem dX8_addsAll_9 : decode cX8_addsAll 9 = .ok (.aload_n 0, 1) := by decide +kernel
theorem dX8_addsAll_10 : decode cX8_addsAll 10 = .ok (.getfield 73, 3) := by decide +kernel
theorem dX8_addsAll_13 : decode cX8_addsAll 13 = .ok (.iload_n 1, 1) := by decide +kernel
theorem dX8_addsAll_14 : decode cX8_addsAll 14 = .ok (.aload_n 0, 1) := by decide +kernel
theorem dX8_addsAll_15 : decode cX8_addsAll 15 = .ok (.getfield 7, 3) := by decide +kernel
theorem dX8_addsAll_18 : decode cX8_addsAll 18 = .ok (.iload_n 1, 1) := by decide +kernel
theorem dX8_addsAll_19 : decode cX8_addsAll 19 = .ok (.iaload, 1) := by decide +kernel
theorem dX8_addsAll_20 : decode cX8_addsAll 20 = .ok (.iastore, 1) := by decide +kernel
theorem dX8_addsAll_21 : decode cX8_addsAll 21 = .ok (.iinc 1 1, 3) := by decide +kernel
theorem dX8_addsAll_24 : decode cX8_addsAll 24 = .ok (.goto (-22), 3) := by decide +kernel
theorem dX8_addsAll_27 : decode cX8_addsAll 27 = .ok (.iconst 1, 1) := by decide +kernel
theorem dX8_addsAll_28 : decode cX8_addsAll 28 = .ok (.istore_n 1, 1) := by decide +kernel
theorem dX8_addsAll_29 : decode cX8_addsAll 29 = .ok (.iconst 0, 1) := by decide +kernel
theorem dX8_addsAll_30 : decode cX8_addsAll 30 = .ok (.istore_n 2, 1) := by decide +kernel
theorem dX8_addsAll_31 : decode cX8_addsAll 31 = .ok (.iload_n 2, 1) := by decide +kernel
theorem dX8_addsAll_32 : decode cX8_addsAll 32 = .ok (.aload_n 0, 1) := by decide +kernel
theorem dX8_addsAll_33 : decode cX8_addsAll 33 = .ok (.getfield 300, 3) := by decide +kernel
theorem dX8_addsAll_36 : decode cX8_addsAll 36 = .ok (.if_icmp .ge 151, 3) := by decide +kernel
theorem dX8_addsAll_39 : decode cX8_addsAll 39 = .ok (.iload_n 1, 1) := by decide +kernel
theorem dX8_addsAll_40 : decode cX8_addsAll 40 = .ok (.ifCond .eq 147, 3) := by decide +kernel
theorem dX8_addsAll_43 : decode cX8_addsAll 43 = .ok (.aload_n 0, 1) := by decide +kernel
theorem dX8_addsAll_44 : decode cX8_addsAll 44 = .ok (.getfield 70, 3) := by decide +kernel
theorem dX8_addsAll_47 : decode cX8_addsAll 47 = .ok (.iconst 3, 1) := by decide +kernel
theorem dX8_addsAll_48 : decode cX8_addsAll 48 = .ok (.iload_n 2, 1) := by decide +kernel
theorem dX8_addsAll_49 : decode cX8_addsAll 49 = .ok (.imul, 1) := by decide +kernel
theorem dX8_addsAll_50 : decode cX8_addsAll 50 = .ok (.iaload, 1) := by decide +kernel
theorem dX8_addsAll_51 : decode cX8_addsAll 51 = .ok (.istore_n 3, 1) := by decide +kernel
theorem dX8_addsAll_52 : decode cX8_addsAll 52 = .ok (.iload_n 3, 1) := by decide +kernel
theorem dX8_addsAll_53 : decode cX8_addsAll 53 = .ok (.ifCond .le 31, 3) := by decide +kernel
theorem dX8_addsAll_56 : decode cX8_addsAll 56 = .ok (.aload_n 0, 1) := by decide +kernel
theorem dX8_addsAll_57 : decode cX8_addsAll 57 = .ok (.iload_n 3, 1) := by decide +kernel
theorem dX8_addsAll_58 : decode cX8_addsAll 58 = .ok (.aload_n 0, 1) := by decide +kernel
theorem dX8_addsAll_59 : decode cX8_addsAll 59 = .ok (.getfield 70, 3) := by decide +kernel
theorem dX8_addsAll_62 : decode cX8_addsAll 62 = .ok (.iconst 3, 1) := by decide +kernel
theorem dX8_addsAll_63 : decode cX8_addsAll 63 = .ok (.iload_n 2, 1) := by decide +kernel
theorem dX8_addsAll_64 : decode cX8_addsAll 64 = .ok (.imul, 1) := by decide +kernel
theorem dX8_addsAll_65 : decode cX8_addsAll 65 = .ok (.iconst 1, 1) := by decide +kernel
theorem dX8_addsAll_66 : decode cX8_addsAll 66 = .ok (.iadd, 1) := by decide +kernel
theorem dX8_addsAll_67 : decode cX8_addsAll 67 = .ok (.iaload, 1) := by decide +kernel
theorem dX8_addsAll_68 : decode cX8_addsAll 68 = .ok (.aload_n 0, 1) := by decide +kernel
theorem dX8_addsAll_69 : decode cX8_addsAll 69 = .ok (.getfield 70, 3) := by decide +kernel
theorem dX8_addsAll_72 : decode cX8_addsAll 72 = .ok (.iconst 3, 1) := by decide +kernel
theorem dX8_addsAll_73 : decode cX8_addsAll 73 = .ok (.iload_n 2, 1) := by decide +kernel
theorem dX8_addsAll_74 : decode cX8_addsAll 74 = .ok (.imul, 1) := by decide +kernel
theorem dX8_addsAll_75 : decode cX8_addsAll 75 = .ok (.iconst 2, 1) := by decide +kernel
theorem dX8_addsAll_76 : decode cX8_addsAll 76 = .ok (.iadd, 1) := by decide +kernel
theorem dX8_addsAll_77 : decode cX8_addsAll 77 = .ok (.iaload, 1) := by decide +kernel
theorem dX8_addsAll_78 : decode cX8_addsAll 78 = .ok (.invokevirtual 94, 3) := by decide +kernel
theorem dX8_addsAll_81 : decode cX8_addsAll 81 = .ok (.goto 27, 3) := by decide +kernel
theorem dX8_addsAll_84 : decode cX8_addsAll 84 = .ok (.aload_n 0, 1) := by decide +kernel
theorem dX8_addsAll_85 : decode cX8_addsAll 85 = .ok (.aload_n 0, 1) := by decide +kernel
theorem dX8_addsAll_86 : decode cX8_addsAll 86 = .ok (.getfield 70, 3) := by decide +kernel
theorem dX8_addsAll_89 : decode cX8_addsAll 89 = .ok (.iconst 3, 1) := by decide +kernel
theorem dX8_addsAll_90 : decode cX8_addsAll 90 = .ok (.iload_n 2, 1) := by decide +kernel
theorem dX8_addsAll_91 : decode cX8_addsAll 91 = .ok (.imul, 1) := by decide +kernel
theorem dX8_addsAll_92 : decode cX8_addsAll 92 = .ok (.iconst 1, 1) := by decide +kernel
theorem dX8_addsAll_93 : decode cX8_addsAll 93 = .ok (.iadd, 1) := by decide +kernel
theorem dX8_addsAll_94 : decode cX8_addsAll 94 = .ok (.iaload, 1) := by decide +kernel
theorem dX8_addsAll_95 : decode cX8_addsAll 95 = .ok (.aload_n 0, 1) := by decide +kernel
theorem dX8_addsAll_96 : decode cX8_addsAll 96 = .ok (.getfield 70, 3) := by decide +kernel
theorem dX8_addsAll_99 : decode cX8_addsAll 99 = .ok (.iconst 3, 1) := by decide +kernel
theorem dX8_addsAll_100 : decode cX8_addsAll 100 = .ok (.iload_n 2, 1) := by decide +kernel
theorem dX8_addsAll_101 : decode cX8_addsAll 101 = .ok (.imul, 1) := by decide +kernel
theorem dX8_addsAll_102 : decode cX8_addsAll 102 = .ok (.iconst 2, 1) := by decide +kernel
theorem dX8_addsAll_103 : decode cX8_addsAll 103 = .ok (.iadd, 1) := by decide +kernel
theorem dX8_addsAll_104 : decode cX8_addsAll 104 = .ok (.iaload, 1) := by decide +kernel
theorem dX8_addsAll_105 : decode cX8_addsAll 105 = .ok (.invokevirtual 117, 3) := by decide +kernel
theorem dX8_addsAll_108 : decode cX8_addsAll 108 = .ok (.ifCond .ne 7, 3) := by decide +kernel
theorem dX8_addsAll_111 : decode cX8_addsAll 111 = .ok (.iconst 1, 1) := by decide +kernel
theorem dX8_addsAll_112 : decode cX8_addsAll 112 = .ok (.goto 4, 3) := by decide +kernel
theorem dX8_addsAll_115 : decode cX8_addsAll 115 = .ok (.iconst 0, 1) := by decide +kernel
theorem dX8_addsAll_116 : decode cX8_addsAll 116 = .ok (.istore_n 1, 1) := by decide +kernel
theorem dX8_addsAll_117 : decode cX8_addsAll 117 = .ok (.iload_n 1, 1) := by decide +kernel
theorem dX8_addsAll_118 : decode cX8_addsAll 118 = .ok (.ifCond .eq 35, 3) := by decide +kernel
theorem dX8_addsAll_121 : decode cX8_addsAll 121 = .ok (.iload_n 3, 1) := by decide +kernel
theorem dX8_addsAll_122 : decode cX8_addsAll 122 = .ok (.ifCond .le 31, 3) := by decide +kernel
theorem dX8_addsAll_125 : decode cX8_addsAll 125 = .ok (.aload_n 0, 1) := by decide +kernel
theorem dX8_addsAll_126 : decode cX8_addsAll 126 = .ok (.iload_n 3, 1) := by decide +kernel
theorem dX8_addsAll_127 : decode cX8_addsAll 127 = .ok (.aload_n 0, 1) := by decide +kernel
theorem dX8_addsAll_128 : decode cX8_addsAll 128 = .ok (.getfield 70, 3) := by decide +kernel
theorem dX8_addsAll_131 : decode cX8_addsAll 131 = .ok (.iconst 3, 1) := by decide +kernel
theorem dX8_addsAll_132 : decode cX8_addsAll 132 = .ok (.iload_n 2, 1) := by decide +kernel
theorem dX8_addsAll_133 : decode cX8_addsAll 133 = .ok (.imul, 1) := by decide +kernel
theorem dX8_addsAll_134 : decode cX8_addsAll 134 = .ok (.iconst 1, 1) := by decide +kernel
theorem dX8_addsAll_135 : decode cX8_addsAll 135 = .ok (.iadd, 1) := by decide +kernel
theorem dX8_addsAll_136 : decode cX8_addsAll 136 = .ok (.iaload, 1) := by decide +kernel
theorem dX8_addsAll_137 : decode cX8_addsAll 137 = .ok (.aload_n 0, 1) := by decide +kernel
theorem dX8_addsAll_138 : decode cX8_addsAll 138 = .ok (.getfield 70, 3) := by decide +kernel
theorem dX8_addsAll_141 : decode cX8_addsAll 141 = .ok (.iconst 3, 1) := by decide +kernel
theorem dX8_addsAll_142 : decode cX8_addsAll 142 = .ok (.iload_n 2, 1) := by decide +kernel
theorem dX8_addsAll_143 : decode cX8_addsAll 143 = .ok (.imul, 1) := by decide +kernel
theorem dX8_addsAll_144 : decode cX8_addsAll 144 = .ok (.iconst 2, 1) := by decide +kernel
theorem dX8_addsAll_145 : decode cX8_addsAll 145 = .ok (.iadd, 1) := by decide +kernel
theorem dX8_addsAll_146 : decode cX8_addsAll 146 = .ok (.iaload, 1) := by decide +kernel
theorem dX8_addsAll_147 : decode cX8_addsAll 147 = .ok (.invokevirtual 101, 3) := by decide +kernel
theorem dX8_addsAll_150 : decode cX8_addsAll 150 = .ok (.goto 31, 3) := by decide +kernel
theorem dX8_addsAll_153 : decode cX8_addsAll 153 = .ok (.iload_n 1, 1) := by decide +kernel
theorem dX8_addsAll_154 : decode cX8_addsAll 154 = .ok (.ifCond .eq 27, 3) := by decide +kernel
theorem dX8_addsAll_157 : decode cX8_addsAll 157 = .ok (.aload_n 0, 1) := by decide +kernel
theorem dX8_addsAll_158 : decode cX8_addsAll 158 = .ok (.aload_n 0, 1) := by decide +kernel
theorem dX8_addsAll_159 : decode cX8_addsAll 159 = .ok (.getfield 70, 3) := by decide +kernel
theorem dX8_addsAll_162 : decode cX8_addsAll 162 = .ok (.iconst 3, 1) := by decide +kernel
theorem dX8_addsAll_163 : decode cX8_addsAll 163 = .ok (.iload_n 2, 1) := by decide +kernel
theorem dX8_addsAll_164 : decode cX8_addsAll 164 = .ok (.imul, 1) := by decide +kernel
theorem dX8_addsAll_165 : decode cX8_addsAll 165 = .ok (.iconst 1, 1) := by decide +kernel
theorem dX8_addsAll_166 : decode cX8_addsAll 166 = .ok (.iadd, 1) := by decide +kernel
theorem dX8_addsAll_167 : decode cX8_addsAll 167 = .ok (.iaload, 1) := by decide +kernel
theorem dX8_addsAll_168 : decode cX8_addsAll 168 = .ok (.aload_n 0, 1) := by decide +kernel
theorem dX8_addsAll_169 : decode cX8_addsAll 169 = .ok (.getfield 70, 3) := by decide +kernel
theorem dX8_addsAll_172 : decode cX8_addsAll 172 = .ok (.iconst 3, 1) := by decide +kernel
theorem dX8_addsAll_173 : decode cX8_addsAll 173 = .ok (.iload_n 2, 1) := by decide +kernel
theorem dX8_addsAll_174 : decode cX8_addsAll 174 = .ok (.imul, 1) := by decide +kernel
theorem dX8_addsAll_175 : decode cX8_addsAll 175 = .ok (.iconst 2, 1) := by decide +kernel
theorem dX8_addsAll_176 : decode cX8_addsAll 176 = .ok (.iadd, 1) := by decide +kernel
theorem dX8_addsAll_177 : decode cX8_addsAll 177 = .ok (.iaload, 1) := by decide +kernel
theorem dX8_addsAll_178 : decode cX8_addsAll 178 = .ok (.invokevirtual 120, 3) := by decide +kernel
theorem dX8_addsAll_181 : decode cX8_addsAll 181 = .ok (.iinc 2 1, 3) := by decide +kernel
theorem dX8_addsAll_184 : decode cX8_addsAll 184 = .ok (.goto (-153), 3) := by decide +kernel
theorem dX8_addsAll_187 : decode cX8_addsAll 187 = .ok (.iconst 0, 1) := by decide +kernel
theorem dX8_addsAll_188 : decode cX8_addsAll 188 = .ok (.istore_n 2, 1) := by decide +kernel
theorem dX8_addsAll_189 : decode cX8_addsAll 189 = .ok (.iload_n 2, 1) := by decide +kernel
theorem dX8_addsAll_190 : decode cX8_addsAll 190 = .ok (.sipush 141, 3) := by decide +kernel
theorem dX8_addsAll_193 : decode cX8_addsAll 193 = .ok (.if_icmp .ge 35, 3) := by decide +kernel
theorem dX8_addsAll_196 : decode cX8_addsAll 196 = .ok (.aload_n 0, 1) := by decide +kernel
theorem dX8_addsAll_197 : decode cX8_addsAll 197 = .ok (.getfield 7, 3) := by decide +kernel
theorem dX8_addsAll_200 : decode cX8_addsAll 200 = .ok (.iload_n 2, 1) := by decide +kernel
theorem dX8_addsAll_201 : decode cX8_addsAll 201 = .ok (.iaload, 1) := by decide +kernel
theorem dX8_addsAll_202 : decode cX8_addsAll 202 = .ok (.istore_n 3, 1) := by decide +kernel
theorem dX8_addsAll_203 : decode cX8_addsAll 203 = .ok (.aload_n 0, 1) := by decide +kernel
theorem dX8_addsAll_204 : decode cX8_addsAll 204 = .ok (.getfield 7, 3) := by decide +kernel
theorem dX8_addsAll_207 : decode cX8_addsAll 207 = .ok (.iload_n 2, 1) := by decide +kernel
theorem dX8_addsAll_208 : decode cX8_addsAll 208 = .ok (.aload_n 0, 1) := by decide +kernel
theorem dX8_addsAll_209 : decode cX8_addsAll 209 = .ok (.getfield 73, 3) := by decide +kernel
theorem dX8_addsAll_212 : decode cX8_addsAll 212 = .ok (.iload_n 2, 1) := by decide +kernel
theorem dX8_addsAll_213 : decode cX8_addsAll 213 = .ok (.iaload, 1) := by decide +kernel
theorem dX8_addsAll_214 : decode cX8_addsAll 214 = .ok (.iastore, 1) := by decide +kernel
theorem dX8_addsAll_215 : decode cX8_addsAll 215 = .ok (.aload_n 0, 1) := by decide +kernel
theorem dX8_addsAll_216 : decode cX8_addsAll 216 = .ok (.getfield 73, 3) := by decide +kernel
theorem dX8_addsAll_219 : decode cX8_addsAll 219 = .ok (.iload_n 2, 1) := by decide +kernel
theorem dX8_addsAll_220 : decode cX8_addsAll 220 = .ok (.iload_n 3, 1) := by decide +kernel
theorem dX8_addsAll_221 : decode cX8_addsAll 221 = .ok (.iastore, 1) := by decide +kernel
theorem dX8_addsAll_222 : decode cX8_addsAll 222 = .ok (.iinc 2 1, 3) := by decide +kernel
theorem dX8_addsAll_225 : decode cX8_addsAll 225 = .ok (.goto (-36), 3) := by decide +kernel
theorem dX8_addsAll_228 : decode cX8_addsAll 228 = .ok (.iload_n 1, 1) := by decide +kernel
theorem dX8_addsAll_229 : decode cX8_addsAll 229 = .ok (.ireturn, 1) := by decide +kernel
theorem dX8_read_0 : decode cX8_read 0 = .ok (.aload_n 0, 1) := by decide +kernel
theorem dX8_read_1 : decode cX8_read 1 = .ok (.iconst 0, 1) := by decide +kernel
theorem dX8_read_2 : decode cX8_read 2 = .ok (.putfield 76, 3) := by decide +kernel
theorem dX8_read_5 : decode cX8_read 5 = .ok (.aload_n 0, 1) := by decide +kernel
theorem dX8_read_6 : decode cX8_read 6 = .ok (.invokevirtual 315, 3) := by decide +kernel
theorem dX8_read_9 : decode cX8_read 9 = .ok (.istore_n 1, 1) := by decide +kernel
theorem dX8_read_10 : decode cX8_read 10 = .ok (.aload_n 0, 1) := by decide +kernel
theorem dX8_read_11 : decode cX8_read 11 = .ok (.iconst 0, 1) := by decide +kernel
theorem dX8_read_12 : decode cX8_read 12 = .ok (.putfield 285, 3) := by decide +kernel
theorem dX8_read_15 : decode cX8_read 15 = .ok (.iload_n 1, 1) := by decide +kernel
theorem dX8_read_16 : decode cX8_read 16 = .ok (.ifCond .ne 17, 3) := by decide +kernel
theorem dX8_read_19 : decode cX8_read 19 = .ok (.aload_n 0, 1) := by decide +kernel
theorem dX8_read_20 : decode cX8_read 20 = .ok (.aload_n 0, 1) := by decide +kernel
theorem dX8_read_21 : decode cX8_read 21 = .ok (.getfield 288, 3) := by decide +kernel
theorem dX8_read_24 : decode cX8_read 24 = .ok (.putfield 67, 3) := by decide +kernel
theorem dX8_read_27 : decode cX8_read 27 = .ok (.aload_n 0, 1) := by decide +kernel
theorem dX8_read_28 : decode cX8_read 28 = .ok (.iconst 1, 1) := by decide +kernel
theorem dX8_read_29 : decode cX8_read 29 = .ok (.invokevirtual 86, 3) := by decide +kernel
theorem dX8_read_32 : decode cX8_read 32 = .ok (.ireturn, 1) := by decide +kernel
theorem dX8_read_33 : decode cX8_read 33 = .ok (.aload_n 0, 1) := by decide +kernel
theorem dX8_read_34 : decode cX8_read 34 = .ok (.invokevirtual 318, 3) := by decide +kernel
theorem dX8_read_37 : decode cX8_read 37 = .ok (.ifCond .ne 9, 3) := by decide +kernel
theorem dX8_read_40 : decode cX8_read 40 = .ok (.aload_n 0, 1) := by decide +kernel
theorem dX8_read_41 : decode cX8_read 41 = .ok (.iconst 2, 1) := by decide +kernel
theorem dX8_read_42 : decode cX8_read 42 = .ok (.invokevirtual 86, 3) := by decide +kernel
theorem dX8_read_45 : decode cX8_read 45 = .ok (.ireturn, 1) := by decide +kernel
theorem dX8_read_46 : decode cX8_read 46 = .ok (.aload_n 0, 1) := by decide +kernel
theorem dX8_read_47 : decode cX8_read 47 = .ok (.invokevirtual 98, 3) := by decide +kernel
theorem dX8_read_50 : decode cX8_read 50 = .ok (.iconst 0, 1) := by decide +kernel
theorem dX8_read_51 : decode cX8_read 51 = .ok (.istore_n 2, 1) := by decide +kernel
theorem dX8_read_52 : decode cX8_read 52 = .ok (.iload_n 2, 1) := by decide +kernel
theorem dX8_read_53 : decode cX8_read 53 = .ok (.sipush 141, 3) := by decide +kernel
theorem dX8_read_56 : decode cX8_read 56 = .ok (.if_icmp .ge 21, 3) := by decide +kernel
theorem dX8_read_59 : decode cX8_read 59 = .ok (.aload_n 0, 1) := by decide +kernel
theorem dX8_read_60 : decode cX8_read 60 = .ok (.getfield 7, 3) := by decide +kernel
theorem dX8_read_63 : decode cX8_read 63 = .ok (.iload_n 2, 1) := by decide +kernel
theorem dX8_read_64 : decode cX8_read 64 = .ok (.aload_n 0, 1) := by decide +kernel
theorem dX8_read_65 : decode cX8_read 65 = .ok (.getfield 73, 3) := by decide +kernel
theorem dX8_read_68 : decode cX8_read 68 = .ok (.iload_n 2, 1) := by decide +kernel
theorem dX8_read_69 : decode cX8_read 69 = .ok (.iaload, 1) := by decide +kernel
theorem dX8_read_70 : decode cX8_read 70 = .ok (.iastore, 1) := by decide +kernel
theorem dX8_read_71 : decode cX8_read 71 = .ok (.iinc 2 1, 3) := by decide +kernel
theorem dX8_read_74 : decode cX8_read 74 = .ok (.goto (-22), 3) := by decide +kernel
theorem dX8_read_77 : decode cX8_read 77 = .ok (.aload_n 0, 1) := by decide +kernel
theorem dX8_read_78 : decode cX8_read 78 = .ok (.getfield 300, 3) := by decide +kernel
theorem dX8_read_81 : decode cX8_read 81 = .ok (.ireturn, 1) := by decide +kernel
theorem dX8_errorPosition_0 : decode cX8_errorPosition 0 = .ok (.aload_n 0, 1) := by decide +kernel
theorem dX8_errorPosition_1 : decode cX8_errorPosition 1 = .ok (.aload_n 0, 1) := by decide +kernel
theorem dX8_errorPosition_2 : decode cX8_errorPosition 2 = .ok (.getfield 67, 3) := by decide +kernel
theorem dX8_errorPosition_5 : decode cX8_errorPosition 5 = .ok (.ifCond .ge 7, 3) := by decide +kernel
theorem dX8_errorPosition_8 : decode cX8_errorPosition 8 = .ok (.iconst 1, 1) := by decide +kernel
theorem dX8_errorPosition_9 : decode cX8_errorPosition 9 = .ok (.goto 4, 3) := by decide +kernel
theorem dX8_errorPosition_12 : decode cX8_errorPosition 12 = .ok (.iconst 0, 1) := by decide +kernel
theorem dX8_errorPosition_13 : decode cX8_errorPosition 13 = .ok (.putfield 76, 3) := by decide +kernel
theorem dX8_errorPosition_16 : decode cX8_errorPosition 16 = .ok (.aload_n 0, 1) := by decide +kernel
theorem dX8_errorPosition_17 : decode cX8_errorPosition 17 = .ok (.getfield 76, 3) := by decide +kernel
theorem dX8_errorPosition_20 : decode cX8_errorPosition 20 = .ok (.ifCond .le 7, 3) := by decide +kernel
theorem dX8_errorPosition_23 : decode cX8_errorPosition 23 = .ok (.iconst 0, 1) := by decide +kernel
theorem dX8_errorPosition_24 : decode cX8_errorPosition 24 = .ok (.goto 7, 3) := by decide +kernel
theorem dX8_errorPosition_27 : decode cX8_errorPosition 27 = .ok (.aload_n 0, 1) := by decide +kernel
theorem dX8_errorPosition_28 : decode cX8_errorPosition 28 = .ok (.getfield 67, 3) := by decide +kernel
theorem dX8_errorPosition_31 : decode cX8_errorPosition 31 = .ok (.ireturn, 1) := by decide +kernel
theorem dJx00060_init_a7421_0 : decode cJx00060_init_a7421 0 = .ok (.aload_n 0, 1) := by decide +kernel
theorem dJx00060_init_a7421_1 : decode cJx00060_init_a7421 1 = .ok (.aload_n 1, 1) := by decide +kernel
theorem dJx00060_init_a7421_2 : decode cJx00060_init_a7421 2 = .ok (.invokespecial 7, 3) := by decide +kernel
theorem dJx00060_init_a7421_5 : decode cJx00060_init_a7421 5 = .ok (.return_, 1) := by decide +kernel
theorem dJ9_floorDiv_7cf53_0 : decode cJ9_floorDiv_7cf53 0 = .ok (.iload_n 0, 1) := by decide +kernel
theorem dJ9_floorDiv_7cf53_1 : decode cJ9_floorDiv_7cf53 1 = .ok (.iload_n 1, 1) := by decide +kernel
theorem dJ9_floorDiv_7cf53_2 : decode cJ9_floorDiv_7cf53 2 = .ok (.idiv, 1) := by decide +kernel
theorem dJ9_floorDiv_7cf53_3 : decode cJ9_floorDiv_7cf53 3 = .ok (.istore_n 2, 1) := by decide +kernel
theorem dJ9_floorDiv_7cf53_4 : decode cJ9_floorDiv_7cf53 4 = .ok (.iload_n 0, 1) := by decide +kernel
theorem dJ9_floorDiv_7cf53_5 : decode cJ9_floorDiv_7cf53 5 = .ok (.iload_n 1, 1) := by decide +kernel
theorem dJ9_floorDiv_7cf53_6 : decode cJ9_floorDiv_7cf53 6 = .ok (.ixor, 1) := by decide +kernel
theorem dJ9_floorDiv_7cf53_7 : decode cJ9_floorDiv_7cf53 7 = .ok (.ifCond .ge 14, 3) := by decide +kernel
theorem dJ9_floorDiv_7cf53_10 : decode cJ9_floorDiv_7cf53 10 = .ok (.iload_n 2, 1) := by decide +kernel
theorem dJ9_floorDiv_7cf53_11 : decode cJ9_floorDiv_7cf53 11 = .ok (.iload_n 1, 1) := by decide +kernel
theorem dJ9_floorDiv_7cf53_12 : decode cJ9_floorDiv_7cf53 12 = .ok (.imul, 1) := by decide +kernel
theorem dJ9_floorDiv_7cf53_13 : decode cJ9_floorDiv_7cf53 13 = .ok (.iload_n 0, 1) := by decide +kernel
theorem dJ9_floorDiv_7cf53_14 : decode cJ9_floorDiv_7cf53 14 = .ok (.if_icmp .eq 7, 3) := by decide +kernel
theorem dJ9_floorDiv_7cf53_17 : decode cJ9_floorDiv_7cf53 17 = .ok (.iload_n 2, 1) := by decide +kernel
theorem dJ9_floorDiv_7cf53_18 : decode cJ9_floorDiv_7cf53 18 = .ok (.iconst 1, 1) := by decide +kernel
theorem dJ9_floorDiv_7cf53_19 : decode cJ9_floorDiv_7cf53 19 = .ok (.isub, 1) := by decide +kernel
theorem dJ9_floorDiv_7cf53_20 : decode cJ9_floorDiv_7cf53 20 = .ok (.ireturn, 1) := by decide +kernel
theorem dJ9_floorDiv_7cf53_21 : decode cJ9_floorDiv_7cf53 21 = .ok (.iload_n 2, 1) := by decide +kernel
theorem dJ9_floorDiv_7cf53_22 : decode cJ9_floorDiv_7cf53 22 = .ok (.ireturn, 1) := by decide +kernel
theorem dJ9_floorMod_7cf53_0 : decode cJ9_floorMod_7cf53 0 = .ok (.iload_n 0, 1) := by decide +kernel
theorem dJ9_floorMod_7cf53_1 : decode cJ9_floorMod_7cf53 1 = .ok (.iload_n 1, 1) := by decide +kernel
theorem dJ9_floorMod_7cf53_2 : decode cJ9_floorMod_7cf53 2 = .ok (.irem, 1) := by decide +kernel
theorem dJ9_floorMod_7cf53_3 : decode cJ9_floorMod_7cf53 3 = .ok (.istore_n 2, 1) := by decide +kernel
theorem dJ9_floorMod_7cf53_4 : decode cJ9_floorMod_7cf53 4 = .ok (.iload_n 0, 1) := by decide +kernel
theorem dJ9_floorMod_7cf53_5 : decode cJ9_floorMod_7cf53 5 = .ok (.iload_n 1, 1) := by decide +kernel
theorem dJ9_floorMod_7cf53_6 : decode cJ9_floorMod_7cf53 6 = .ok (.ixor, 1) := by decide +kernel
theorem dJ9_floorMod_7cf53_7 : decode cJ9_floorMod_7cf53 7 = .ok (.ifCond .ge 11, 3) := by decide +kernel
theorem dJ9_floorMod_7cf53_10 : decode cJ9_floorMod_7cf53 10 = .ok (.iload_n 2, 1) := by decide +kernel
theorem dJ9_floorMod_7cf53_11 : decode cJ9_floorMod_7cf53 11 = .ok (.ifCond .eq 7, 3) := by decide +kernel
theorem dJ9_floorMod_7cf53_14 : decode cJ9_floorMod_7cf53 14 = .ok (.iload_n 2, 1) := by decide +kernel
theorem dJ9_floorMod_7cf53_15 : decode cJ9_floorMod_7cf53 15 = .ok (.iload_n 1, 1) := by decide +kernel
theorem dJ9_floorMod_7cf53_16 : decode cJ9_floorMod_7cf53 16 = .ok (.iadd, 1) := by decide +kernel
theorem dJ9_floorMod_7cf53_17 : decode cJ9_floorMod_7cf53 17 = .ok (.ireturn, 1) := by decide +kernel
theorem dJ9_floorMod_7cf53_18 : decode cJ9_floorMod_7cf53 18 = .ok (.iload_n 2, 1) := by decide +kernel
theorem dJ9_floorMod_7cf53_19 : decode cJ9_floorMod_7cf53 19 = .ok (.ireturn, 1) := by decide +kernel
theorem dJ9_abs_0f7a4_0 : decode cJ9_abs_0f7a4 0 = .ok (.iload_n 0, 1) := by decide +kernel
theorem dJ9_abs_0f7a4_1 : decode cJ9_abs_0f7a4 1 = .ok (.ifCond .ge 8, 3) := by decide +kernel
theorem dJ9_abs_0f7a4_4 : decode cJ9_abs_0f7a4 4 = .ok (.iload_n 0, 1) := by decide +kernel
theorem dJ9_abs_0f7a4_5 : decode cJ9_abs_0f7a4 5 = .ok (.ineg, 1) := by decide +kernel
theorem dJ9_abs_0f7a4_6 : decode cJ9_abs_0f7a4 6 = .ok (.goto 4, 3) := by decide +kernel
theorem dJ9_abs_0f7a4_9 : decode cJ9_abs_0f7a4 9 = .ok (.iload_n 0, 1) := by decide +kernel
theorem dJ9_abs_0f7a4_10 : decode cJ9_abs_0f7a4 10 = .ok (.ireturn, 1) := by decide +kernel
theorem dJ9_max_7cf53_0 : decode cJ9_max_7cf53 0 = .ok (.iload_n 0, 1) := by decide +kernel
theorem dJ9_max_7cf53_1 : decode cJ9_max_7cf53 1 = .ok (.iload_n 1, 1) := by decide +kernel
theorem dJ9_max_7cf53_2 : decode cJ9_max_7cf53 2 = .ok (.if_icmp .lt 7, 3) := by decide +kernel
theorem dJ9_max_7cf53_5 : decode cJ9_max_7cf53 5 = .ok (.iload_n 0, 1) := by decide +kernel
theorem dJ9_max_7cf53_6 : decode cJ9_max_7cf53 6 = .ok (.goto 4, 3) := by decide +kernel
theorem dJ9_max_7cf53_9 : decode cJ9_max_7cf53 9 = .ok (.iload_n 1, 1) := by decide +kernel
theorem dJ9_max_7cf53_10 : decode cJ9_max_7cf53 10 = .ok (.ireturn, 1) := by decide +kernel
theorem dJ9_min_7cf53_0 : decode cJ9_min_7cf53 0 = .ok (.iload_n 0, 1) := by decide +kernel
theorem dJ9_min_7cf53_1 : decode cJ9_min_7cf53 1 = .ok (.iload_n 1, 1) := by decide +kernel
theorem dJ9_min_7cf53_2 : decode cJ9_min_7cf53 2 = .ok (.if_icmp .gt 7, 3) := by decide +kernel
theorem dJ9_min_7cf53_5 : decode cJ9_min_7cf53 5 = .ok (.iload_n 0, 1) := by decide +kernel
theorem dJ9_min_7cf53_6 : decode cJ9_min_7cf53 6 = .ok (.goto 4, 3) := by decide +kernel
theorem dJ9_min_7cf53_9 : decode cJ9_min_7cf53 9 = .ok (.iload_n 1, 1) := by decide +kernel
theorem dJ9_min_7cf53_10 : decode cJ9_min_7cf53 10 = .ok (.ireturn, 1) := by decide +kernel
theorem dJ7_fill_53178_0 : decode cJ7_fill_53178 0 = .ok (.iconst 0, 1) := by decide +kernel
theorem dJ7_fill_53178_1 : decode cJ7_fill_53178 1 = .ok (.istore_n 2, 1) := by decide +kernel
theorem dJ7_fill_53178_2 : decode cJ7_fill_53178 2 = .ok (.aload_n 0, 1) := by decide +kernel
theorem dJ7_fill_53178_3 : decode cJ7_fill_53178 3 = .ok (.arraylength, 1) := by decide +kernel
theorem dJ7_fill_53178_4 : decode cJ7_fill_53178 4 = .ok (.istore_n 3, 1) := by decide +kernel
theorem dJ7_fill_53178_5 : decode cJ7_fill_53178 5 = .ok (.iload_n 2, 1) := by decide +kernel
theorem dJ7_fill_53178_6 : decode cJ7_fill_53178 6 = .ok (.iload_n 3, 1) := by decide +kernel
theorem dJ7_fill_53178_7 : decode cJ7_fill_53178 7 = .ok (.if_icmp .ge 13, 3) := by decide +kernel
theorem dJ7_fill_53178_10 : decode cJ7_fill_53178 10 = .ok (.aload_n 0, 1) := by decide +kernel
theorem dJ7_fill_53178_11 : decode cJ7_fill_53178 11 = .ok (.iload_n 2, 1) := by decide +kernel
theorem dJ7_fill_53178_12 : decode cJ7_fill_53178 12 = .ok (.iload_n 1, 1) := by decide +kernel
theorem dJ7_fill_53178_13 : decode cJ7_fill_53178 13 = .ok (.iastore, 1) := by decide +kernel
theorem dJ7_fill_53178_14 : decode cJ7_fill_53178 14 = .ok (.iinc 2 1, 3) := by decide +kernel
theorem dJ7_fill_53178_17 : decode cJ7_fill_53178 17 = .ok (.goto (-12), 3) := by decide +kernel
theorem dJ7_fill_53178_20 : decode cJ7_fill_53178 20 = .ok (.return_, 1) := by decide +kernel
theorem dL_addLink_0 : decode cL_addLink 0 = .ok (.aload 4, 2) := by decide +kernel
theorem dL_addLink_2 : decode cL_addLink 2 = .ok (.iconst 0, 1) := by decide +kernel
theorem dL_addLink_3 : decode cL_addLink 3 = .ok (.aload_n 0, 1) := by decide +kernel
theorem dL_addLink_4 : decode cL_addLink 4 = .ok (.iload_n 1, 1) := by decide +kernel
theorem dL_addLink_5 : decode cL_addLink 5 = .ok (.iload_n 2, 1) := by decide +kernel
theorem dL_addLink_6 : decode cL_addLink 6 = .ok (.iload_n 3, 1) := by decide +kernel
theorem dL_addLink_7 : decode cL_addLink 7 = .ok (.invokevirtual 7, 3) := by decide +kernel
theorem dL_addLink_10 : decode cL_addLink 10 = .ok (.i2l, 1) := by decide +kernel
theorem dL_addLink_11 : decode cL_addLink 11 = .ok (.lastore, 1) := by decide +kernel
theorem dL_addLink_12 : decode cL_addLink 12 = .ok (.goto 11, 3) := by decide +kernel
theorem dL_addLink_15 : decode cL_addLink 15 = .ok (.astore 5, 2) := by decide +kernel
theorem dL_addLink_17 : decode cL_addLink 17 = .ok (.iconst 1, 1) := by decide +kernel
theorem dL_addLink_18 : decode cL_addLink 18 = .ok (.ireturn, 1) := by decide +kernel
theorem dL_addLink_19 : decode cL_addLink 19 = .ok (.astore 5, 2) := by decide +kernel
theorem dL_addLink_21 : decode cL_addLink 21 = .ok (.iconst 2, 1) := by decide +kernel
theorem dL_addLink_22 : decode cL_addLink 22 = .ok (.ireturn, 1) := by decide +kernel
theorem dL_addLink_23 : decode cL_addLink 23 = .ok (.iconst 0, 1) := by decide +kernel
theorem dL_addLink_24 : decode cL_addLink 24 = .ok (.ireturn, 1) := by decide +kernel
theorem dL_removeLink_0 : decode cL_removeLink 0 = .ok (.aload_n 1, 1) := by decide +kernel
theorem dL_removeLink_1 : decode cL_removeLink 1 = .ok (.iconst 0, 1) := by decide +kernel
theorem dL_removeLink_2 : decode cL_removeLink 2 = .ok (.aload_n 0, 1) := by decide +kernel
theorem dL_removeLink_3 : decode cL_removeLink 3 = .ok (.invokevirtual 17, 3) := by decide +kernel
theorem dL_removeLink_6 : decode cL_removeLink 6 = .ok (.i2l, 1) := by decide +kernel
theorem dL_removeLink_7 : decode cL_removeLink 7 = .ok (.lastore, 1) := by decide +kernel
theorem dL_removeLink_8 : decode cL_removeLink 8 = .ok (.goto 6, 3) := by decide +kernel
theorem dL_removeLink_11 : decode cL_removeLink 11 = .ok (.astore_n 2, 1) := by decide +kernel
theorem dL_removeLink_12 : decode cL_removeLink 12 = .ok (.iconst 1, 1) := by decide +kernel
theorem dL_removeLink_13 : decode cL_removeLink 13 = .ok (.ireturn, 1) := by decide +kernel
theorem dL_removeLink_14 : decode cL_removeLink 14 = .ok (.iconst 0, 1) := by decide +kernel
theorem dL_removeLink_15 : decode cL_removeLink 15 = .ok (.ireturn, 1) := by decide +kernel
theorem dL_setLimits_0 : decode cL_setLimits 0 = .ok (.aload 4, 2) := by decide +kernel
theorem dL_setLimits_2 : decode cL_setLimits 2 = .ok (.iconst 0, 1) := by decide +kernel
theorem dL_setLimits_3 : decode cL_setLimits 3 = .ok (.aload_n 0, 1) := by decide +kernel
theorem dL_setLimits_4 : decode cL_setLimits 4 = .ok (.iload_n 1, 1) := by decide +kernel
theorem dL_setLimits_5 : decode cL_setLimits 5 = .ok (.iload_n 2, 1) := by decide +kernel
theorem dL_setLimits_6 : decode cL_setLimits 6 = .ok (.iload_n 3, 1) := by decide +kernel
theorem dL_setLimits_7 : decode cL_setLimits 7 = .ok (.invokevirtual 21, 3) := by decide +kernel
theorem dL_setLimits_10 : decode cL_setLimits 10 = .ok (.i2l, 1) := by decide +kernel
theorem dL_setLimits_11 : decode cL_setLimits 11 = .ok (.lastore, 1) := by decide +kernel
theorem dL_setLimits_12 : decode cL_setLimits 12 = .ok (.goto 11, 3) := by decide +kernel
theorem dL_setLimits_15 : decode cL_setLimits 15 = .ok (.astore 5, 2) := by decide +kernel
theorem dL_setLimits_17 : decode cL_setLimits 17 = .ok (.iconst 1, 1) := by decide +kernel
theorem dL_setLimits_18 : decode cL_setLimits 18 = .ok (.ireturn, 1) := by decide +kernel
theorem dL_setLimits_19 : decode cL_setLimits 19 = .ok (.astore 5, 2) := by decide +kernel
theorem dL_setLimits_21 : decode cL_setLimits 21 = .ok (.iconst 2, 1) := by decide +kernel
theorem dL_setLimits_22 : decode cL_setLimits 22 = .ok (.ireturn, 1) := by decide +kernel
theorem dL_setLimits_23 : decode cL_setLimits 23 = .ok (.iconst 0, 1) := by decide +kernel
theorem dL_setLimits_24 : decode cL_setLimits 24 = .ok (.ireturn, 1) := by decide +kernel
theorem dL_addObstacle_0 : decode cL_addObstacle 0 = .ok (.aload_n 3, 1) := by decide +kernel
theorem dL_addObstacle_1 : decode cL_addObstacle 1 = .ok (.iconst 0, 1) := by decide +kernel
theorem dL_addObstacle_2 : decode cL_addObstacle 2 = .ok (.aload_n 0, 1) := by decide +kernel
theorem dL_addObstacle_3 : decode cL_addObstacle 3 = .ok (.iload_n 1, 1) := by decide +kernel
theorem dL_addObstacle_4 : decode cL_addObstacle 4 = .ok (.iload_n 2, 1) := by decide +kernel
theorem dL_addObstacle_5 : decode cL_addObstacle 5 = .ok (.invokevirtual 26, 3) := by decide +kernel
theorem dL_addObstacle_8 : decode cL_addObstacle 8 = .ok (.i2l, 1) := by decide +kernel
theorem dL_addObstacle_9 : decode cL_addObstacle 9 = .ok (.lastore, 1) := by decide +kernel
theorem dL_addObstacle_10 : decode cL_addObstacle 10 = .ok (.goto 15, 3) := by decide +kernel
theorem dL_addObstacle_13 : decode cL_addObstacle 13 = .ok (.astore 4, 2) := by decide +kernel
theorem dL_addObstacle_15 : decode cL_addObstacle 15 = .ok (.iconst 1, 1) := by decide +kernel
theorem dL_addObstacle_16 : decode cL_addObstacle 16 = .ok (.ireturn, 1) := by decide +kernel
theorem dL_addObstacle_17 : decode cL_addObstacle 17 = .ok (.astore 4, 2) := by decide +kernel
theorem dL_addObstacle_19 : decode cL_addObstacle 19 = .ok (.iconst 2, 1) := by decide +kernel
theorem dL_addObstacle_20 : decode cL_addObstacle 20 = .ok (.ireturn, 1) := by decide +kernel
theorem dL_addObstacle_21 : decode cL_addObstacle 21 = .ok (.astore 4, 2) := by decide +kernel
theorem dL_addObstacle_23 : decode cL_addObstacle 23 = .ok (.iconst 3, 1) := by decide +kernel
theorem dL_addObstacle_24 : decode cL_addObstacle 24 = .ok (.ireturn, 1) := by decide +kernel
theorem dL_addObstacle_25 : decode cL_addObstacle 25 = .ok (.iconst 0, 1) := by decide +kernel
theorem dL_addObstacle_26 : decode cL_addObstacle 26 = .ok (.ireturn, 1) := by decide +kernel
theorem dL_removeObstacle_0 : decode cL_removeObstacle 0 = .ok (.aload_n 3, 1) := by decide +kernel
theorem dL_removeObstacle_1 : decode cL_removeObstacle 1 = .ok (.iconst 0, 1) := by decide +kernel
theorem dL_removeObstacle_2 : decode cL_removeObstacle 2 = .ok (.aload_n 0, 1) := by decide +kernel
theorem dL_removeObstacle_3 : decode cL_removeObstacle 3 = .ok (.iload_n 1, 1) := by decide +kernel
theorem dL_removeObstacle_4 : decode cL_removeObstacle 4 = .ok (.iload_n 2, 1) := by decide +kernel
theorem dL_removeObstacle_5 : decode cL_removeObstacle 5 = .ok (.invokevirtual 30, 3) := by decide +kernel
theorem dL_removeObstacle_8 : decode cL_removeObstacle 8 = .ok (.i2l, 1) := by decide +kernel
theorem dL_removeObstacle_9 : decode cL_removeObstacle 9 = .ok (.lastore, 1) := by decide +kernel
theorem dL_removeObstacle_10 : decode cL_removeObstacle 10 = .ok (.goto 11, 3) := by decide +kernel
theorem dL_removeObstacle_13 : decode cL_removeObstacle 13 = .ok (.astore 4, 2) := by decide +kernel
theorem dL_removeObstacle_15 : decode cL_removeObstacle 15 = .ok (.iconst 1, 1) := by decide +kernel
theorem dL_removeObstacle_16 : decode cL_removeObstacle 16 = .ok (.ireturn, 1) := by decide +kernel
theorem dL_removeObstacle_17 : decode cL_removeObstacle 17 = .ok (.astore 4, 2) := by decide +kernel
theorem dL_removeObstacle_19 : decode cL_removeObstacle 19 = .ok (.iconst 2, 1) := by decide +kernel
theorem dL_removeObstacle_20 : decode cL_removeObstacle 20 = .ok (.ireturn, 1) := by decide +kernel
theorem dL_removeObstacle_21 : decode cL_removeObstacle 21 = .ok (.iconst 0, 1) := by decide +kernel
theorem dL_removeObstacle_22 : decode cL_removeObstacle 22 = .ok (.ireturn, 1) := by decide +kernel
theorem dL_count_0 : decode cL_count 0 = .ok (.aload_n 2, 1) := by decide +kernel
theorem dL_count_1 : decode cL_count 1 = .ok (.iconst 0, 1) := by decide +kernel
theorem dL_count_2 : decode cL_count 2 = .ok (.aload_n 0, 1) := by decide +kernel
theorem dL_count_3 : decode cL_count 3 = .ok (.iload_n 1, 1) := by decide +kernel
theorem dL_count_4 : decode cL_count 4 = .ok (.invokevirtual 35, 3) := by decide +kernel
theorem dL_count_7 : decode cL_count 7 = .ok (.i2l, 1) := by decide +kernel
theorem dL_count_8 : decode cL_count 8 = .ok (.lastore, 1) := by decide +kernel
theorem dL_count_9 : decode cL_count 9 = .ok (.goto 6, 3) := by decide +kernel
theorem dL_count_12 : decode cL_count 12 = .ok (.astore_n 3, 1) := by decide +kernel
theorem dL_count_13 : decode cL_count 13 = .ok (.iconst 1, 1) := by decide +kernel
theorem dL_count_14 : decode cL_count 14 = .ok (.ireturn, 1) := by decide +kernel
theorem dL_count_15 : decode cL_count 15 = .ok (.iconst 0, 1) := by decide +kernel
theorem dL_count_16 : decode cL_count 16 = .ok (.ireturn, 1) := by decide +kernel
theorem dL_joint_0 : decode cL_joint 0 = .ok (.aload_n 3, 1) := by decide +kernel
theorem dL_joint_1 : decode cL_joint 1 = .ok (.iconst 0, 1) := by decide +kernel
theorem dL_joint_2 : decode cL_joint 2 = .ok (.aload_n 0, 1) := by decide +kernel
theorem dL_joint_3 : decode cL_joint 3 = .ok (.iload_n 1, 1) := by decide +kernel
theorem dL_joint_4 : decode cL_joint 4 = .ok (.iload_n 2, 1) := by decide +kernel
theorem dL_joint_5 : decode cL_joint 5 = .ok (.invokevirtual 39, 3) := by decide +kernel
theorem dL_joint_8 : decode cL_joint 8 = .ok (.i2l, 1) := by decide +kernel
theorem dL_joint_9 : decode cL_joint 9 = .ok (.lastore, 1) := by decide +kernel
theorem dL_joint_10 : decode cL_joint 10 = .ok (.goto 11, 3) := by decide +kernel
theorem dL_joint_13 : decode cL_joint 13 = .ok (.astore 4, 2) := by decide +kernel
theorem dL_joint_15 : decode cL_joint 15 = .ok (.iconst 1, 1) := by decide +kernel
theorem dL_joint_16 : decode cL_joint 16 = .ok (.ireturn, 1) := by decide +kernel
theorem dL_joint_17 : decode cL_joint 17 = .ok (.astore 4, 2) := by decide +kernel
theorem dL_joint_19 : decode cL_joint 19 = .ok (.iconst 2, 1) := by decide +kernel
theorem dL_joint_20 : decode cL_joint 20 = .ok (.ireturn, 1) := by decide +kernel
theorem dL_joint_21 : decode cL_joint 21 = .ok (.iconst 0, 1) := by decide +kernel
theorem dL_joint_22 : decode cL_joint 22 = .ok (.ireturn, 1) := by decide +kernel
theorem dL_isObstacle_0 : decode cL_isObstacle 0 = .ok (.aload_n 3, 1) := by decide +kernel
theorem dL_isObstacle_1 : decode cL_isObstacle 1 = .ok (.iconst 0, 1) := by decide +kernel
theorem dL_isObstacle_2 : decode cL_isObstacle 2 = .ok (.aload_n 0, 1) := by decide +kernel
theorem dL_isObstacle_3 : decode cL_isObstacle 3 = .ok (.iload_n 1, 1) := by decide +kernel
theorem dL_isObstacle_4 : decode cL_isObstacle 4 = .ok (.iload_n 2, 1) := by decide +kernel
theorem dL_isObstacle_5 : decode cL_isObstacle 5 = .ok (.invokevirtual 42, 3) := by decide +kernel
theorem dL_isObstacle_8 : decode cL_isObstacle 8 = .ok (.ifCond .eq 7, 3) := by decide +kernel
theorem dL_isObstacle_11 : decode cL_isObstacle 11 = .ok (.lconst 1, 1) := by decide +kernel
theorem dL_isObstacle_12 : decode cL_isObstacle 12 = .ok (.goto 4, 3) := by decide +kernel
theorem dL_isObstacle_15 : decode cL_isObstacle 15 = .ok (.lconst 0, 1) := by decide +kernel
theorem dL_isObstacle_16 : decode cL_isObstacle 16 = .ok (.lastore, 1) := by decide +kernel
theorem dL_isObstacle_17 : decode cL_isObstacle 17 = .ok (.goto 7, 3) := by decide +kernel
theorem dL_isObstacle_20 : decode cL_isObstacle 20 = .ok (.astore 4, 2) := by decide +kernel
theorem dL_isObstacle_22 : decode cL_isObstacle 22 = .ok (.iconst 1, 1) := by decide +kernel
theorem dL_isObstacle_23 : decode cL_isObstacle 23 = .ok (.ireturn, 1) := by decide +kernel
theorem dL_isObstacle_24 : decode cL_isObstacle 24 = .ok (.iconst 0, 1) := by decide +kernel
theorem dL_isObstacle_25 : decode cL_isObstacle 25 = .ok (.ireturn, 1) := by decide +kernel
theorem dL_obstacle_0 : decode cL_obstacle 0 = .ok (.aload_n 3, 1) := by decide +kernel
theorem dL_obstacle_1 : decode cL_obstacle 1 = .ok (.iconst 0, 1) := by decide +kernel
theorem dL_obstacle_2 : decode cL_obstacle 2 = .ok (.aload_n 0, 1) := by decide +kernel
theorem dL_obstacle_3 : decode cL_obstacle 3 = .ok (.iload_n 1, 1) := by decide +kernel
theorem dL_obstacle_4 : decode cL_obstacle 4 = .ok (.iload_n 2, 1) := by decide +kernel
theorem dL_obstacle_5 : decode cL_obstacle 5 = .ok (.invokevirtual 46, 3) := by decide +kernel
theorem dL_obstacle_8 : decode cL_obstacle 8 = .ok (.i2l, 1) := by decide +kernel
theorem dL_obstacle_9 : decode cL_obstacle 9 = .ok (.lastore, 1) := by decide +kernel
theorem dL_obstacle_10 : decode cL_obstacle 10 = .ok (.goto 7, 3) := by decide +kernel
theorem dL_obstacle_13 : decode cL_obstacle 13 = .ok (.astore 4, 2) := by decide +kernel
theorem dL_obstacle_15 : decode cL_obstacle 15 = .ok (.iconst 1, 1) := by decide +kernel
theorem dL_obstacle_16 : decode cL_obstacle 16 = .ok (.ireturn, 1) := by decide +kernel
theorem dL_obstacle_17 : decode cL_obstacle 17 = .ok (.iconst 0, 1) := by decide +kernel
theorem dL_obstacle_18 : decode cL_obstacle 18 = .ok (.ireturn, 1) := by decide +kernel
theorem dL_setValue_0 : decode cL_setValue 0 = .ok (.aload_n 3, 1) := by decide +kernel
theorem dL_setValue_1 : decode cL_setValue 1 = .ok (.iconst 0, 1) := by decide +kernel
theorem dL_setValue_2 : decode cL_setValue 2 = .ok (.aload_n 0, 1) := by decide +kernel
theorem dL_setValue_3 : decode cL_setValue 3 = .ok (.iload_n 1, 1) := by decide +kernel
theorem dL_setValue_4 : decode cL_setValue 4 = .ok (.iload_n 2, 1) := by decide +kernel
theorem dL_setValue_5 : decode cL_setValue 5 = .ok (.invokevirtual 50, 3) := by decide +kernel
theorem dL_setValue_8 : decode cL_setValue 8 = .ok (.i2l, 1) := by decide +kernel
theorem dL_setValue_9 : decode cL_setValue 9 = .ok (.lastore, 1) := by decide +kernel
theorem dL_setValue_10 : decode cL_setValue 10 = .ok (.goto 11, 3) := by decide +kernel
theorem dL_setValue_13 : decode cL_setValue 13 = .ok (.astore 4, 2) := by decide +kernel
theorem dL_setValue_15 : decode cL_setValue 15 = .ok (.iconst 1, 1) := by decide +kernel
theorem dL_setValue_16 : decode cL_setValue 16 = .ok (.ireturn, 1) := by decide +kernel
theorem dL_setValue_17 : decode cL_setValue 17 = .ok (.astore 4, 2) := by decide +kernel
theorem dL_setValue_19 : decode cL_setValue 19 = .ok (.iconst 2, 1) := by decide +kernel
theorem dL_setValue_20 : decode cL_setValue 20 = .ok (.ireturn, 1) := by decide +kernel
theorem dL_setValue_21 : decode cL_setValue 21 = .ok (.iconst 0, 1) := by decide +kernel
theorem dL_setValue_22 : decode cL_setValue 22 = .ok (.ireturn, 1) := by decide +kernel
theorem dL_move_0 : decode cL_move 0 = .ok (.aload_n 2, 1) := by decide +kernel
theorem dL_move_1 : decode cL_move 1 = .ok (.iconst 0, 1) := by decide +kernel
theorem dL_move_2 : decode cL_move 2 = .ok (.aload_n 0, 1) := by decide +kernel
theorem dL_move_3 : decode cL_move 3 = .ok (.iload_n 1, 1) := by decide +kernel
theorem dL_move_4 : decode cL_move 4 = .ok (.invokevirtual 53, 3) := by decide +kernel
theorem dL_move_7 : decode cL_move 7 = .ok (.i2l, 1) := by decide +kernel
theorem dL_move_8 : decode cL_move 8 = .ok (.lastore, 1) := by decide +kernel
theorem dL_move_9 : decode cL_move 9 = .ok (.goto 9, 3) := by decide +kernel
theorem dL_move_12 : decode cL_move 12 = .ok (.astore_n 3, 1) := by decide +kernel
theorem dL_move_13 : decode cL_move 13 = .ok (.iconst 1, 1) := by decide +kernel
theorem dL_move_14 : decode cL_move 14 = .ok (.ireturn, 1) := by decide +kernel
theorem dL_move_15 : decode cL_move 15 = .ok (.astore_n 3, 1) := by decide +kernel
theorem dL_move_16 : decode cL_move 16 = .ok (.iconst 2, 1) := by decide +kernel
theorem dL_move_17 : decode cL_move 17 = .ok (.ireturn, 1) := by decide +kernel
theorem dL_move_18 : decode cL_move 18 = .ok (.iconst 0, 1) := by decide +kernel
theorem dL_move_19 : decode cL_move 19 = .ok (.ireturn, 1) := by decide +kernel
theorem dL_faultyLink_0 : decode cL_faultyLink 0 = .ok (.aload_n 1, 1) := by decide +kernel
theorem dL_faultyLink_1 : decode cL_faultyLink 1 = .ok (.iconst 0, 1) := by decide +kernel
theorem dL_faultyLink_2 : decode cL_faultyLink 2 = .ok (.aload_n 0, 1) := by decide +kernel
theorem dL_faultyLink_3 : decode cL_faultyLink 3 = .ok (.invokevirtual 56, 3) := by decide +kernel
theorem dL_faultyLink_6 : decode cL_faultyLink 6 = .ok (.i2l, 1) := by decide +kernel
theorem dL_faultyLink_7 : decode cL_faultyLink 7 = .ok (.lastore, 1) := by decide +kernel
theorem dL_faultyLink_8 : decode cL_faultyLink 8 = .ok (.goto 6, 3) := by decide +kernel
theorem dL_faultyLink_11 : decode cL_faultyLink 11 = .ok (.astore_n 2, 1) := by decide +kernel
theorem dL_faultyLink_12 : decode cL_faultyLink 12 = .ok (.iconst 1, 1) := by decide +kernel
theorem dL_faultyLink_13 : decode cL_faultyLink 13 = .ok (.ireturn, 1) := by decide +kernel
theorem dL_faultyLink_14 : decode cL_faultyLink 14 = .ok (.iconst 0, 1) := by decide +kernel
theorem dL_faultyLink_15 : decode cL_faultyLink 15 = .ok (.ireturn, 1) := by decide +kernel
theorem dL_linksAt_0 : decode cL_linksAt 0 = .ok (.aload_n 3, 1) := by decide +kernel
theorem dL_linksAt_1 : decode cL_linksAt 1 = .ok (.iconst 0, 1) := by decide +kernel
theorem dL_linksAt_2 : decode cL_linksAt 2 = .ok (.aload_n 0, 1) := by decide +kernel
theorem dL_linksAt_3 : decode cL_linksAt 3 = .ok (.iload_n 1, 1) := by decide +kernel
theorem dL_linksAt_4 : decode cL_linksAt 4 = .ok (.iload_n 2, 1) := by decide +kernel
theorem dL_linksAt_5 : decode cL_linksAt 5 = .ok (.invokevirtual 59, 3) := by decide +kernel
theorem dL_linksAt_8 : decode cL_linksAt 8 = .ok (.i2l, 1) := by decide +kernel
theorem dL_linksAt_9 : decode cL_linksAt 9 = .ok (.lastore, 1) := by decide +kernel
theorem dL_linksAt_10 : decode cL_linksAt 10 = .ok (.goto 7, 3) := by decide +kernel
theorem dL_linksAt_13 : decode cL_linksAt 13 = .ok (.astore 4, 2) := by decide +kernel
theorem dL_linksAt_15 : decode cL_linksAt 15 = .ok (.iconst 1, 1) := by decide +kernel
theorem dL_linksAt_16 : decode cL_linksAt 16 = .ok (.ireturn, 1) := by decide +kernel
theorem dL_linksAt_17 : decode cL_linksAt 17 = .ok (.iconst 0, 1) := by decide +kernel
theorem dL_linksAt_18 : decode cL_linksAt 18 = .ok (.ireturn, 1) := by decide +kernel
theorem dL_clearance_0 : decode cL_clearance 0 = .ok (.aload_n 1, 1) := by decide +kernel
theorem dL_clearance_1 : decode cL_clearance 1 = .ok (.iconst 0, 1) := by decide +kernel
theorem dL_clearance_2 : decode cL_clearance 2 = .ok (.aload_n 0, 1) := by decide +kernel
theorem dL_clearance_3 : decode cL_clearance 3 = .ok (.invokevirtual 62, 3) := by decide +kernel
theorem dL_clearance_6 : decode cL_clearance 6 = .ok (.i2l, 1) := by decide +kernel
theorem dL_clearance_7 : decode cL_clearance 7 = .ok (.lastore, 1) := by decide +kernel
theorem dL_clearance_8 : decode cL_clearance 8 = .ok (.goto 6, 3) := by decide +kernel
theorem dL_clearance_11 : decode cL_clearance 11 = .ok (.astore_n 2, 1) := by decide +kernel
theorem dL_clearance_12 : decode cL_clearance 12 = .ok (.iconst 1, 1) := by decide +kernel
theorem dL_clearance_13 : decode cL_clearance 13 = .ok (.ireturn, 1) := by decide +kernel
theorem dL_clearance_14 : decode cL_clearance 14 = .ok (.iconst 0, 1) := by decide +kernel
theorem dL_clearance_15 : decode cL_clearance 15 = .ok (.ireturn, 1) := by decide +kernel
theorem dL_freePoses_0 : decode cL_freePoses 0 = .ok (.aload_n 1, 1) := by decide +kernel
theorem dL_freePoses_1 : decode cL_freePoses 1 = .ok (.iconst 0, 1) := by decide +kernel
theorem dL_freePoses_2 : decode cL_freePoses 2 = .ok (.aload_n 0, 1) := by decide +kernel
theorem dL_freePoses_3 : decode cL_freePoses 3 = .ok (.invokevirtual 65, 3) := by decide +kernel
theorem dL_freePoses_6 : decode cL_freePoses 6 = .ok (.i2l, 1) := by decide +kernel
theorem dL_freePoses_7 : decode cL_freePoses 7 = .ok (.lastore, 1) := by decide +kernel
theorem dL_freePoses_8 : decode cL_freePoses 8 = .ok (.goto 6, 3) := by decide +kernel
theorem dL_freePoses_11 : decode cL_freePoses 11 = .ok (.astore_n 2, 1) := by decide +kernel
theorem dL_freePoses_12 : decode cL_freePoses 12 = .ok (.iconst 1, 1) := by decide +kernel
theorem dL_freePoses_13 : decode cL_freePoses 13 = .ok (.ireturn, 1) := by decide +kernel
theorem dL_freePoses_14 : decode cL_freePoses 14 = .ok (.iconst 0, 1) := by decide +kernel
theorem dL_freePoses_15 : decode cL_freePoses 15 = .ok (.ireturn, 1) := by decide +kernel
theorem dL_poseValue_0 : decode cL_poseValue 0 = .ok (.aload_n 3, 1) := by decide +kernel
theorem dL_poseValue_1 : decode cL_poseValue 1 = .ok (.iconst 0, 1) := by decide +kernel
theorem dL_poseValue_2 : decode cL_poseValue 2 = .ok (.aload_n 0, 1) := by decide +kernel
theorem dL_poseValue_3 : decode cL_poseValue 3 = .ok (.iload_n 1, 1) := by decide +kernel
theorem dL_poseValue_4 : decode cL_poseValue 4 = .ok (.iload_n 2, 1) := by decide +kernel
theorem dL_poseValue_5 : decode cL_poseValue 5 = .ok (.invokevirtual 68, 3) := by decide +kernel
theorem dL_poseValue_8 : decode cL_poseValue 8 = .ok (.i2l, 1) := by decide +kernel
theorem dL_poseValue_9 : decode cL_poseValue 9 = .ok (.lastore, 1) := by decide +kernel
theorem dL_poseValue_10 : decode cL_poseValue 10 = .ok (.goto 7, 3) := by decide +kernel
theorem dL_poseValue_13 : decode cL_poseValue 13 = .ok (.astore 4, 2) := by decide +kernel
theorem dL_poseValue_15 : decode cL_poseValue 15 = .ok (.iconst 1, 1) := by decide +kernel
theorem dL_poseValue_16 : decode cL_poseValue 16 = .ok (.ireturn, 1) := by decide +kernel
theorem dL_poseValue_17 : decode cL_poseValue 17 = .ok (.iconst 0, 1) := by decide +kernel
theorem dL_poseValue_18 : decode cL_poseValue 18 = .ok (.ireturn, 1) := by decide +kernel
theorem dL_isFreePose_0 : decode cL_isFreePose 0 = .ok (.aload_n 2, 1) := by decide +kernel
theorem dL_isFreePose_1 : decode cL_isFreePose 1 = .ok (.iconst 0, 1) := by decide +kernel
theorem dL_isFreePose_2 : decode cL_isFreePose 2 = .ok (.aload_n 0, 1) := by decide +kernel
theorem dL_isFreePose_3 : decode cL_isFreePose 3 = .ok (.iload_n 1, 1) := by decide +kernel
theorem dL_isFreePose_4 : decode cL_isFreePose 4 = .ok (.invokevirtual 71, 3) := by decide +kernel
theorem dL_isFreePose_7 : decode cL_isFreePose 7 = .ok (.ifCond .eq 7, 3) := by decide +kernel
theorem dL_isFreePose_10 : decode cL_isFreePose 10 = .ok (.lconst 1, 1) := by decide +kernel
theorem dL_isFreePose_11 : decode cL_isFreePose 11 = .ok (.goto 4, 3) := by decide +kernel
theorem dL_isFreePose_14 : decode cL_isFreePose 14 = .ok (.lconst 0, 1) := by decide +kernel
theorem dL_isFreePose_15 : decode cL_isFreePose 15 = .ok (.lastore, 1) := by decide +kernel
theorem dL_isFreePose_16 : decode cL_isFreePose 16 = .ok (.goto 6, 3) := by decide +kernel
theorem dL_isFreePose_19 : decode cL_isFreePose 19 = .ok (.astore_n 3, 1) := by decide +kernel
theorem dL_isFreePose_20 : decode cL_isFreePose 20 = .ok (.iconst 1, 1) := by decide +kernel
theorem dL_isFreePose_21 : decode cL_isFreePose 21 = .ok (.ireturn, 1) := by decide +kernel
theorem dL_isFreePose_22 : decode cL_isFreePose 22 = .ok (.iconst 0, 1) := by decide +kernel
theorem dL_isFreePose_23 : decode cL_isFreePose 23 = .ok (.ireturn, 1) := by decide +kernel
theorem dL_posesAt_0 : decode cL_posesAt 0 = .ok (.aload_n 3, 1) := by decide +kernel
theorem dL_posesAt_1 : decode cL_posesAt 1 = .ok (.iconst 0, 1) := by decide +kernel
theorem dL_posesAt_2 : decode cL_posesAt 2 = .ok (.aload_n 0, 1) := by decide +kernel
theorem dL_posesAt_3 : decode cL_posesAt 3 = .ok (.iload_n 1, 1) := by decide +kernel
theorem dL_posesAt_4 : decode cL_posesAt 4 = .ok (.iload_n 2, 1) := by decide +kernel
theorem dL_posesAt_5 : decode cL_posesAt 5 = .ok (.invokevirtual 75, 3) := by decide +kernel
theorem dL_posesAt_8 : decode cL_posesAt 8 = .ok (.i2l, 1) := by decide +kernel
theorem dL_posesAt_9 : decode cL_posesAt 9 = .ok (.lastore, 1) := by decide +kernel
theorem dL_posesAt_10 : decode cL_posesAt 10 = .ok (.goto 11, 3) := by decide +kernel
theorem dL_posesAt_13 : decode cL_posesAt 13 = .ok (.astore 4, 2) := by decide +kernel
theorem dL_posesAt_15 : decode cL_posesAt 15 = .ok (.iconst 1, 1) := by decide +kernel
theorem dL_posesAt_16 : decode cL_posesAt 16 = .ok (.ireturn, 1) := by decide +kernel
theorem dL_posesAt_17 : decode cL_posesAt 17 = .ok (.astore 4, 2) := by decide +kernel
theorem dL_posesAt_19 : decode cL_posesAt 19 = .ok (.iconst 2, 1) := by decide +kernel
theorem dL_posesAt_20 : decode cL_posesAt 20 = .ok (.ireturn, 1) := by decide +kernel
theorem dL_posesAt_21 : decode cL_posesAt 21 = .ok (.iconst 0, 1) := by decide +kernel
theorem dL_posesAt_22 : decode cL_posesAt 22 = .ok (.ireturn, 1) := by decide +kernel
theorem dL_connected_0 : decode cL_connected 0 = .ok (.aload_n 1, 1) := by decide +kernel
theorem dL_connected_1 : decode cL_connected 1 = .ok (.iconst 0, 1) := by decide +kernel
theorem dL_connected_2 : decode cL_connected 2 = .ok (.aload_n 0, 1) := by decide +kernel
theorem dL_connected_3 : decode cL_connected 3 = .ok (.invokevirtual 78, 3) := by decide +kernel
theorem dL_connected_6 : decode cL_connected 6 = .ok (.i2l, 1) := by decide +kernel
theorem dL_connected_7 : decode cL_connected 7 = .ok (.lastore, 1) := by decide +kernel
theorem dL_connected_8 : decode cL_connected 8 = .ok (.goto 6, 3) := by decide +kernel
theorem dL_connected_11 : decode cL_connected 11 = .ok (.astore_n 2, 1) := by decide +kernel
theorem dL_connected_12 : decode cL_connected 12 = .ok (.iconst 1, 1) := by decide +kernel
theorem dL_connected_13 : decode cL_connected 13 = .ok (.ireturn, 1) := by decide +kernel
theorem dL_connected_14 : decode cL_connected 14 = .ok (.iconst 0, 1) := by decide +kernel
theorem dL_connected_15 : decode cL_connected 15 = .ok (.ireturn, 1) := by decide +kernel
theorem dL_reachableCells_0 : decode cL_reachableCells 0 = .ok (.aload_n 1, 1) := by decide +kernel
theorem dL_reachableCells_1 : decode cL_reachableCells 1 = .ok (.iconst 0, 1) := by decide +kernel
theorem dL_reachableCells_2 : decode cL_reachableCells 2 = .ok (.aload_n 0, 1) := by decide +kernel
theorem dL_reachableCells_3 : decode cL_reachableCells 3 = .ok (.invokevirtual 81, 3) := by decide +kernel
theorem dL_reachableCells_6 : decode cL_reachableCells 6 = .ok (.i2l, 1) := by decide +kernel
theorem dL_reachableCells_7 : decode cL_reachableCells 7 = .ok (.lastore, 1) := by decide +kernel
theorem dL_reachableCells_8 : decode cL_reachableCells 8 = .ok (.goto 6, 3) := by decide +kernel
theorem dL_reachableCells_11 : decode cL_reachableCells 11 = .ok (.astore_n 2, 1) := by decide +kernel
theorem dL_reachableCells_12 : decode cL_reachableCells 12 = .ok (.iconst 1, 1) := by decide +kernel
theorem dL_reachableCells_13 : decode cL_reachableCells 13 = .ok (.ireturn, 1) := by decide +kernel
theorem dL_reachableCells_14 : decode cL_reachableCells 14 = .ok (.iconst 0, 1) := by decide +kernel
theorem dL_reachableCells_15 : decode cL_reachableCells 15 = .ok (.ireturn, 1) := by decide +kernel
theorem dL_favorite_0 : decode cL_favorite 0 = .ok (.aload_n 2, 1) := by decide +kernel
theorem dL_favorite_1 : decode cL_favorite 1 = .ok (.iconst 0, 1) := by decide +kernel
theorem dL_favorite_2 : decode cL_favorite 2 = .ok (.aload_n 0, 1) := by decide +kernel
theorem dL_favorite_3 : decode cL_favorite 3 = .ok (.iload_n 1, 1) := by decide +kernel
theorem dL_favorite_4 : decode cL_favorite 4 = .ok (.invokevirtual 84, 3) := by decide +kernel
theorem dL_favorite_7 : decode cL_favorite 7 = .ok (.i2l, 1) := by decide +kernel
theorem dL_favorite_8 : decode cL_favorite 8 = .ok (.lastore, 1) := by decide +kernel
theorem dL_favorite_9 : decode cL_favorite 9 = .ok (.goto 9, 3) := by decide +kernel
theorem dL_favorite_12 : decode cL_favorite 12 = .ok (.astore_n 3, 1) := by decide +kernel
theorem dL_favorite_13 : decode cL_favorite 13 = .ok (.iconst 1, 1) := by decide +kernel
theorem dL_favorite_14 : decode cL_favorite 14 = .ok (.ireturn, 1) := by decide +kernel
theorem dL_favorite_15 : decode cL_favorite 15 = .ok (.astore_n 3, 1) := by decide +kernel
theorem dL_favorite_16 : decode cL_favorite 16 = .ok (.iconst 2, 1) := by decide +kernel
theorem dL_favorite_17 : decode cL_favorite 17 = .ok (.ireturn, 1) := by decide +kernel
theorem dL_favorite_18 : decode cL_favorite 18 = .ok (.iconst 0, 1) := by decide +kernel
theorem dL_favorite_19 : decode cL_favorite 19 = .ok (.ireturn, 1) := by decide +kernel
theorem dL_farthest_0 : decode cL_farthest 0 = .ok (.aload_n 1, 1) := by decide +kernel
theorem dL_farthest_1 : decode cL_farthest 1 = .ok (.iconst 0, 1) := by decide +kernel
theorem dL_farthest_2 : decode cL_farthest 2 = .ok (.aload_n 0, 1) := by decide +kernel
theorem dL_farthest_3 : decode cL_farthest 3 = .ok (.invokevirtual 88, 3) := by decide +kernel
theorem dL_farthest_6 : decode cL_farthest 6 = .ok (.i2l, 1) := by decide +kernel
theorem dL_farthest_7 : decode cL_farthest 7 = .ok (.lastore, 1) := by decide +kernel
theorem dL_farthest_8 : decode cL_farthest 8 = .ok (.goto 9, 3) := by decide +kernel
theorem dL_farthest_11 : decode cL_farthest 11 = .ok (.astore_n 2, 1) := by decide +kernel
theorem dL_farthest_12 : decode cL_farthest 12 = .ok (.iconst 1, 1) := by decide +kernel
theorem dL_farthest_13 : decode cL_farthest 13 = .ok (.ireturn, 1) := by decide +kernel
theorem dL_farthest_14 : decode cL_farthest 14 = .ok (.astore_n 2, 1) := by decide +kernel
theorem dL_farthest_15 : decode cL_farthest 15 = .ok (.iconst 2, 1) := by decide +kernel
theorem dL_farthest_16 : decode cL_farthest 16 = .ok (.ireturn, 1) := by decide +kernel
theorem dL_farthest_17 : decode cL_farthest 17 = .ok (.iconst 0, 1) := by decide +kernel
theorem dL_farthest_18 : decode cL_farthest 18 = .ok (.ireturn, 1) := by decide +kernel
theorem dL_groups_0 : decode cL_groups 0 = .ok (.aload_n 1, 1) := by decide +kernel
theorem dL_groups_1 : decode cL_groups 1 = .ok (.iconst 0, 1) := by decide +kernel
theorem dL_groups_2 : decode cL_groups 2 = .ok (.aload_n 0, 1) := by decide +kernel
theorem dL_groups_3 : decode cL_groups 3 = .ok (.invokevirtual 91, 3) := by decide +kernel
theorem dL_groups_6 : decode cL_groups 6 = .ok (.i2l, 1) := by decide +kernel
theorem dL_groups_7 : decode cL_groups 7 = .ok (.lastore, 1) := by decide +kernel
theorem dL_groups_8 : decode cL_groups 8 = .ok (.goto 6, 3) := by decide +kernel
theorem dL_groups_11 : decode cL_groups 11 = .ok (.astore_n 2, 1) := by decide +kernel
theorem dL_groups_12 : decode cL_groups 12 = .ok (.iconst 1, 1) := by decide +kernel
theorem dL_groups_13 : decode cL_groups 13 = .ok (.ireturn, 1) := by decide +kernel
theorem dL_groups_14 : decode cL_groups 14 = .ok (.iconst 0, 1) := by decide +kernel
theorem dL_groups_15 : decode cL_groups 15 = .ok (.ireturn, 1) := by decide +kernel
theorem dL_freedom_0 : decode cL_freedom 0 = .ok (.aload_n 1, 1) := by decide +kernel
theorem dL_freedom_1 : decode cL_freedom 1 = .ok (.iconst 0, 1) := by decide +kernel
theorem dL_freedom_2 : decode cL_freedom 2 = .ok (.aload_n 0, 1) := by decide +kernel
theorem dL_freedom_3 : decode cL_freedom 3 = .ok (.invokevirtual 94, 3) := by decide +kernel
theorem dL_freedom_6 : decode cL_freedom 6 = .ok (.dastore, 1) := by decide +kernel
theorem dL_freedom_7 : decode cL_freedom 7 = .ok (.goto 9, 3) := by decide +kernel
theorem dL_freedom_10 : decode cL_freedom 10 = .ok (.astore_n 2, 1) := by decide +kernel
theorem dL_freedom_11 : decode cL_freedom 11 = .ok (.iconst 1, 1) := by decide +kernel
theorem dL_freedom_12 : decode cL_freedom 12 = .ok (.ireturn, 1) := by decide +kernel
theorem dL_freedom_13 : decode cL_freedom 13 = .ok (.astore_n 2, 1) := by decide +kernel
theorem dL_freedom_14 : decode cL_freedom 14 = .ok (.iconst 2, 1) := by decide +kernel
theorem dL_freedom_15 : decode cL_freedom 15 = .ok (.ireturn, 1) := by decide +kernel
theorem dL_freedom_16 : decode cL_freedom 16 = .ok (.iconst 0, 1) := by decide +kernel
theorem dL_freedom_17 : decode cL_freedom 17 = .ok (.ireturn, 1) := by decide +kernel
theorem dL_planToPose_0 : decode cL_planToPose 0 = .ok (.aload_n 2, 1) := by decide +kernel
theorem dL_planToPose_1 : decode cL_planToPose 1 = .ok (.iconst 0, 1) := by decide +kernel
theorem dL_planToPose_2 : decode cL_planToPose 2 = .ok (.aload_n 0, 1) := by decide +kernel
theorem dL_planToPose_3 : decode cL_planToPose 3 = .ok (.iload_n 1, 1) := by decide +kernel
theorem dL_planToPose_4 : decode cL_planToPose 4 = .ok (.invokevirtual 100, 3) := by decide +kernel
theorem dL_planToPose_7 : decode cL_planToPose 7 = .ok (.i2l, 1) := by decide +kernel
theorem dL_planToPose_8 : decode cL_planToPose 8 = .ok (.lastore, 1) := by decide +kernel
theorem dL_planToPose_9 : decode cL_planToPose 9 = .ok (.goto 12, 3) := by decide +kernel
theorem dL_planToPose_12 : decode cL_planToPose 12 = .ok (.astore_n 3, 1) := by decide +kernel
theorem dL_planToPose_13 : decode cL_planToPose 13 = .ok (.iconst 1, 1) := by decide +kernel
theorem dL_planToPose_14 : decode cL_planToPose 14 = .ok (.ireturn, 1) := by decide +kernel
theorem dL_planToPose_15 : decode cL_planToPose 15 = .ok (.astore_n 3, 1) := by decide +kernel
theorem dL_planToPose_16 : decode cL_planToPose 16 = .ok (.iconst 2, 1) := by decide +kernel
theorem dL_planToPose_17 : decode cL_planToPose 17 = .ok (.ireturn, 1) := by decide +kernel
theorem dL_planToPose_18 : decode cL_planToPose 18 = .ok (.astore_n 3, 1) := by decide +kernel
theorem dL_planToPose_19 : decode cL_planToPose 19 = .ok (.iconst 3, 1) := by decide +kernel
theorem dL_planToPose_20 : decode cL_planToPose 20 = .ok (.ireturn, 1) := by decide +kernel
theorem dL_planToPose_21 : decode cL_planToPose 21 = .ok (.iconst 0, 1) := by decide +kernel
theorem dL_planToPose_22 : decode cL_planToPose 22 = .ok (.ireturn, 1) := by decide +kernel
theorem dL_planToCell_0 : decode cL_planToCell 0 = .ok (.aload_n 3, 1) := by decide +kernel
theorem dL_planToCell_1 : decode cL_planToCell 1 = .ok (.iconst 0, 1) := by decide +kernel
theorem dL_planToCell_2 : decode cL_planToCell 2 = .ok (.aload_n 0, 1) := by decide +kernel
theorem dL_planToCell_3 : decode cL_planToCell 3 = .ok (.iload_n 1, 1) := by decide +kernel
theorem dL_planToCell_4 : decode cL_planToCell 4 = .ok (.iload_n 2, 1) := by decide +kernel
theorem dL_planToCell_5 : decode cL_planToCell 5 = .ok (.invokevirtual 103, 3) := by decide +kernel
theorem dL_planToCell_8 : decode cL_planToCell 8 = .ok (.i2l, 1) := by decide +kernel
theorem dL_planToCell_9 : decode cL_planToCell 9 = .ok (.lastore, 1) := by decide +kernel
theorem dL_planToCell_10 : decode cL_planToCell 10 = .ok (.goto 15, 3) := by decide +kernel
theorem dL_planToCell_13 : decode cL_planToCell 13 = .ok (.astore 4, 2) := by decide +kernel
theorem dL_planToCell_15 : decode cL_planToCell 15 = .ok (.iconst 1, 1) := by decide +kernel
theorem dL_planToCell_16 : decode cL_planToCell 16 = .ok (.ireturn, 1) := by decide +kernel
theorem dL_planToCell_17 : decode cL_planToCell 17 = .ok (.astore 4, 2) := by decide +kernel
theorem dL_planToCell_19 : decode cL_planToCell 19 = .ok (.iconst 2, 1) := by decide +kernel
theorem dL_planToCell_20 : decode cL_planToCell 20 = .ok (.ireturn, 1) := by decide +kernel
theorem dL_planToCell_21 : decode cL_planToCell 21 = .ok (.astore 4, 2) := by decide +kernel
theorem dL_planToCell_23 : decode cL_planToCell 23 = .ok (.iconst 3, 1) := by decide +kernel
theorem dL_planToCell_24 : decode cL_planToCell 24 = .ok (.ireturn, 1) := by decide +kernel
theorem dL_planToCell_25 : decode cL_planToCell 25 = .ok (.iconst 0, 1) := by decide +kernel
theorem dL_planToCell_26 : decode cL_planToCell 26 = .ok (.ireturn, 1) := by decide +kernel
theorem dL_planSmooth_0 : decode cL_planSmooth 0 = .ok (.aload_n 3, 1) := by decide +kernel
theorem dL_planSmooth_1 : decode cL_planSmooth 1 = .ok (.iconst 0, 1) := by decide +kernel
theorem dL_planSmooth_2 : decode cL_planSmooth 2 = .ok (.aload_n 0, 1) := by decide +kernel
theorem dL_planSmooth_3 : decode cL_planSmooth 3 = .ok (.iload_n 1, 1) := by decide +kernel
theorem dL_planSmooth_4 : decode cL_planSmooth 4 = .ok (.iload_n 2, 1) := by decide +kernel
theorem dL_planSmooth_5 : decode cL_planSmooth 5 = .ok (.invokevirtual 106, 3) := by decide +kernel
theorem dL_planSmooth_8 : decode cL_planSmooth 8 = .ok (.i2l, 1) := by decide +kernel
theorem dL_planSmooth_9 : decode cL_planSmooth 9 = .ok (.lastore, 1) := by decide +kernel
theorem dL_planSmooth_10 : decode cL_planSmooth 10 = .ok (.goto 15, 3) := by decide +kernel
theorem dL_planSmooth_13 : decode cL_planSmooth 13 = .ok (.astore 4, 2) := by decide +kernel
theorem dL_planSmooth_15 : decode cL_planSmooth 15 = .ok (.iconst 1, 1) := by decide +kernel
theorem dL_planSmooth_16 : decode cL_planSmooth 16 = .ok (.ireturn, 1) := by decide +kernel
theorem dL_planSmooth_17 : decode cL_planSmooth 17 = .ok (.astore 4, 2) := by decide +kernel
theorem dL_planSmooth_19 : decode cL_planSmooth 19 = .ok (.iconst 2, 1) := by decide +kernel
theorem dL_planSmooth_20 : decode cL_planSmooth 20 = .ok (.ireturn, 1) := by decide +kernel
theorem dL_planSmooth_21 : decode cL_planSmooth 21 = .ok (.astore 4, 2) := by decide +kernel
theorem dL_planSmooth_23 : decode cL_planSmooth 23 = .ok (.iconst 3, 1) := by decide +kernel
theorem dL_planSmooth_24 : decode cL_planSmooth 24 = .ok (.ireturn, 1) := by decide +kernel
theorem dL_planSmooth_25 : decode cL_planSmooth 25 = .ok (.iconst 0, 1) := by decide +kernel
theorem dL_planSmooth_26 : decode cL_planSmooth 26 = .ok (.ireturn, 1) := by decide +kernel
theorem dL_planNear_0 : decode cL_planNear 0 = .ok (.aload_n 3, 1) := by decide +kernel
theorem dL_planNear_1 : decode cL_planNear 1 = .ok (.iconst 0, 1) := by decide +kernel
theorem dL_planNear_2 : decode cL_planNear 2 = .ok (.aload_n 0, 1) := by decide +kernel
theorem dL_planNear_3 : decode cL_planNear 3 = .ok (.iload_n 1, 1) := by decide +kernel
theorem dL_planNear_4 : decode cL_planNear 4 = .ok (.iload_n 2, 1) := by decide +kernel
theorem dL_planNear_5 : decode cL_planNear 5 = .ok (.invokevirtual 109, 3) := by decide +kernel
theorem dL_planNear_8 : decode cL_planNear 8 = .ok (.i2l, 1) := by decide +kernel
theorem dL_planNear_9 : decode cL_planNear 9 = .ok (.lastore, 1) := by decide +kernel
theorem dL_planNear_10 : decode cL_planNear 10 = .ok (.goto 15, 3) := by decide +kernel
theorem dL_planNear_13 : decode cL_planNear 13 = .ok (.astore 4, 2) := by decide +kernel
theorem dL_planNear_15 : decode cL_planNear 15 = .ok (.iconst 1, 1) := by decide +kernel
theorem dL_planNear_16 : decode cL_planNear 16 = .ok (.ireturn, 1) := by decide +kernel
theorem dL_planNear_17 : decode cL_planNear 17 = .ok (.astore 4, 2) := by decide +kernel
theorem dL_planNear_19 : decode cL_planNear 19 = .ok (.iconst 2, 1) := by decide +kernel
theorem dL_planNear_20 : decode cL_planNear 20 = .ok (.ireturn, 1) := by decide +kernel
theorem dL_planNear_21 : decode cL_planNear 21 = .ok (.astore 4, 2) := by decide +kernel
theorem dL_planNear_23 : decode cL_planNear 23 = .ok (.iconst 3, 1) := by decide +kernel
theorem dL_planNear_24 : decode cL_planNear 24 = .ok (.ireturn, 1) := by decide +kernel
theorem dL_planNear_25 : decode cL_planNear 25 = .ok (.iconst 0, 1) := by decide +kernel
theorem dL_planNear_26 : decode cL_planNear 26 = .ok (.ireturn, 1) := by decide +kernel
theorem dL_pathLength_0 : decode cL_pathLength 0 = .ok (.aload_n 1, 1) := by decide +kernel
theorem dL_pathLength_1 : decode cL_pathLength 1 = .ok (.iconst 0, 1) := by decide +kernel
theorem dL_pathLength_2 : decode cL_pathLength 2 = .ok (.aload_n 0, 1) := by decide +kernel
theorem dL_pathLength_3 : decode cL_pathLength 3 = .ok (.invokevirtual 112, 3) := by decide +kernel
theorem dL_pathLength_6 : decode cL_pathLength 6 = .ok (.i2l, 1) := by decide +kernel
theorem dL_pathLength_7 : decode cL_pathLength 7 = .ok (.lastore, 1) := by decide +kernel
theorem dL_pathLength_8 : decode cL_pathLength 8 = .ok (.goto 6, 3) := by decide +kernel
theorem dL_pathLength_11 : decode cL_pathLength 11 = .ok (.astore_n 2, 1) := by decide +kernel
theorem dL_pathLength_12 : decode cL_pathLength 12 = .ok (.iconst 1, 1) := by decide +kernel
theorem dL_pathLength_13 : decode cL_pathLength 13 = .ok (.ireturn, 1) := by decide +kernel
theorem dL_pathLength_14 : decode cL_pathLength 14 = .ok (.iconst 0, 1) := by decide +kernel
theorem dL_pathLength_15 : decode cL_pathLength 15 = .ok (.ireturn, 1) := by decide +kernel
theorem dL_pathMove_0 : decode cL_pathMove 0 = .ok (.aload_n 2, 1) := by decide +kernel
theorem dL_pathMove_1 : decode cL_pathMove 1 = .ok (.iconst 0, 1) := by decide +kernel
theorem dL_pathMove_2 : decode cL_pathMove 2 = .ok (.aload_n 0, 1) := by decide +kernel
theorem dL_pathMove_3 : decode cL_pathMove 3 = .ok (.iload_n 1, 1) := by decide +kernel
theorem dL_pathMove_4 : decode cL_pathMove 4 = .ok (.invokevirtual 115, 3) := by decide +kernel
theorem dL_pathMove_7 : decode cL_pathMove 7 = .ok (.i2l, 1) := by decide +kernel
theorem dL_pathMove_8 : decode cL_pathMove 8 = .ok (.lastore, 1) := by decide +kernel
theorem dL_pathMove_9 : decode cL_pathMove 9 = .ok (.goto 6, 3) := by decide +kernel
theorem dL_pathMove_12 : decode cL_pathMove 12 = .ok (.astore_n 3, 1) := by decide +kernel
theorem dL_pathMove_13 : decode cL_pathMove 13 = .ok (.iconst 1, 1) := by decide +kernel
theorem dL_pathMove_14 : decode cL_pathMove 14 = .ok (.ireturn, 1) := by decide +kernel
theorem dL_pathMove_15 : decode cL_pathMove 15 = .ok (.iconst 0, 1) := by decide +kernel
theorem dL_pathMove_16 : decode cL_pathMove 16 = .ok (.ireturn, 1) := by decide +kernel
theorem dL_pathChanges_0 : decode cL_pathChanges 0 = .ok (.aload_n 1, 1) := by decide +kernel
theorem dL_pathChanges_1 : decode cL_pathChanges 1 = .ok (.iconst 0, 1) := by decide +kernel
theorem dL_pathChanges_2 : decode cL_pathChanges 2 = .ok (.aload_n 0, 1) := by decide +kernel
theorem dL_pathChanges_3 : decode cL_pathChanges 3 = .ok (.invokevirtual 118, 3) := by decide +kernel
theorem dL_pathChanges_6 : decode cL_pathChanges 6 = .ok (.i2l, 1) := by decide +kernel
theorem dL_pathChanges_7 : decode cL_pathChanges 7 = .ok (.lastore, 1) := by decide +kernel
theorem dL_pathChanges_8 : decode cL_pathChanges 8 = .ok (.goto 6, 3) := by decide +kernel
theorem dL_pathChanges_11 : decode cL_pathChanges 11 = .ok (.astore_n 2, 1) := by decide +kernel
theorem dL_pathChanges_12 : decode cL_pathChanges 12 = .ok (.iconst 1, 1) := by decide +kernel
theorem dL_pathChanges_13 : decode cL_pathChanges 13 = .ok (.ireturn, 1) := by decide +kernel
theorem dL_pathChanges_14 : decode cL_pathChanges 14 = .ok (.iconst 0, 1) := by decide +kernel
theorem dL_pathChanges_15 : decode cL_pathChanges 15 = .ok (.ireturn, 1) := by decide +kernel
theorem dL_follow_0 : decode cL_follow 0 = .ok (.aload_n 2, 1) := by decide +kernel
theorem dL_follow_1 : decode cL_follow 1 = .ok (.iconst 0, 1) := by decide +kernel
theorem dL_follow_2 : decode cL_follow 2 = .ok (.aload_n 0, 1) := by decide +kernel
theorem dL_follow_3 : decode cL_follow 3 = .ok (.iload_n 1, 1) := by decide +kernel
theorem dL_follow_4 : decode cL_follow 4 = .ok (.invokevirtual 121, 3) := by decide +kernel
theorem dL_follow_7 : decode cL_follow 7 = .ok (.i2l, 1) := by decide +kernel
theorem dL_follow_8 : decode cL_follow 8 = .ok (.lastore, 1) := by decide +kernel
theorem dL_follow_9 : decode cL_follow 9 = .ok (.goto 9, 3) := by decide +kernel
theorem dL_follow_12 : decode cL_follow 12 = .ok (.astore_n 3, 1) := by decide +kernel
theorem dL_follow_13 : decode cL_follow 13 = .ok (.iconst 1, 1) := by decide +kernel
theorem dL_follow_14 : decode cL_follow 14 = .ok (.ireturn, 1) := by decide +kernel
theorem dL_follow_15 : decode cL_follow 15 = .ok (.astore_n 3, 1) := by decide +kernel
theorem dL_follow_16 : decode cL_follow 16 = .ok (.iconst 2, 1) := by decide +kernel
theorem dL_follow_17 : decode cL_follow 17 = .ok (.ireturn, 1) := by decide +kernel
theorem dL_follow_18 : decode cL_follow 18 = .ok (.iconst 0, 1) := by decide +kernel
theorem dL_follow_19 : decode cL_follow 19 = .ok (.ireturn, 1) := by decide +kernel
theorem dL_back_0 : decode cL_back 0 = .ok (.aload_n 2, 1) := by decide +kernel
theorem dL_back_1 : decode cL_back 1 = .ok (.iconst 0, 1) := by decide +kernel
theorem dL_back_2 : decode cL_back 2 = .ok (.aload_n 0, 1) := by decide +kernel
theorem dL_back_3 : decode cL_back 3 = .ok (.iload_n 1, 1) := by decide +kernel
theorem dL_back_4 : decode cL_back 4 = .ok (.invokevirtual 124, 3) := by decide +kernel
theorem dL_back_7 : decode cL_back 7 = .ok (.i2l, 1) := by decide +kernel
theorem dL_back_8 : decode cL_back 8 = .ok (.lastore, 1) := by decide +kernel
theorem dL_back_9 : decode cL_back 9 = .ok (.goto 9, 3) := by decide +kernel
theorem dL_back_12 : decode cL_back 12 = .ok (.astore_n 3, 1) := by decide +kernel
theorem dL_back_13 : decode cL_back 13 = .ok (.iconst 1, 1) := by decide +kernel
theorem dL_back_14 : decode cL_back 14 = .ok (.ireturn, 1) := by decide +kernel
theorem dL_back_15 : decode cL_back 15 = .ok (.astore_n 3, 1) := by decide +kernel
theorem dL_back_16 : decode cL_back 16 = .ok (.iconst 2, 1) := by decide +kernel
theorem dL_back_17 : decode cL_back 17 = .ok (.ireturn, 1) := by decide +kernel
theorem dL_back_18 : decode cL_back 18 = .ok (.iconst 0, 1) := by decide +kernel
theorem dL_back_19 : decode cL_back 19 = .ok (.ireturn, 1) := by decide +kernel
theorem dL_pathCells_0 : decode cL_pathCells 0 = .ok (.aload_n 1, 1) := by decide +kernel
theorem dL_pathCells_1 : decode cL_pathCells 1 = .ok (.iconst 0, 1) := by decide +kernel
theorem dL_pathCells_2 : decode cL_pathCells 2 = .ok (.aload_n 0, 1) := by decide +kernel
theorem dL_pathCells_3 : decode cL_pathCells 3 = .ok (.invokevirtual 127, 3) := by decide +kernel
theorem dL_pathCells_6 : decode cL_pathCells 6 = .ok (.i2l, 1) := by decide +kernel
theorem dL_pathCells_7 : decode cL_pathCells 7 = .ok (.lastore, 1) := by decide +kernel
theorem dL_pathCells_8 : decode cL_pathCells 8 = .ok (.goto 6, 3) := by decide +kernel
theorem dL_pathCells_11 : decode cL_pathCells 11 = .ok (.astore_n 2, 1) := by decide +kernel
theorem dL_pathCells_12 : decode cL_pathCells 12 = .ok (.iconst 1, 1) := by decide +kernel
theorem dL_pathCells_13 : decode cL_pathCells 13 = .ok (.ireturn, 1) := by decide +kernel
theorem dL_pathCells_14 : decode cL_pathCells 14 = .ok (.iconst 0, 1) := by decide +kernel
theorem dL_pathCells_15 : decode cL_pathCells 15 = .ok (.ireturn, 1) := by decide +kernel
theorem dL_bookmark_0 : decode cL_bookmark 0 = .ok (.aload_n 2, 1) := by decide +kernel
theorem dL_bookmark_1 : decode cL_bookmark 1 = .ok (.iconst 0, 1) := by decide +kernel
theorem dL_bookmark_2 : decode cL_bookmark 2 = .ok (.aload_n 0, 1) := by decide +kernel
theorem dL_bookmark_3 : decode cL_bookmark 3 = .ok (.iload_n 1, 1) := by decide +kernel
theorem dL_bookmark_4 : decode cL_bookmark 4 = .ok (.invokevirtual 130, 3) := by decide +kernel
theorem dL_bookmark_7 : decode cL_bookmark 7 = .ok (.i2l, 1) := by decide +kernel
theorem dL_bookmark_8 : decode cL_bookmark 8 = .ok (.lastore, 1) := by decide +kernel
theorem dL_bookmark_9 : decode cL_bookmark 9 = .ok (.goto 9, 3) := by decide +kernel
theorem dL_bookmark_12 : decode cL_bookmark 12 = .ok (.astore_n 3, 1) := by decide +kernel
theorem dL_bookmark_13 : decode cL_bookmark 13 = .ok (.iconst 1, 1) := by decide +kernel
theorem dL_bookmark_14 : decode cL_bookmark 14 = .ok (.ireturn, 1) := by decide +kernel
theorem dL_bookmark_15 : decode cL_bookmark 15 = .ok (.astore_n 3, 1) := by decide +kernel
theorem dL_bookmark_16 : decode cL_bookmark 16 = .ok (.iconst 2, 1) := by decide +kernel
theorem dL_bookmark_17 : decode cL_bookmark 17 = .ok (.ireturn, 1) := by decide +kernel
theorem dL_bookmark_18 : decode cL_bookmark 18 = .ok (.iconst 0, 1) := by decide +kernel
theorem dL_bookmark_19 : decode cL_bookmark 19 = .ok (.ireturn, 1) := by decide +kernel
theorem dL_planToName_0 : decode cL_planToName 0 = .ok (.aload_n 2, 1) := by decide +kernel
theorem dL_planToName_1 : decode cL_planToName 1 = .ok (.iconst 0, 1) := by decide +kernel
theorem dL_planToName_2 : decode cL_planToName 2 = .ok (.aload_n 0, 1) := by decide +kernel
theorem dL_planToName_3 : decode cL_planToName 3 = .ok (.iload_n 1, 1) := by decide +kernel
theorem dL_planToName_4 : decode cL_planToName 4 = .ok (.invokevirtual 134, 3) := by decide +kernel
theorem dL_planToName_7 : decode cL_planToName 7 = .ok (.i2l, 1) := by decide +kernel
theorem dL_planToName_8 : decode cL_planToName 8 = .ok (.lastore, 1) := by decide +kernel
theorem dL_planToName_9 : decode cL_planToName 9 = .ok (.goto 15, 3) := by decide +kernel
theorem dL_planToName_12 : decode cL_planToName 12 = .ok (.astore_n 3, 1) := by decide +kernel
theorem dL_planToName_13 : decode cL_planToName 13 = .ok (.iconst 1, 1) := by decide +kernel
theorem dL_planToName_14 : decode cL_planToName 14 = .ok (.ireturn, 1) := by decide +kernel
theorem dL_planToName_15 : decode cL_planToName 15 = .ok (.astore_n 3, 1) := by decide +kernel
theorem dL_planToName_16 : decode cL_planToName 16 = .ok (.iconst 2, 1) := by decide +kernel
theorem dL_planToName_17 : decode cL_planToName 17 = .ok (.ireturn, 1) := by decide +kernel
theorem dL_planToName_18 : decode cL_planToName 18 = .ok (.astore_n 3, 1) := by decide +kernel
theorem dL_planToName_19 : decode cL_planToName 19 = .ok (.iconst 3, 1) := by decide +kernel
theorem dL_planToName_20 : decode cL_planToName 20 = .ok (.ireturn, 1) := by decide +kernel
theorem dL_planToName_21 : decode cL_planToName 21 = .ok (.astore_n 3, 1) := by decide +kernel
theorem dL_planToName_22 : decode cL_planToName 22 = .ok (.iconst 4, 1) := by decide +kernel
theorem dL_planToName_23 : decode cL_planToName 23 = .ok (.ireturn, 1) := by decide +kernel
theorem dL_planToName_24 : decode cL_planToName 24 = .ok (.iconst 0, 1) := by decide +kernel
theorem dL_planToName_25 : decode cL_planToName 25 = .ok (.ireturn, 1) := by decide +kernel
theorem dL_append_0 : decode cL_append 0 = .ok (.aload_n 2, 1) := by decide +kernel
theorem dL_append_1 : decode cL_append 1 = .ok (.iconst 0, 1) := by decide +kernel
theorem dL_append_2 : decode cL_append 2 = .ok (.aload_n 0, 1) := by decide +kernel
theorem dL_append_3 : decode cL_append 3 = .ok (.iload_n 1, 1) := by decide +kernel
theorem dL_append_4 : decode cL_append 4 = .ok (.invokevirtual 139, 3) := by decide +kernel
theorem dL_append_7 : decode cL_append 7 = .ok (.i2l, 1) := by decide +kernel
theorem dL_append_8 : decode cL_append 8 = .ok (.lastore, 1) := by decide +kernel
theorem dL_append_9 : decode cL_append 9 = .ok (.goto 9, 3) := by decide +kernel
theorem dL_append_12 : decode cL_append 12 = .ok (.astore_n 3, 1) := by decide +kernel
theorem dL_append_13 : decode cL_append 13 = .ok (.iconst 1, 1) := by decide +kernel
theorem dL_append_14 : decode cL_append 14 = .ok (.ireturn, 1) := by decide +kernel
theorem dL_append_15 : decode cL_append 15 = .ok (.astore_n 3, 1) := by decide +kernel
theorem dL_append_16 : decode cL_append 16 = .ok (.iconst 2, 1) := by decide +kernel
theorem dL_append_17 : decode cL_append 17 = .ok (.ireturn, 1) := by decide +kernel
theorem dL_append_18 : decode cL_append 18 = .ok (.iconst 0, 1) := by decide +kernel
theorem dL_append_19 : decode cL_append 19 = .ok (.ireturn, 1) := by decide +kernel
theorem dL_read_0 : decode cL_read 0 = .ok (.aload_n 1, 1) := by decide +kernel
theorem dL_read_1 : decode cL_read 1 = .ok (.iconst 0, 1) := by decide +kernel
theorem dL_read_2 : decode cL_read 2 = .ok (.aload_n 0, 1) := by decide +kernel
theorem dL_read_3 : decode cL_read 3 = .ok (.invokevirtual 142, 3) := by decide +kernel
theorem dL_read_6 : decode cL_read 6 = .ok (.i2l, 1) := by decide +kernel
theorem dL_read_7 : decode cL_read 7 = .ok (.lastore, 1) := by decide +kernel
theorem dL_read_8 : decode cL_read 8 = .ok (.goto 9, 3) := by decide +kernel
theorem dL_read_11 : decode cL_read 11 = .ok (.astore_n 2, 1) := by decide +kernel
theorem dL_read_12 : decode cL_read 12 = .ok (.iconst 1, 1) := by decide +kernel
theorem dL_read_13 : decode cL_read 13 = .ok (.ireturn, 1) := by decide +kernel
theorem dL_read_14 : decode cL_read 14 = .ok (.astore_n 2, 1) := by decide +kernel
theorem dL_read_15 : decode cL_read 15 = .ok (.iconst 2, 1) := by decide +kernel
theorem dL_read_16 : decode cL_read 16 = .ok (.ireturn, 1) := by decide +kernel
theorem dL_read_17 : decode cL_read 17 = .ok (.iconst 0, 1) := by decide +kernel
theorem dL_read_18 : decode cL_read 18 = .ok (.ireturn, 1) := by decide +kernel
theorem dL_errorPosition_0 : decode cL_errorPosition 0 = .ok (.aload_n 1, 1) := by decide +kernel
theorem dL_errorPosition_1 : decode cL_errorPosition 1 = .ok (.iconst 0, 1) := by decide +kernel
theorem dL_errorPosition_2 : decode cL_errorPosition 2 = .ok (.aload_n 0, 1) := by decide +kernel
theorem dL_errorPosition_3 : decode cL_errorPosition 3 = .ok (.invokevirtual 145, 3) := by decide +kernel
theorem dL_errorPosition_6 : decode cL_errorPosition 6 = .ok (.i2l, 1) := by decide +kernel
theorem dL_errorPosition_7 : decode cL_errorPosition 7 = .ok (.lastore, 1) := by decide +kernel
theorem dL_errorPosition_8 : decode cL_errorPosition 8 = .ok (.goto 6, 3) := by decide +kernel
theorem dL_errorPosition_11 : decode cL_errorPosition 11 = .ok (.astore_n 2, 1) := by decide +kernel
theorem dL_errorPosition_12 : decode cL_errorPosition 12 = .ok (.iconst 1, 1) := by decide +kernel
theorem dL_errorPosition_13 : decode cL_errorPosition 13 = .ok (.ireturn, 1) := by decide +kernel
theorem dL_errorPosition_14 : decode cL_errorPosition 14 = .ok (.iconst 0, 1) := by decide +kernel
theorem dL_errorPosition_15 : decode cL_errorPosition 15 = .ok (.ireturn, 1) := by decide +kernel
theorem dL_undo_0 : decode cL_undo 0 = .ok (.aload_n 1, 1) := by decide +kernel
theorem dL_undo_1 : decode cL_undo 1 = .ok (.iconst 0, 1) := by decide +kernel
theorem dL_undo_2 : decode cL_undo 2 = .ok (.aload_n 0, 1) := by decide +kernel
theorem dL_undo_3 : decode cL_undo 3 = .ok (.invokevirtual 148, 3) := by decide +kernel
theorem dL_undo_6 : decode cL_undo 6 = .ok (.i2l, 1) := by decide +kernel
theorem dL_undo_7 : decode cL_undo 7 = .ok (.lastore, 1) := by decide +kernel
theorem dL_undo_8 : decode cL_undo 8 = .ok (.goto 6, 3) := by decide +kernel
theorem dL_undo_11 : decode cL_undo 11 = .ok (.astore_n 2, 1) := by decide +kernel
theorem dL_undo_12 : decode cL_undo 12 = .ok (.iconst 1, 1) := by decide +kernel
theorem dL_undo_13 : decode cL_undo 13 = .ok (.ireturn, 1) := by decide +kernel
theorem dL_undo_14 : decode cL_undo 14 = .ok (.iconst 0, 1) := by decide +kernel
theorem dL_undo_15 : decode cL_undo 15 = .ok (.ireturn, 1) := by decide +kernel
theorem dL_restore_0 : decode cL_restore 0 = .ok (.aload_n 1, 1) := by decide +kernel
theorem dL_restore_1 : decode cL_restore 1 = .ok (.iconst 0, 1) := by decide +kernel
theorem dL_restore_2 : decode cL_restore 2 = .ok (.aload_n 0, 1) := by decide +kernel
theorem dL_restore_3 : decode cL_restore 3 = .ok (.invokevirtual 151, 3) := by decide +kernel
theorem dL_restore_6 : decode cL_restore 6 = .ok (.i2l, 1) := by decide +kernel
theorem dL_restore_7 : decode cL_restore 7 = .ok (.lastore, 1) := by decide +kernel
theorem dL_restore_8 : decode cL_restore 8 = .ok (.goto 6, 3) := by decide +kernel
theorem dL_restore_11 : decode cL_restore 11 = .ok (.astore_n 2, 1) := by decide +kernel
theorem dL_restore_12 : decode cL_restore 12 = .ok (.iconst 1, 1) := by decide +kernel
theorem dL_restore_13 : decode cL_restore 13 = .ok (.ireturn, 1) := by decide +kernel
theorem dL_restore_14 : decode cL_restore 14 = .ok (.iconst 0, 1) := by decide +kernel
theorem dL_restore_15 : decode cL_restore 15 = .ok (.ireturn, 1) := by decide +kernel
theorem dL_law_0 : decode cL_law 0 = .ok (.new 8, 3) := by decide +kernel
theorem dL_law_3 : decode cL_law 3 = .ok (.dup, 1) := by decide +kernel
theorem dL_law_4 : decode cL_law 4 = .ok (.invokespecial 154, 3) := by decide +kernel
theorem dL_law_7 : decode cL_law 7 = .ok (.astore_n 1, 1) := by decide +kernel
theorem dL_law_8 : decode cL_law 8 = .ok (.new 155, 3) := by decide +kernel
theorem dL_law_11 : decode cL_law 11 = .ok (.dup, 1) := by decide +kernel
theorem dL_law_12 : decode cL_law 12 = .ok (.invokespecial 157, 3) := by decide +kernel
theorem dL_law_15 : decode cL_law 15 = .ok (.astore_n 2, 1) := by decide +kernel
theorem dL_law_16 : decode cL_law 16 = .ok (.iconst 1, 1) := by decide +kernel
theorem dL_law_17 : decode cL_law 17 = .ok (.newarray .long, 2) := by decide +kernel
theorem dL_law_19 : decode cL_law 19 = .ok (.astore_n 3, 1) := by decide +kernel
theorem dL_law_20 : decode cL_law 20 = .ok (.iconst 1, 1) := by decide +kernel
theorem dL_law_21 : decode cL_law 21 = .ok (.newarray .double, 2) := by decide +kernel
theorem dL_law_23 : decode cL_law 23 = .ok (.astore 4, 2) := by decide +kernel
theorem dL_law_25 : decode cL_law 25 = .ok (.iconst 0, 1) := by decide +kernel
theorem dL_law_26 : decode cL_law 26 = .ok (.istore 5, 2) := by decide +kernel
theorem dL_law_28 : decode cL_law 28 = .ok (.iload 5, 2) := by decide +kernel
theorem dL_law_30 : decode cL_law 30 = .ok (.aload_n 0, 1) := by decide +kernel
theorem dL_law_31 : decode cL_law 31 = .ok (.arraylength, 1) := by decide +kernel
theorem dL_law_32 : decode cL_law 32 = .ok (.iconst 4, 1) := by decide +kernel
theorem dL_law_33 : decode cL_law 33 = .ok (.isub, 1) := by decide +kernel
theorem dL_law_34 : decode cL_law 34 = .ok (.if_icmp .gt 2712, 3) := by decide +kernel
theorem dL_law_37 : decode cL_law 37 = .ok (.aload_n 0, 1) := by decide +kernel
theorem dL_law_38 : decode cL_law 38 = .ok (.iload 5, 2) := by decide +kernel
theorem dL_law_40 : decode cL_law 40 = .ok (.iaload, 1) := by decide +kernel
theorem dL_law_41 : decode cL_law 41 = .ok (.bipush 63, 2) := by decide +kernel
theorem dL_law_43 : decode cL_law 43 = .ok (.iand, 1) := by decide +kernel
theorem dL_law_44 : decode cL_law 44 = .ok (.tableswitch 2696 0 47 #[208, 221, 301, 345, 425, 493, 561, 617, 685, 760, 844, 912, 968, 981, 1022, 1035, 1079, 1147, 1160, 1204, 1217, 1261, 1329, 1392, 1460, 1504, 1548, 1620, 1664, 1708, 1773, 1829, 1897, 1965, 2033, 2077, 2133, 2177, 2233, 2289, 2333, 2391, 2449, 2507, 2551, 2595, 2639, 2652], 208) := by decide +kernel
theorem dL_law_252 : decode cL_law 252 = .ok (.aload_n 1, 1) := by decide +kernel
theorem dL_law_253 : decode cL_law 253 = .ok (.invokevirtual 158, 3) := by decide +kernel
theorem dL_law_256 : decode cL_law 256 = .ok (.aload_n 2, 1) := by decide +kernel
theorem dL_law_257 : decode cL_law 257 = .ok (.invokevirtual 161, 3) := by decide +kernel
theorem dL_law_260 : decode cL_law 260 = .ok (.if_icmp .eq 2480, 3) := by decide +kernel
theorem dL_law_263 : decode cL_law 263 = .ok (.iconst 0, 1) := by decide +kernel
theorem dL_law_264 : decode cL_law 264 = .ok (.ireturn, 1) := by decide +kernel
theorem dL_law_265 : decode cL_law 265 = .ok (.aload_n 1, 1) := by decide +kernel
theorem dL_law_266 : decode cL_law 266 = .ok (.aload_n 0, 1) := by decide +kernel
theorem dL_law_267 : decode cL_law 267 = .ok (.iload 5, 2) := by decide +kernel
theorem dL_law_269 : decode cL_law 269 = .ok (.iconst 1, 1) := by decide +kernel
theorem dL_law_270 : decode cL_law 270 = .ok (.iadd, 1) := by decide +kernel
theorem dL_law_271 : decode cL_law 271 = .ok (.iaload, 1) := by decide +kernel
theorem dL_law_272 : decode cL_law 272 = .ok (.aload_n 0, 1) := by decide +kernel
theorem dL_law_273 : decode cL_law 273 = .ok (.iload 5, 2) := by decide +kernel
theorem dL_law_275 : decode cL_law 275 = .ok (.iconst 2, 1) := by decide +kernel
theorem dL_law_276 : decode cL_law 276 = .ok (.iadd, 1) := by decide +kernel
theorem dL_law_277 : decode cL_law 277 = .ok (.iaload, 1) := by decide +kernel
theorem dL_law_278 : decode cL_law 278 = .ok (.aload_n 0, 1) := by decide +kernel
theorem dL_law_279 : decode cL_law 279 = .ok (.iload 5, 2) := by decide +kernel
theorem dL_law_281 : decode cL_law 281 = .ok (.iconst 3, 1) := by decide +kernel
theorem dL_law_282 : decode cL_law 282 = .ok (.iadd, 1) := by decide +kernel
theorem dL_law_283 : decode cL_law 283 = .ok (.iaload, 1) := by decide +kernel
theorem dL_law_284 : decode cL_law 284 = .ok (.aload_n 3, 1) := by decide +kernel
theorem dL_law_285 : decode cL_law 285 = .ok (.invokestatic 162, 3) := by decide +kernel
theorem dL_law_288 : decode cL_law 288 = .ok (.istore 6, 2) := by decide +kernel
theorem dL_law_290 : decode cL_law 290 = .ok (.aload_n 2, 1) := by decide +kernel
theorem dL_law_291 : decode cL_law 291 = .ok (.aload_n 0, 1) := by decide +kernel
theorem dL_law_292 : decode cL_law 292 = .ok (.iload 5, 2) := by decide +kernel
theorem dL_law_294 : decode cL_law 294 = .ok (.iconst 1, 1) := by decide +kernel
theorem dL_law_295 : decode cL_law 295 = .ok (.iadd, 1) := by decide +kernel
theorem dL_law_296 : decode cL_law 296 = .ok (.iaload, 1) := by decide +kernel
theorem dL_law_297 : decode cL_law 297 = .ok (.aload_n 0, 1) := by decide +kernel
theorem dL_law_298 : decode cL_law 298 = .ok (.iload 5, 2) := by decide +kernel
theorem dL_law_300 : decode cL_law 300 = .ok (.iconst 2, 1) := by decide +kernel
theorem dL_law_301 : decode cL_law 301 = .ok (.iadd, 1) := by decide +kernel
theorem dL_law_302 : decode cL_law 302 = .ok (.iaload, 1) := by decide +kernel
theorem dL_law_303 : decode cL_law 303 = .ok (.aload_n 0, 1) := by decide +kernel
theorem dL_law_304 : decode cL_law 304 = .ok (.iload 5, 2) := by decide +kernel
theorem dL_law_306 : decode cL_law 306 = .ok (.iconst 3, 1) := by decide +kernel
theorem dL_law_307 : decode cL_law 307 = .ok (.iadd, 1) := by decide +kernel
theorem dL_law_308 : decode cL_law 308 = .ok (.iaload, 1) := by decide +kernel
theorem dL_law_309 : decode cL_law 309 = .ok (.invokevirtual 167, 3) := by decide +kernel
theorem dL_law_312 : decode cL_law 312 = .ok (.istore 7, 2) := by decide +kernel
theorem dL_law_314 : decode cL_law 314 = .ok (.aload_n 2, 1) := by decide +kernel
theorem dL_law_315 : decode cL_law 315 = .ok (.invokevirtual 168, 3) := by decide +kernel
theorem dL_law_318 : decode cL_law 318 = .ok (.iload 6, 2) := by decide +kernel
theorem dL_law_320 : decode cL_law 320 = .ok (.if_icmp .eq 5, 3) := by decide +kernel
theorem dL_law_323 : decode cL_law 323 = .ok (.iconst 0, 1) := by decide +kernel
theorem dL_law_324 : decode cL_law 324 = .ok (.ireturn, 1) := by decide +kernel
theorem dL_law_325 : decode cL_law 325 = .ok (.iload 6, 2) := by decide +kernel
theorem dL_law_327 : decode cL_law 327 = .ok (.ifCond .ne 15, 3) := by decide +kernel
theorem dL_law_330 : decode cL_law 330 = .ok (.aload_n 3, 1) := by decide +kernel
theorem dL_law_331 : decode cL_law 331 = .ok (.iconst 0, 1) := by decide +kernel
theorem dL_law_332 : decode cL_law 332 = .ok (.laload, 1) := by decide +kernel
theorem dL_law_333 : decode cL_law 333 = .ok (.iload 7, 2) := by decide +kernel
theorem dL_law_335 : decode cL_law 335 = .ok (.i2l, 1) := by decide +kernel
theorem dL_law_336 : decode cL_law 336 = .ok (.lcmp, 1) := by decide +kernel
theorem dL_law_337 : decode cL_law 337 = .ok (.ifCond .eq 5, 3) := by decide +kernel
theorem dL_law_340 : decode cL_law 340 = .ok (.iconst 0, 1) := by decide +kernel
theorem dL_law_341 : decode cL_law 341 = .ok (.ireturn, 1) := by decide +kernel
theorem dL_law_342 : decode cL_law 342 = .ok (.goto 2398, 3) := by decide +kernel
theorem dL_law_345 : decode cL_law 345 = .ok (.aload_n 1, 1) := by decide +kernel
theorem dL_law_346 : decode cL_law 346 = .ok (.aload_n 3, 1) := by decide +kernel
theorem dL_law_347 : decode cL_law 347 = .ok (.invokestatic 171, 3) := by decide +kernel
theorem dL_law_350 : decode cL_law 350 = .ok (.istore 6, 2) := by decide +kernel
theorem dL_law_352 : decode cL_law 352 = .ok (.aload_n 2, 1) := by decide +kernel
theorem dL_law_353 : decode cL_law 353 = .ok (.invokevirtual 174, 3) := by decide +kernel
theorem dL_law_356 : decode cL_law 356 = .ok (.istore 7, 2) := by decide +kernel
theorem dL_law_358 : decode cL_law 358 = .ok (.aload_n 2, 1) := by decide +kernel
theorem dL_law_359 : decode cL_law 359 = .ok (.invokevirtual 168, 3) := by decide +kernel
theorem dL_law_362 : decode cL_law 362 = .ok (.iload 6, 2) := by decide +kernel
theorem dL_law_364 : decode cL_law 364 = .ok (.if_icmp .eq 5, 3) := by decide +kernel
theorem dL_law_367 : decode cL_law 367 = .ok (.iconst 0, 1) := by decide +kernel
theorem dL_law_368 : decode cL_law 368 = .ok (.ireturn, 1) := by decide +kernel
theorem dL_law_369 : decode cL_law 369 = .ok (.iload 6, 2) := by decide +kernel
theorem dL_law_371 : decode cL_law 371 = .ok (.ifCond .ne 15, 3) := by decide +kernel
theorem dL_law_374 : decode cL_law 374 = .ok (.aload_n 3, 1) := by decide +kernel
theorem dL_law_375 : decode cL_law 375 = .ok (.iconst 0, 1) := by decide +kernel
theorem dL_law_376 : decode cL_law 376 = .ok (.laload, 1) := by decide +kernel
theorem dL_law_377 : decode cL_law 377 = .ok (.iload 7, 2) := by decide +kernel
theorem dL_law_379 : decode cL_law 379 = .ok (.i2l, 1) := by decide +kernel
theorem dL_law_380 : decode cL_law 380 = .ok (.lcmp, 1) := by decide +kernel
theorem dL_law_381 : decode cL_law 381 = .ok (.ifCond .eq 5, 3) := by decide +kernel
theorem dL_law_384 : decode cL_law 384 = .ok (.iconst 0, 1) := by decide +kernel
theorem dL_law_385 : decode cL_law 385 = .ok (.ireturn, 1) := by decide +kernel
theorem dL_law_386 : decode cL_law 386 = .ok (.goto 2354, 3) := by decide +kernel
theorem dL_law_389 : decode cL_law 389 = .ok (.aload_n 1, 1) := by decide +kernel
theorem dL_law_390 : decode cL_law 390 = .ok (.aload_n 0, 1) := by decide +kernel
theorem dL_law_391 : decode cL_law 391 = .ok (.iload 5, 2) := by decide +kernel
theorem dL_law_393 : decode cL_law 393 = .ok (.iconst 1, 1) := by decide +kernel
theorem dL_law_394 : decode cL_law 394 = .ok (.iadd, 1) := by decide +kernel
theorem dL_law_395 : decode cL_law 395 = .ok (.iaload, 1) := by decide +kernel
theorem dL_law_396 : decode cL_law 396 = .ok (.aload_n 0, 1) := by decide +kernel
theorem dL_law_397 : decode cL_law 397 = .ok (.iload 5, 2) := by decide +kernel
theorem dL_law_399 : decode cL_law 399 = .ok (.iconst 2, 1) := by decide +kernel
theorem dL_law_400 : decode cL_law 400 = .ok (.iadd, 1) := by decide +kernel
theorem dL_law_401 : decode cL_law 401 = .ok (.iaload, 1) := by decide +kernel
theorem dL_law_402 : decode cL_law 402 = .ok (.aload_n 0, 1) := by decide +kernel
theorem dL_law_403 : decode cL_law 403 = .ok (.iload 5, 2) := by decide +kernel
theorem dL_law_405 : decode cL_law 405 = .ok (.iconst 3, 1) := by decide +kernel
theorem dL_law_406 : decode cL_law 406 = .ok (.iadd, 1) := by decide +kernel
theorem dL_law_407 : decode cL_law 407 = .ok (.iaload, 1) := by decide +kernel
theorem dL_law_408 : decode cL_law 408 = .ok (.aload_n 3, 1) := by decide +kernel
theorem dL_law_409 : decode cL_law 409 = .ok (.invokestatic 175, 3) := by decide +kernel
theorem dL_law_412 : decode cL_law 412 = .ok (.istore 6, 2) := by decide +kernel
theorem dL_law_414 : decode cL_law 414 = .ok (.aload_n 2, 1) := by decide +kernel
theorem dL_law_415 : decode cL_law 415 = .ok (.aload_n 0, 1) := by decide +kernel
theorem dL_law_416 : decode cL_law 416 = .ok (.iload 5, 2) := by decide +kernel
theorem dL_law_418 : decode cL_law 418 = .ok (.iconst 1, 1) := by decide +kernel
theorem dL_law_419 : decode cL_law 419 = .ok (.iadd, 1) := by decide +kernel
theorem dL_law_420 : decode cL_law 420 = .ok (.iaload, 1) := by decide +kernel
theorem dL_law_421 : decode cL_law 421 = .ok (.aload_n 0, 1) := by decide +kernel
theorem dL_law_422 : decode cL_law 422 = .ok (.iload 5, 2) := by decide +kernel
theorem dL_law_424 : decode cL_law 424 = .ok (.iconst 2, 1) := by decide +kernel
theorem dL_law_425 : decode cL_law 425 = .ok (.iadd, 1) := by decide +kernel
theorem dL_law_426 : decode cL_law 426 = .ok (.iaload, 1) := by decide +kernel
theorem dL_law_427 : decode cL_law 427 = .ok (.aload_n 0, 1) := by decide +kernel
theorem dL_law_428 : decode cL_law 428 = .ok (.iload 5, 2) := by decide +kernel
theorem dL_law_430 : decode cL_law 430 = .ok (.iconst 3, 1) := by decide +kernel
theorem dL_law_431 : decode cL_law 431 = .ok (.iadd, 1) := by decide +kernel
theorem dL_law_432 : decode cL_law 432 = .ok (.iaload, 1) := by decide +kernel
theorem dL_law_433 : decode cL_law 433 = .ok (.invokevirtual 177, 3) := by decide +kernel
theorem dL_law_436 : decode cL_law 436 = .ok (.istore 7, 2) := by decide +kernel
theorem dL_law_438 : decode cL_law 438 = .ok (.aload_n 2, 1) := by decide +kernel
theorem dL_law_439 : decode cL_law 439 = .ok (.invokevirtual 168, 3) := by decide +kernel
theorem dL_law_442 : decode cL_law 442 = .ok (.iload 6, 2) := by decide +kernel
theorem dL_law_444 : decode cL_law 444 = .ok (.if_icmp .eq 5, 3) := by decide +kernel
theorem dL_law_447 : decode cL_law 447 = .ok (.iconst 0, 1) := by decide +kernel
theorem dL_law_448 : decode cL_law 448 = .ok (.ireturn, 1) := by decide +kernel
theorem dL_law_449 : decode cL_law 449 = .ok (.iload 6, 2) := by decide +kernel
theorem dL_law_451 : decode cL_law 451 = .ok (.ifCond .ne 15, 3) := by decide +kernel
theorem dL_law_454 : decode cL_law 454 = .ok (.aload_n 3, 1) := by decide +kernel
theorem dL_law_455 : decode cL_law 455 = .ok (.iconst 0, 1) := by decide +kernel
theorem dL_law_456 : decode cL_law 456 = .ok (.laload, 1) := by decide +kernel
theorem dL_law_457 : decode cL_law 457 = .ok (.iload 7, 2) := by decide +kernel
theorem dL_law_459 : decode cL_law 459 = .ok (.i2l, 1) := by decide +kernel
theorem dL_law_460 : decode cL_law 460 = .ok (.lcmp, 1) := by decide +kernel
theorem dL_law_461 : decode cL_law 461 = .ok (.ifCond .eq 5, 3) := by decide +kernel
theorem dL_law_464 : decode cL_law 464 = .ok (.iconst 0, 1) := by decide +kernel
theorem dL_law_465 : decode cL_law 465 = .ok (.ireturn, 1) := by decide +kernel
theorem dL_law_466 : decode cL_law 466 = .ok (.goto 2274, 3) := by decide +kernel
theorem dL_law_469 : decode cL_law 469 = .ok (.aload_n 1, 1) := by decide +kernel
theorem dL_law_470 : decode cL_law 470 = .ok (.aload_n 0, 1) := by decide +kernel
theorem dL_law_471 : decode cL_law 471 = .ok (.iload 5, 2) := by decide +kernel
theorem dL_law_473 : decode cL_law 473 = .ok (.iconst 1, 1) := by decide +kernel
theorem dL_law_474 : decode cL_law 474 = .ok (.iadd, 1) := by decide +kernel
theorem dL_law_475 : decode cL_law 475 = .ok (.iaload, 1) := by decide +kernel
theorem dL_law_476 : decode cL_law 476 = .ok (.aload_n 0, 1) := by decide +kernel
theorem dL_law_477 : decode cL_law 477 = .ok (.iload 5, 2) := by decide +kernel
theorem dL_law_479 : decode cL_law 479 = .ok (.iconst 2, 1) := by decide +kernel
theorem dL_law_480 : decode cL_law 480 = .ok (.iadd, 1) := by decide +kernel
theorem dL_law_481 : decode cL_law 481 = .ok (.iaload, 1) := by decide +kernel
theorem dL_law_482 : decode cL_law 482 = .ok (.aload_n 3, 1) := by decide +kernel
theorem dL_law_483 : decode cL_law 483 = .ok (.invokestatic 178, 3) := by decide +kernel
theorem dL_law_486 : decode cL_law 486 = .ok (.istore 6, 2) := by decide +kernel
theorem dL_law_488 : decode cL_law 488 = .ok (.aload_n 2, 1) := by decide +kernel
theorem dL_law_489 : decode cL_law 489 = .ok (.aload_n 0, 1) := by decide +kernel
theorem dL_law_490 : decode cL_law 490 = .ok (.iload 5, 2) := by decide +kernel
theorem dL_law_492 : decode cL_law 492 = .ok (.iconst 1, 1) := by decide +kernel
theorem dL_law_493 : decode cL_law 493 = .ok (.iadd, 1) := by decide +kernel
theorem dL_law_494 : decode cL_law 494 = .ok (.iaload, 1) := by decide +kernel
theorem dL_law_495 : decode cL_law 495 = .ok (.aload_n 0, 1) := by decide +kernel
theorem dL_law_496 : decode cL_law 496 = .ok (.iload 5, 2) := by decide +kernel
theorem dL_law_498 : decode cL_law 498 = .ok (.iconst 2, 1) := by decide +kernel
theorem dL_law_499 : decode cL_law 499 = .ok (.iadd, 1) := by decide +kernel
theorem dL_law_500 : decode cL_law 500 = .ok (.iaload, 1) := by decide +kernel
theorem dL_law_501 : decode cL_law 501 = .ok (.invokevirtual 181, 3) := by decide +kernel
theorem dL_law_504 : decode cL_law 504 = .ok (.istore 7, 2) := by decide +kernel
theorem dL_law_506 : decode cL_law 506 = .ok (.aload_n 2, 1) := by decide +kernel
theorem dL_law_507 : decode cL_law 507 = .ok (.invokevirtual 168, 3) := by decide +kernel
theorem dL_law_510 : decode cL_law 510 = .ok (.iload 6, 2) := by decide +kernel
theorem dL_law_512 : decode cL_law 512 = .ok (.if_icmp .eq 5, 3) := by decide +kernel
theorem dL_law_515 : decode cL_law 515 = .ok (.iconst 0, 1) := by decide +kernel
theorem dL_law_516 : decode cL_law 516 = .ok (.ireturn, 1) := by decide +kernel
theorem dL_law_517 : decode cL_law 517 = .ok (.iload 6, 2) := by decide +kernel
theorem dL_law_519 : decode cL_law 519 = .ok (.ifCond .ne 15, 3) := by decide +kernel
theorem dL_law_522 : decode cL_law 522 = .ok (.aload_n 3, 1) := by decide +kernel
theorem dL_law_523 : decode cL_law 523 = .ok (.iconst 0, 1) := by decide +kernel
theorem dL_law_524 : decode cL_law 524 = .ok (.laload, 1) := by decide +kernel
theorem dL_law_525 : decode cL_law 525 = .ok (.iload 7, 2) := by decide +kernel
theorem dL_law_527 : decode cL_law 527 = .ok (.i2l, 1) := by decide +kernel
theorem dL_law_528 : decode cL_law 528 = .ok (.lcmp, 1) := by decide +kernel
theorem dL_law_529 : decode cL_law 529 = .ok (.ifCond .eq 5, 3) := by decide +kernel
theorem dL_law_532 : decode cL_law 532 = .ok (.iconst 0, 1) := by decide +kernel
theorem dL_law_533 : decode cL_law 533 = .ok (.ireturn, 1) := by decide +kernel
theorem dL_law_534 : decode cL_law 534 = .ok (.goto 2206, 3) := by decide +kernel
theorem dL_law_537 : decode cL_law 537 = .ok (.aload_n 1, 1) := by decide +kernel
theorem dL_law_538 : decode cL_law 538 = .ok (.aload_n 0, 1) := by decide +kernel
theorem dL_law_539 : decode cL_law 539 = .ok (.iload 5, 2) := by decide +kernel
theorem dL_law_541 : decode cL_law 541 = .ok (.iconst 1, 1) := by decide +kernel
theorem dL_law_542 : decode cL_law 542 = .ok (.iadd, 1) := by decide +kernel
theorem dL_law_543 : decode cL_law 543 = .ok (.iaload, 1) := by decide +kernel
theorem dL_law_544 : decode cL_law 544 = .ok (.aload_n 0, 1) := by decide +kernel
theorem dL_law_545 : decode cL_law 545 = .ok (.iload 5, 2) := by decide +kernel
theorem dL_law_547 : decode cL_law 547 = .ok (.iconst 2, 1) := by decide +kernel
theorem dL_law_548 : decode cL_law 548 = .ok (.iadd, 1) := by decide +kernel
theorem dL_law_549 : decode cL_law 549 = .ok (.iaload, 1) := by decide +kernel
theorem dL_law_550 : decode cL_law 550 = .ok (.aload_n 3, 1) := by decide +kernel
theorem dL_law_551 : decode cL_law 551 = .ok (.invokestatic 182, 3) := by decide +kernel
theorem dL_law_554 : decode cL_law 554 = .ok (.istore 6, 2) := by decide +kernel
theorem dL_law_556 : decode cL_law 556 = .ok (.aload_n 2, 1) := by decide +kernel
theorem dL_law_557 : decode cL_law 557 = .ok (.aload_n 0, 1) := by decide +kernel
theorem dL_law_558 : decode cL_law 558 = .ok (.iload 5, 2) := by decide +kernel
theorem dL_law_560 : decode cL_law 560 = .ok (.iconst 1, 1) := by decide +kernel
theorem dL_law_561 : decode cL_law 561 = .ok (.iadd, 1) := by decide +kernel
theorem dL_law_562 : decode cL_law 562 = .ok (.iaload, 1) := by decide +kernel
theorem dL_law_563 : decode cL_law 563 = .ok (.aload_n 0, 1) := by decide +kernel
theorem dL_law_564 : decode cL_law 564 = .ok (.iload 5, 2) := by decide +kernel
theorem dL_law_566 : decode cL_law 566 = .ok (.iconst 2, 1) := by decide +kernel
theorem dL_law_567 : decode cL_law 567 = .ok (.iadd, 1) := by decide +kernel
theorem dL_law_568 : decode cL_law 568 = .ok (.iaload, 1) := by decide +kernel
theorem dL_law_569 : decode cL_law 569 = .ok (.invokevirtual 184, 3) := by decide +kernel
theorem dL_law_572 : decode cL_law 572 = .ok (.istore 7, 2) := by decide +kernel
theorem dL_law_574 : decode cL_law 574 = .ok (.aload_n 2, 1) := by decide +kernel
theorem dL_law_575 : decode cL_law 575 = .ok (.invokevirtual 168, 3) := by decide +kernel
theorem dL_law_578 : decode cL_law 578 = .ok (.iload 6, 2) := by decide +kernel
theorem dL_law_580 : decode cL_law 580 = .ok (.if_icmp .eq 5, 3) := by decide +kernel
theorem dL_law_583 : decode cL_law 583 = .ok (.iconst 0, 1) := by decide +kernel
theorem dL_law_584 : decode cL_law 584 = .ok (.ireturn, 1) := by decide +kernel
theorem dL_law_585 : decode cL_law 585 = .ok (.iload 6, 2) := by decide +kernel
theorem dL_law_587 : decode cL_law 587 = .ok (.ifCond .ne 15, 3) := by decide +kernel
theorem dL_law_590 : decode cL_law 590 = .ok (.aload_n 3, 1) := by decide +kernel
theorem dL_law_591 : decode cL_law 591 = .ok (.iconst 0, 1) := by decide +kernel
theorem dL_law_592 : decode cL_law 592 = .ok (.laload, 1) := by decide +kernel
theorem dL_law_593 : decode cL_law 593 = .ok (.iload 7, 2) := by decide +kernel
theorem dL_law_595 : decode cL_law 595 = .ok (.i2l, 1) := by decide +kernel
theorem dL_law_596 : decode cL_law 596 = .ok (.lcmp, 1) := by decide +kernel
theorem dL_law_597 : decode cL_law 597 = .ok (.ifCond .eq 5, 3) := by decide +kernel
theorem dL_law_600 : decode cL_law 600 = .ok (.iconst 0, 1) := by decide +kernel
theorem dL_law_601 : decode cL_law 601 = .ok (.ireturn, 1) := by decide +kernel
theorem dL_law_602 : decode cL_law 602 = .ok (.goto 2138, 3) := by decide +kernel
theorem dL_law_605 : decode cL_law 605 = .ok (.aload_n 1, 1) := by decide +kernel
theorem dL_law_606 : decode cL_law 606 = .ok (.aload_n 0, 1) := by decide +kernel
theorem dL_law_607 : decode cL_law 607 = .ok (.iload 5, 2) := by decide +kernel
theorem dL_law_609 : decode cL_law 609 = .ok (.iconst 1, 1) := by decide +kernel
theorem dL_law_610 : decode cL_law 610 = .ok (.iadd, 1) := by decide +kernel
theorem dL_law_611 : decode cL_law 611 = .ok (.iaload, 1) := by decide +kernel
theorem dL_law_612 : decode cL_law 612 = .ok (.aload_n 3, 1) := by decide +kernel
theorem dL_law_613 : decode cL_law 613 = .ok (.invokestatic 185, 3) := by decide +kernel
theorem dL_law_616 : decode cL_law 616 = .ok (.istore 6, 2) := by decide +kernel
theorem dL_law_618 : decode cL_law 618 = .ok (.aload_n 2, 1) := by decide +kernel
theorem dL_law_619 : decode cL_law 619 = .ok (.aload_n 0, 1) := by decide +kernel
theorem dL_law_620 : decode cL_law 620 = .ok (.iload 5, 2) := by decide +kernel
theorem dL_law_622 : decode cL_law 622 = .ok (.iconst 1, 1) := by decide +kernel
theorem dL_law_623 : decode cL_law 623 = .ok (.iadd, 1) := by decide +kernel
theorem dL_law_624 : decode cL_law 624 = .ok (.iaload, 1) := by decide +kernel
theorem dL_law_625 : decode cL_law 625 = .ok (.invokevirtual 188, 3) := by decide +kernel
theorem dL_law_628 : decode cL_law 628 = .ok (.istore 7, 2) := by decide +kernel
theorem dL_law_630 : decode cL_law 630 = .ok (.aload_n 2, 1) := by decide +kernel
theorem dL_law_631 : decode cL_law 631 = .ok (.invokevirtual 168, 3) := by decide +kernel
theorem dL_law_634 : decode cL_law 634 = .ok (.iload 6, 2) := by decide +kernel
theorem dL_law_636 : decode cL_law 636 = .ok (.if_icmp .eq 5, 3) := by decide +kernel
theorem dL_law_639 : decode cL_law 639 = .ok (.iconst 0, 1) := by decide +kernel
theorem dL_law_640 : decode cL_law 640 = .ok (.ireturn, 1) := by decide +kernel
theorem dL_law_641 : decode cL_law 641 = .ok (.iload 6, 2) := by decide +kernel
theorem dL_law_643 : decode cL_law 643 = .ok (.ifCond .ne 15, 3) := by decide +kernel
theorem dL_law_646 : decode cL_law 646 = .ok (.aload_n 3, 1) := by decide +kernel
theorem dL_law_647 : decode cL_law 647 = .ok (.iconst 0, 1) := by decide +kernel
theorem dL_law_648 : decode cL_law 648 = .ok (.laload, 1) := by decide +kernel
theorem dL_law_649 : decode cL_law 649 = .ok (.iload 7, 2) := by decide +kernel
theorem dL_law_651 : decode cL_law 651 = .ok (.i2l, 1) := by decide +kernel
theorem dL_law_652 : decode cL_law 652 = .ok (.lcmp, 1) := by decide +kernel
theorem dL_law_653 : decode cL_law 653 = .ok (.ifCond .eq 5, 3) := by decide +kernel
theorem dL_law_656 : decode cL_law 656 = .ok (.iconst 0, 1) := by decide +kernel
theorem dL_law_657 : decode cL_law 657 = .ok (.ireturn, 1) := by decide +kernel
theorem dL_law_658 : decode cL_law 658 = .ok (.goto 2082, 3) := by decide +kernel
theorem dL_law_661 : decode cL_law 661 = .ok (.aload_n 1, 1) := by decide +kernel
theorem dL_law_662 : decode cL_law 662 = .ok (.aload_n 0, 1) := by decide +kernel
theorem dL_law_663 : decode cL_law 663 = .ok (.iload 5, 2) := by decide +kernel
theorem dL_law_665 : decode cL_law 665 = .ok (.iconst 1, 1) := by decide +kernel
theorem dL_law_666 : decode cL_law 666 = .ok (.iadd, 1) := by decide +kernel
theorem dL_law_667 : decode cL_law 667 = .ok (.iaload, 1) := by decide +kernel
theorem dL_law_668 : decode cL_law 668 = .ok (.aload_n 0, 1) := by decide +kernel
theorem dL_law_669 : decode cL_law 669 = .ok (.iload 5, 2) := by decide +kernel
theorem dL_law_671 : decode cL_law 671 = .ok (.iconst 2, 1) := by decide +kernel
theorem dL_law_672 : decode cL_law 672 = .ok (.iadd, 1) := by decide +kernel
theorem dL_law_673 : decode cL_law 673 = .ok (.iaload, 1) := by decide +kernel
theorem dL_law_674 : decode cL_law 674 = .ok (.aload_n 3, 1) := by decide +kernel
theorem dL_law_675 : decode cL_law 675 = .ok (.invokestatic 189, 3) := by decide +kernel
theorem dL_law_678 : decode cL_law 678 = .ok (.istore 6, 2) := by decide +kernel
theorem dL_law_680 : decode cL_law 680 = .ok (.aload_n 2, 1) := by decide +kernel
theorem dL_law_681 : decode cL_law 681 = .ok (.aload_n 0, 1) := by decide +kernel
theorem dL_law_682 : decode cL_law 682 = .ok (.iload 5, 2) := by decide +kernel
theorem dL_law_684 : decode cL_law 684 = .ok (.iconst 1, 1) := by decide +kernel
theorem dL_law_685 : decode cL_law 685 = .ok (.iadd, 1) := by decide +kernel
theorem dL_law_686 : decode cL_law 686 = .ok (.iaload, 1) := by decide +kernel
theorem dL_law_687 : decode cL_law 687 = .ok (.aload_n 0, 1) := by decide +kernel
theorem dL_law_688 : decode cL_law 688 = .ok (.iload 5, 2) := by decide +kernel
theorem dL_law_690 : decode cL_law 690 = .ok (.iconst 2, 1) := by decide +kernel
theorem dL_law_691 : decode cL_law 691 = .ok (.iadd, 1) := by decide +kernel
theorem dL_law_692 : decode cL_law 692 = .ok (.iaload, 1) := by decide +kernel
theorem dL_law_693 : decode cL_law 693 = .ok (.invokevirtual 191, 3) := by decide +kernel
theorem dL_law_696 : decode cL_law 696 = .ok (.istore 7, 2) := by decide +kernel
theorem dL_law_698 : decode cL_law 698 = .ok (.aload_n 2, 1) := by decide +kernel
theorem dL_law_699 : decode cL_law 699 = .ok (.invokevirtual 168, 3) := by decide +kernel
theorem dL_law_702 : decode cL_law 702 = .ok (.iload 6, 2) := by decide +kernel
theorem dL_law_704 : decode cL_law 704 = .ok (.if_icmp .eq 5, 3) := by decide +kernel
theorem dL_law_707 : decode cL_law 707 = .ok (.iconst 0, 1) := by decide +kernel
theorem dL_law_708 : decode cL_law 708 = .ok (.ireturn, 1) := by decide +kernel
theorem dL_law_709 : decode cL_law 709 = .ok (.iload 6, 2) := by decide +kernel
theorem dL_law_711 : decode cL_law 711 = .ok (.ifCond .ne 15, 3) := by decide +kernel
theorem dL_law_714 : decode cL_law 714 = .ok (.aload_n 3, 1) := by decide +kernel
theorem dL_law_715 : decode cL_law 715 = .ok (.iconst 0, 1) := by decide +kernel
theorem dL_law_716 : decode cL_law 716 = .ok (.laload, 1) := by decide +kernel
theorem dL_law_717 : decode cL_law 717 = .ok (.iload 7, 2) := by decide +kernel
theorem dL_law_719 : decode cL_law 719 = .ok (.i2l, 1) := by decide +kernel
theorem dL_law_720 : decode cL_law 720 = .ok (.lcmp, 1) := by decide +kernel
theorem dL_law_721 : decode cL_law 721 = .ok (.ifCond .eq 5, 3) := by decide +kernel
theorem dL_law_724 : decode cL_law 724 = .ok (.iconst 0, 1) := by decide +kernel
theorem dL_law_725 : decode cL_law 725 = .ok (.ireturn, 1) := by decide +kernel
theorem dL_law_726 : decode cL_law 726 = .ok (.goto 2014, 3) := by decide +kernel
theorem dL_law_729 : decode cL_law 729 = .ok (.aload_n 1, 1) := by decide +kernel
theorem dL_law_730 : decode cL_law 730 = .ok (.aload_n 0, 1) := by decide +kernel
theorem dL_law_731 : decode cL_law 731 = .ok (.iload 5, 2) := by decide +kernel
theorem dL_law_733 : decode cL_law 733 = .ok (.iconst 1, 1) := by decide +kernel
theorem dL_law_734 : decode cL_law 734 = .ok (.iadd, 1) := by decide +kernel
theorem dL_law_735 : decode cL_law 735 = .ok (.iaload, 1) := by decide +kernel
theorem dL_law_736 : decode cL_law 736 = .ok (.aload_n 0, 1) := by decide +kernel
theorem dL_law_737 : decode cL_law 737 = .ok (.iload 5, 2) := by decide +kernel
theorem dL_law_739 : decode cL_law 739 = .ok (.iconst 2, 1) := by decide +kernel
theorem dL_law_740 : decode cL_law 740 = .ok (.iadd, 1) := by decide +kernel
theorem dL_law_741 : decode cL_law 741 = .ok (.iaload, 1) := by decide +kernel
theorem dL_law_742 : decode cL_law 742 = .ok (.aload_n 3, 1) := by decide +kernel
theorem dL_law_743 : decode cL_law 743 = .ok (.invokestatic 192, 3) := by decide +kernel
theorem dL_law_746 : decode cL_law 746 = .ok (.istore 6, 2) := by decide +kernel
theorem dL_law_748 : decode cL_law 748 = .ok (.aload_n 2, 1) := by decide +kernel
theorem dL_law_749 : decode cL_law 749 = .ok (.aload_n 0, 1) := by decide +kernel
theorem dL_law_750 : decode cL_law 750 = .ok (.iload 5, 2) := by decide +kernel
theorem dL_law_752 : decode cL_law 752 = .ok (.iconst 1, 1) := by decide +kernel
theorem dL_law_753 : decode cL_law 753 = .ok (.iadd, 1) := by decide +kernel
theorem dL_law_754 : decode cL_law 754 = .ok (.iaload, 1) := by decide +kernel
theorem dL_law_755 : decode cL_law 755 = .ok (.aload_n 0, 1) := by decide +kernel
theorem dL_law_756 : decode cL_law 756 = .ok (.iload 5, 2) := by decide +kernel
theorem dL_law_758 : decode cL_law 758 = .ok (.iconst 2, 1) := by decide +kernel
theorem dL_law_759 : decode cL_law 759 = .ok (.iadd, 1) := by decide +kernel
theorem dL_law_760 : decode cL_law 760 = .ok (.iaload, 1) := by decide +kernel
theorem dL_law_761 : decode cL_law 761 = .ok (.invokevirtual 194, 3) := by decide +kernel
theorem dL_law_764 : decode cL_law 764 = .ok (.istore 7, 2) := by decide +kernel
theorem dL_law_766 : decode cL_law 766 = .ok (.aload_n 2, 1) := by decide +kernel
theorem dL_law_767 : decode cL_law 767 = .ok (.invokevirtual 168, 3) := by decide +kernel
theorem dL_law_770 : decode cL_law 770 = .ok (.iload 6, 2) := by decide +kernel
theorem dL_law_772 : decode cL_law 772 = .ok (.if_icmp .eq 5, 3) := by decide +kernel
theorem dL_law_775 : decode cL_law 775 = .ok (.iconst 0, 1) := by decide +kernel
theorem dL_law_776 : decode cL_law 776 = .ok (.ireturn, 1) := by decide +kernel
theorem dL_law_777 : decode cL_law 777 = .ok (.iload 6, 2) := by decide +kernel
theorem dL_law_779 : decode cL_law 779 = .ok (.ifCond .ne 22, 3) := by decide +kernel
theorem dL_law_782 : decode cL_law 782 = .ok (.aload_n 3, 1) := by decide +kernel
theorem dL_law_783 : decode cL_law 783 = .ok (.iconst 0, 1) := by decide +kernel
theorem dL_law_784 : decode cL_law 784 = .ok (.laload, 1) := by decide +kernel
theorem dL_law_785 : decode cL_law 785 = .ok (.iload 7, 2) := by decide +kernel
theorem dL_law_787 : decode cL_law 787 = .ok (.ifCond .eq 7, 3) := by decide +kernel
theorem dL_law_790 : decode cL_law 790 = .ok (.lconst 1, 1) := by decide +kernel
theorem dL_law_791 : decode cL_law 791 = .ok (.goto 4, 3) := by decide +kernel
theorem dL_law_794 : decode cL_law 794 = .ok (.lconst 0, 1) := by decide +kernel
theorem dL_law_795 : decode cL_law 795 = .ok (.lcmp, 1) := by decide +kernel
theorem dL_law_796 : decode cL_law 796 = .ok (.ifCond .eq 5, 3) := by decide +kernel
theorem dL_law_799 : decode cL_law 799 = .ok (.iconst 0, 1) := by decide +kernel
theorem dL_law_800 : decode cL_law 800 = .ok (.ireturn, 1) := by decide +kernel
theorem dL_law_801 : decode cL_law 801 = .ok (.goto 1939, 3) := by decide +kernel
theorem dL_law_804 : decode cL_law 804 = .ok (.aload_n 1, 1) := by decide +kernel
theorem dL_law_805 : decode cL_law 805 = .ok (.aload_n 0, 1) := by decide +kernel
theorem dL_law_806 : decode cL_law 806 = .ok (.iload 5, 2) := by decide +kernel
theorem dL_law_808 : decode cL_law 808 = .ok (.iconst 1, 1) := by decide +kernel
theorem dL_law_809 : decode cL_law 809 = .ok (.iadd, 1) := by decide +kernel
theorem dL_law_810 : decode cL_law 810 = .ok (.iaload, 1) := by decide +kernel
theorem dL_law_811 : decode cL_law 811 = .ok (.aload_n 0, 1) := by decide +kernel
theorem dL_law_812 : decode cL_law 812 = .ok (.iload 5, 2) := by decide +kernel
theorem dL_law_814 : decode cL_law 814 = .ok (.iconst 2, 1) := by decide +kernel
theorem dL_law_815 : decode cL_law 815 = .ok (.iadd, 1) := by decide +kernel
theorem dL_law_816 : decode cL_law 816 = .ok (.iaload, 1) := by decide +kernel
theorem dL_law_817 : decode cL_law 817 = .ok (.ifCond .eq 7, 3) := by decide +kernel
theorem dL_law_820 : decode cL_law 820 = .ok (.iconst 1, 1) := by decide +kernel
theorem dL_law_821 : decode cL_law 821 = .ok (.goto 4, 3) := by decide +kernel
theorem dL_law_824 : decode cL_law 824 = .ok (.iconst 0, 1) := by decide +kernel
theorem dL_law_825 : decode cL_law 825 = .ok (.aload_n 3, 1) := by decide +kernel
theorem dL_law_826 : decode cL_law 826 = .ok (.invokestatic 195, 3) := by decide +kernel
theorem dL_law_829 : decode cL_law 829 = .ok (.istore 6, 2) := by decide +kernel
theorem dL_law_831 : decode cL_law 831 = .ok (.aload_n 2, 1) := by decide +kernel
theorem dL_law_832 : decode cL_law 832 = .ok (.aload_n 0, 1) := by decide +kernel
theorem dL_law_833 : decode cL_law 833 = .ok (.iload 5, 2) := by decide +kernel
theorem dL_law_835 : decode cL_law 835 = .ok (.iconst 1, 1) := by decide +kernel
theorem dL_law_836 : decode cL_law 836 = .ok (.iadd, 1) := by decide +kernel
theorem dL_law_837 : decode cL_law 837 = .ok (.iaload, 1) := by decide +kernel
theorem dL_law_838 : decode cL_law 838 = .ok (.aload_n 0, 1) := by decide +kernel
theorem dL_law_839 : decode cL_law 839 = .ok (.iload 5, 2) := by decide +kernel
theorem dL_law_841 : decode cL_law 841 = .ok (.iconst 2, 1) := by decide +kernel
theorem dL_law_842 : decode cL_law 842 = .ok (.iadd, 1) := by decide +kernel
theorem dL_law_843 : decode cL_law 843 = .ok (.iaload, 1) := by decide +kernel
theorem dL_law_844 : decode cL_law 844 = .ok (.ifCond .eq 7, 3) := by decide +kernel
theorem dL_law_847 : decode cL_law 847 = .ok (.iconst 1, 1) := by decide +kernel
theorem dL_law_848 : decode cL_law 848 = .ok (.goto 4, 3) := by decide +kernel
theorem dL_law_851 : decode cL_law 851 = .ok (.iconst 0, 1) := by decide +kernel
theorem dL_law_852 : decode cL_law 852 = .ok (.invokevirtual 198, 3) := by decide +kernel
theorem dL_law_855 : decode cL_law 855 = .ok (.istore 7, 2) := by decide +kernel
theorem dL_law_857 : decode cL_law 857 = .ok (.aload_n 2, 1) := by decide +kernel
theorem dL_law_858 : decode cL_law 858 = .ok (.invokevirtual 168, 3) := by decide +kernel
theorem dL_law_861 : decode cL_law 861 = .ok (.iload 6, 2) := by decide +kernel
theorem dL_law_863 : decode cL_law 863 = .ok (.if_icmp .eq 5, 3) := by decide +kernel
theorem dL_law_866 : decode cL_law 866 = .ok (.iconst 0, 1) := by decide +kernel
theorem dL_law_867 : decode cL_law 867 = .ok (.ireturn, 1) := by decide +kernel
theorem dL_law_868 : decode cL_law 868 = .ok (.iload 6, 2) := by decide +kernel
theorem dL_law_870 : decode cL_law 870 = .ok (.ifCond .ne 15, 3) := by decide +kernel
theorem dL_law_873 : decode cL_law 873 = .ok (.aload_n 3, 1) := by decide +kernel
theorem dL_law_874 : decode cL_law 874 = .ok (.iconst 0, 1) := by decide +kernel
theorem dL_law_875 : decode cL_law 875 = .ok (.laload, 1) := by decide +kernel
theorem dL_law_876 : decode cL_law 876 = .ok (.iload 7, 2) := by decide +kernel
theorem dL_law_878 : decode cL_law 878 = .ok (.i2l, 1) := by decide +kernel
theorem dL_law_879 : decode cL_law 879 = .ok (.lcmp, 1) := by decide +kernel
theorem dL_law_880 : decode cL_law 880 = .ok (.ifCond .eq 5, 3) := by decide +kernel
theorem dL_law_883 : decode cL_law 883 = .ok (.iconst 0, 1) := by decide +kernel
theorem dL_law_884 : decode cL_law 884 = .ok (.ireturn, 1) := by decide +kernel
theorem dL_law_885 : decode cL_law 885 = .ok (.goto 1855, 3) := by decide +kernel
theorem dL_law_888 : decode cL_law 888 = .ok (.aload_n 1, 1) := by decide +kernel
theorem dL_law_889 : decode cL_law 889 = .ok (.aload_n 0, 1) := by decide +kernel
theorem dL_law_890 : decode cL_law 890 = .ok (.iload 5, 2) := by decide +kernel
theorem dL_law_892 : decode cL_law 892 = .ok (.iconst 1, 1) := by decide +kernel
theorem dL_law_893 : decode cL_law 893 = .ok (.iadd, 1) := by decide +kernel
theorem dL_law_894 : decode cL_law 894 = .ok (.iaload, 1) := by decide +kernel
theorem dL_law_895 : decode cL_law 895 = .ok (.aload_n 0, 1) := by decide +kernel
theorem dL_law_896 : decode cL_law 896 = .ok (.iload 5, 2) := by decide +kernel
theorem dL_law_898 : decode cL_law 898 = .ok (.iconst 2, 1) := by decide +kernel
theorem dL_law_899 : decode cL_law 899 = .ok (.iadd, 1) := by decide +kernel
theorem dL_law_900 : decode cL_law 900 = .ok (.iaload, 1) := by decide +kernel
theorem dL_law_901 : decode cL_law 901 = .ok (.aload_n 3, 1) := by decide +kernel
theorem dL_law_902 : decode cL_law 902 = .ok (.invokestatic 199, 3) := by decide +kernel
theorem dL_law_905 : decode cL_law 905 = .ok (.istore 6, 2) := by decide +kernel
theorem dL_law_907 : decode cL_law 907 = .ok (.aload_n 2, 1) := by decide +kernel
theorem dL_law_908 : decode cL_law 908 = .ok (.aload_n 0, 1) := by decide +kernel
theorem dL_law_909 : decode cL_law 909 = .ok (.iload 5, 2) := by decide +kernel
theorem dL_law_911 : decode cL_law 911 = .ok (.iconst 1, 1) := by decide +kernel
theorem dL_law_912 : decode cL_law 912 = .ok (.iadd, 1) := by decide +kernel
theorem dL_law_913 : decode cL_law 913 = .ok (.iaload, 1) := by decide +kernel
theorem dL_law_914 : decode cL_law 914 = .ok (.aload_n 0, 1) := by decide +kernel
theorem dL_law_915 : decode cL_law 915 = .ok (.iload 5, 2) := by decide +kernel
theorem dL_law_917 : decode cL_law 917 = .ok (.iconst 2, 1) := by decide +kernel
theorem dL_law_918 : decode cL_law 918 = .ok (.iadd, 1) := by decide +kernel
theorem dL_law_919 : decode cL_law 919 = .ok (.iaload, 1) := by decide +kernel
theorem dL_law_920 : decode cL_law 920 = .ok (.invokevirtual 201, 3) := by decide +kernel
theorem dL_law_923 : decode cL_law 923 = .ok (.istore 7, 2) := by decide +kernel
theorem dL_law_925 : decode cL_law 925 = .ok (.aload_n 2, 1) := by decide +kernel
theorem dL_law_926 : decode cL_law 926 = .ok (.invokevirtual 168, 3) := by decide +kernel
theorem dL_law_929 : decode cL_law 929 = .ok (.iload 6, 2) := by decide +kernel
theorem dL_law_931 : decode cL_law 931 = .ok (.if_icmp .eq 5, 3) := by decide +kernel
theorem dL_law_934 : decode cL_law 934 = .ok (.iconst 0, 1) := by decide +kernel
theorem dL_law_935 : decode cL_law 935 = .ok (.ireturn, 1) := by decide +kernel
theorem dL_law_936 : decode cL_law 936 = .ok (.iload 6, 2) := by decide +kernel
theorem dL_law_938 : decode cL_law 938 = .ok (.ifCond .ne 15, 3) := by decide +kernel
theorem dL_law_941 : decode cL_law 941 = .ok (.aload_n 3, 1) := by decide +kernel
theorem dL_law_942 : decode cL_law 942 = .ok (.iconst 0, 1) := by decide +kernel
theorem dL_law_943 : decode cL_law 943 = .ok (.laload, 1) := by decide +kernel
theorem dL_law_944 : decode cL_law 944 = .ok (.iload 7, 2) := by decide +kernel
theorem dL_law_946 : decode cL_law 946 = .ok (.i2l, 1) := by decide +kernel
theorem dL_law_947 : decode cL_law 947 = .ok (.lcmp, 1) := by decide +kernel
theorem dL_law_948 : decode cL_law 948 = .ok (.ifCond .eq 5, 3) := by decide +kernel
theorem dL_law_951 : decode cL_law 951 = .ok (.iconst 0, 1) := by decide +kernel
theorem dL_law_952 : decode cL_law 952 = .ok (.ireturn, 1) := by decide +kernel
theorem dL_law_953 : decode cL_law 953 = .ok (.goto 1787, 3) := by decide +kernel
theorem dL_law_956 : decode cL_law 956 = .ok (.aload_n 1, 1) := by decide +kernel
theorem dL_law_957 : decode cL_law 957 = .ok (.aload_n 0, 1) := by decide +kernel
theorem dL_law_958 : decode cL_law 958 = .ok (.iload 5, 2) := by decide +kernel
theorem dL_law_960 : decode cL_law 960 = .ok (.iconst 1, 1) := by decide +kernel
theorem dL_law_961 : decode cL_law 961 = .ok (.iadd, 1) := by decide +kernel
theorem dL_law_962 : decode cL_law 962 = .ok (.iaload, 1) := by decide +kernel
theorem dL_law_963 : decode cL_law 963 = .ok (.aload_n 3, 1) := by decide +kernel
theorem dL_law_964 : decode cL_law 964 = .ok (.invokestatic 202, 3) := by decide +kernel
theorem dL_law_967 : decode cL_law 967 = .ok (.istore 6, 2) := by decide +kernel
theorem dL_law_969 : decode cL_law 969 = .ok (.aload_n 2, 1) := by decide +kernel
theorem dL_law_970 : decode cL_law 970 = .ok (.aload_n 0, 1) := by decide +kernel
theorem dL_law_971 : decode cL_law 971 = .ok (.iload 5, 2) := by decide +kernel
theorem dL_law_973 : decode cL_law 973 = .ok (.iconst 1, 1) := by decide +kernel
theorem dL_law_974 : decode cL_law 974 = .ok (.iadd, 1) := by decide +kernel
theorem dL_law_975 : decode cL_law 975 = .ok (.iaload, 1) := by decide +kernel
theorem dL_law_976 : decode cL_law 976 = .ok (.invokevirtual 204, 3) := by decide +kernel
theorem dL_law_979 : decode cL_law 979 = .ok (.istore 7, 2) := by decide +kernel
theorem dL_law_981 : decode cL_law 981 = .ok (.aload_n 2, 1) := by decide +kernel
theorem dL_law_982 : decode cL_law 982 = .ok (.invokevirtual 168, 3) := by decide +kernel
theorem dL_law_985 : decode cL_law 985 = .ok (.iload 6, 2) := by decide +kernel
theorem dL_law_987 : decode cL_law 987 = .ok (.if_icmp .eq 5, 3) := by decide +kernel
theorem dL_law_990 : decode cL_law 990 = .ok (.iconst 0, 1) := by decide +kernel
theorem dL_law_991 : decode cL_law 991 = .ok (.ireturn, 1) := by decide +kernel
theorem dL_law_992 : decode cL_law 992 = .ok (.iload 6, 2) := by decide +kernel
theorem dL_law_994 : decode cL_law 994 = .ok (.ifCond .ne 15, 3) := by decide +kernel
theorem dL_law_997 : decode cL_law 997 = .ok (.aload_n 3, 1) := by decide +kernel
theorem dL_law_998 : decode cL_law 998 = .ok (.iconst 0, 1) := by decide +kernel
theorem dL_law_999 : decode cL_law 999 = .ok (.laload, 1) := by decide +kernel
theorem dL_law_1000 : decode cL_law 1000 = .ok (.iload 7, 2) := by decide +kernel
theorem dL_law_1002 : decode cL_law 1002 = .ok (.i2l, 1) := by decide +kernel
theorem dL_law_1003 : decode cL_law 1003 = .ok (.lcmp, 1) := by decide +kernel
theorem dL_law_1004 : decode cL_law 1004 = .ok (.ifCond .eq 5, 3) := by decide +kernel
theorem dL_law_1007 : decode cL_law 1007 = .ok (.iconst 0, 1) := by decide +kernel
theorem dL_law_1008 : decode cL_law 1008 = .ok (.ireturn, 1) := by decide +kernel
theorem dL_law_1009 : decode cL_law 1009 = .ok (.goto 1731, 3) := by decide +kernel
theorem dL_law_1012 : decode cL_law 1012 = .ok (.aload_n 1, 1) := by decide +kernel
theorem dL_law_1013 : decode cL_law 1013 = .ok (.invokevirtual 205, 3) := by decide +kernel
theorem dL_law_1016 : decode cL_law 1016 = .ok (.aload_n 2, 1) := by decide +kernel
theorem dL_law_1017 : decode cL_law 1017 = .ok (.invokevirtual 208, 3) := by decide +kernel
theorem dL_law_1020 : decode cL_law 1020 = .ok (.if_icmp .eq 1720, 3) := by decide +kernel
theorem dL_law_1023 : decode cL_law 1023 = .ok (.iconst 0, 1) := by decide +kernel
theorem dL_law_1024 : decode cL_law 1024 = .ok (.ireturn, 1) := by decide +kernel
theorem dL_law_1025 : decode cL_law 1025 = .ok (.aload_n 1, 1) := by decide +kernel
theorem dL_law_1026 : decode cL_law 1026 = .ok (.aload_n 0, 1) := by decide +kernel
theorem dL_law_1027 : decode cL_law 1027 = .ok (.iload 5, 2) := by decide +kernel
theorem dL_law_1029 : decode cL_law 1029 = .ok (.iconst 1, 1) := by decide +kernel
theorem dL_law_1030 : decode cL_law 1030 = .ok (.iadd, 1) := by decide +kernel
theorem dL_law_1031 : decode cL_law 1031 = .ok (.iaload, 1) := by decide +kernel
theorem dL_law_1032 : decode cL_law 1032 = .ok (.ifCond .eq 7, 3) := by decide +kernel
theorem dL_law_1035 : decode cL_law 1035 = .ok (.iconst 1, 1) := by decide +kernel
theorem dL_law_1036 : decode cL_law 1036 = .ok (.goto 4, 3) := by decide +kernel
theorem dL_law_1039 : decode cL_law 1039 = .ok (.iconst 0, 1) := by decide +kernel
theorem dL_law_1040 : decode cL_law 1040 = .ok (.invokevirtual 209, 3) := by decide +kernel
theorem dL_law_1043 : decode cL_law 1043 = .ok (.aload_n 2, 1) := by decide +kernel
theorem dL_law_1044 : decode cL_law 1044 = .ok (.aload_n 0, 1) := by decide +kernel
theorem dL_law_1045 : decode cL_law 1045 = .ok (.iload 5, 2) := by decide +kernel
theorem dL_law_1047 : decode cL_law 1047 = .ok (.iconst 1, 1) := by decide +kernel
theorem dL_law_1048 : decode cL_law 1048 = .ok (.iadd, 1) := by decide +kernel
theorem dL_law_1049 : decode cL_law 1049 = .ok (.iaload, 1) := by decide +kernel
theorem dL_law_1050 : decode cL_law 1050 = .ok (.ifCond .eq 7, 3) := by decide +kernel
theorem dL_law_1053 : decode cL_law 1053 = .ok (.iconst 1, 1) := by decide +kernel
theorem dL_law_1054 : decode cL_law 1054 = .ok (.goto 4, 3) := by decide +kernel
theorem dL_law_1057 : decode cL_law 1057 = .ok (.iconst 0, 1) := by decide +kernel
theorem dL_law_1058 : decode cL_law 1058 = .ok (.invokevirtual 212, 3) := by decide +kernel
theorem dL_law_1061 : decode cL_law 1061 = .ok (.if_icmp .eq 1679, 3) := by decide +kernel
theorem dL_law_1064 : decode cL_law 1064 = .ok (.iconst 0, 1) := by decide +kernel
theorem dL_law_1065 : decode cL_law 1065 = .ok (.ireturn, 1) := by decide +kernel
theorem dL_law_1066 : decode cL_law 1066 = .ok (.aload_n 1, 1) := by decide +kernel
theorem dL_law_1067 : decode cL_law 1067 = .ok (.invokevirtual 213, 3) := by decide +kernel
theorem dL_law_1070 : decode cL_law 1070 = .ok (.aload_n 2, 1) := by decide +kernel
theorem dL_law_1071 : decode cL_law 1071 = .ok (.invokevirtual 216, 3) := by decide +kernel
theorem dL_law_1074 : decode cL_law 1074 = .ok (.if_icmp .eq 1666, 3) := by decide +kernel
theorem dL_law_1077 : decode cL_law 1077 = .ok (.iconst 0, 1) := by decide +kernel
theorem dL_law_1078 : decode cL_law 1078 = .ok (.ireturn, 1) := by decide +kernel
theorem dL_law_1079 : decode cL_law 1079 = .ok (.aload_n 1, 1) := by decide +kernel
theorem dL_law_1080 : decode cL_law 1080 = .ok (.aload_n 3, 1) := by decide +kernel
theorem dL_law_1081 : decode cL_law 1081 = .ok (.invokestatic 217, 3) := by decide +kernel
theorem dL_law_1084 : decode cL_law 1084 = .ok (.istore 6, 2) := by decide +kernel
theorem dL_law_1086 : decode cL_law 1086 = .ok (.aload_n 2, 1) := by decide +kernel
theorem dL_law_1087 : decode cL_law 1087 = .ok (.invokevirtual 219, 3) := by decide +kernel
theorem dL_law_1090 : decode cL_law 1090 = .ok (.istore 7, 2) := by decide +kernel
theorem dL_law_1092 : decode cL_law 1092 = .ok (.aload_n 2, 1) := by decide +kernel
theorem dL_law_1093 : decode cL_law 1093 = .ok (.invokevirtual 168, 3) := by decide +kernel
theorem dL_law_1096 : decode cL_law 1096 = .ok (.iload 6, 2) := by decide +kernel
theorem dL_law_1098 : decode cL_law 1098 = .ok (.if_icmp .eq 5, 3) := by decide +kernel
theorem dL_law_1101 : decode cL_law 1101 = .ok (.iconst 0, 1) := by decide +kernel
theorem dL_law_1102 : decode cL_law 1102 = .ok (.ireturn, 1) := by decide +kernel
theorem dL_law_1103 : decode cL_law 1103 = .ok (.iload 6, 2) := by decide +kernel
theorem dL_law_1105 : decode cL_law 1105 = .ok (.ifCond .ne 15, 3) := by decide +kernel
theorem dL_law_1108 : decode cL_law 1108 = .ok (.aload_n 3, 1) := by decide +kernel
theorem dL_law_1109 : decode cL_law 1109 = .ok (.iconst 0, 1) := by decide +kernel
theorem dL_law_1110 : decode cL_law 1110 = .ok (.laload, 1) := by decide +kernel
theorem dL_law_1111 : decode cL_law 1111 = .ok (.iload 7, 2) := by decide +kernel
theorem dL_law_1113 : decode cL_law 1113 = .ok (.i2l, 1) := by decide +kernel
theorem dL_law_1114 : decode cL_law 1114 = .ok (.lcmp, 1) := by decide +kernel
theorem dL_law_1115 : decode cL_law 1115 = .ok (.ifCond .eq 5, 3) := by decide +kernel
theorem dL_law_1118 : decode cL_law 1118 = .ok (.iconst 0, 1) := by decide +kernel
theorem dL_law_1119 : decode cL_law 1119 = .ok (.ireturn, 1) := by decide +kernel
theorem dL_law_1120 : decode cL_law 1120 = .ok (.goto 1620, 3) := by decide +kernel
theorem dL_law_1123 : decode cL_law 1123 = .ok (.aload_n 1, 1) := by decide +kernel
theorem dL_law_1124 : decode cL_law 1124 = .ok (.aload_n 0, 1) := by decide +kernel
theorem dL_law_1125 : decode cL_law 1125 = .ok (.iload 5, 2) := by decide +kernel
theorem dL_law_1127 : decode cL_law 1127 = .ok (.iconst 1, 1) := by decide +kernel
theorem dL_law_1128 : decode cL_law 1128 = .ok (.iadd, 1) := by decide +kernel
theorem dL_law_1129 : decode cL_law 1129 = .ok (.iaload, 1) := by decide +kernel
theorem dL_law_1130 : decode cL_law 1130 = .ok (.aload_n 0, 1) := by decide +kernel
theorem dL_law_1131 : decode cL_law 1131 = .ok (.iload 5, 2) := by decide +kernel
theorem dL_law_1133 : decode cL_law 1133 = .ok (.iconst 2, 1) := by decide +kernel
theorem dL_law_1134 : decode cL_law 1134 = .ok (.iadd, 1) := by decide +kernel
theorem dL_law_1135 : decode cL_law 1135 = .ok (.iaload, 1) := by decide +kernel
theorem dL_law_1136 : decode cL_law 1136 = .ok (.aload_n 3, 1) := by decide +kernel
theorem dL_law_1137 : decode cL_law 1137 = .ok (.invokestatic 220, 3) := by decide +kernel
theorem dL_law_1140 : decode cL_law 1140 = .ok (.istore 6, 2) := by decide +kernel
theorem dL_law_1142 : decode cL_law 1142 = .ok (.aload_n 2, 1) := by decide +kernel
theorem dL_law_1143 : decode cL_law 1143 = .ok (.aload_n 0, 1) := by decide +kernel
theorem dL_law_1144 : decode cL_law 1144 = .ok (.iload 5, 2) := by decide +kernel
theorem dL_law_1146 : decode cL_law 1146 = .ok (.iconst 1, 1) := by decide +kernel
theorem dL_law_1147 : decode cL_law 1147 = .ok (.iadd, 1) := by decide +kernel
theorem dL_law_1148 : decode cL_law 1148 = .ok (.iaload, 1) := by decide +kernel
theorem dL_law_1149 : decode cL_law 1149 = .ok (.aload_n 0, 1) := by decide +kernel
theorem dL_law_1150 : decode cL_law 1150 = .ok (.iload 5, 2) := by decide +kernel
theorem dL_law_1152 : decode cL_law 1152 = .ok (.iconst 2, 1) := by decide +kernel
theorem dL_law_1153 : decode cL_law 1153 = .ok (.iadd, 1) := by decide +kernel
theorem dL_law_1154 : decode cL_law 1154 = .ok (.iaload, 1) := by decide +kernel
theorem dL_law_1155 : decode cL_law 1155 = .ok (.invokevirtual 222, 3) := by decide +kernel
theorem dL_law_1158 : decode cL_law 1158 = .ok (.istore 7, 2) := by decide +kernel
theorem dL_law_1160 : decode cL_law 1160 = .ok (.aload_n 2, 1) := by decide +kernel
theorem dL_law_1161 : decode cL_law 1161 = .ok (.invokevirtual 168, 3) := by decide +kernel
theorem dL_law_1164 : decode cL_law 1164 = .ok (.iload 6, 2) := by decide +kernel
theorem dL_law_1166 : decode cL_law 1166 = .ok (.if_icmp .eq 5, 3) := by decide +kernel
theorem dL_law_1169 : decode cL_law 1169 = .ok (.iconst 0, 1) := by decide +kernel
theorem dL_law_1170 : decode cL_law 1170 = .ok (.ireturn, 1) := by decide +kernel
theorem dL_law_1171 : decode cL_law 1171 = .ok (.iload 6, 2) := by decide +kernel
theorem dL_law_1173 : decode cL_law 1173 = .ok (.ifCond .ne 15, 3) := by decide +kernel
theorem dL_law_1176 : decode cL_law 1176 = .ok (.aload_n 3, 1) := by decide +kernel
theorem dL_law_1177 : decode cL_law 1177 = .ok (.iconst 0, 1) := by decide +kernel
theorem dL_law_1178 : decode cL_law 1178 = .ok (.laload, 1) := by decide +kernel
theorem dL_law_1179 : decode cL_law 1179 = .ok (.iload 7, 2) := by decide +kernel
theorem dL_law_1181 : decode cL_law 1181 = .ok (.i2l, 1) := by decide +kernel
theorem dL_law_1182 : decode cL_law 1182 = .ok (.lcmp, 1) := by decide +kernel
theorem dL_law_1183 : decode cL_law 1183 = .ok (.ifCond .eq 5, 3) := by decide +kernel
theorem dL_law_1186 : decode cL_law 1186 = .ok (.iconst 0, 1) := by decide +kernel
theorem dL_law_1187 : decode cL_law 1187 = .ok (.ireturn, 1) := by decide +kernel
theorem dL_law_1188 : decode cL_law 1188 = .ok (.goto 1552, 3) := by decide +kernel
theorem dL_law_1191 : decode cL_law 1191 = .ok (.aload_n 1, 1) := by decide +kernel
theorem dL_law_1192 : decode cL_law 1192 = .ok (.invokevirtual 223, 3) := by decide +kernel
theorem dL_law_1195 : decode cL_law 1195 = .ok (.aload_n 2, 1) := by decide +kernel
theorem dL_law_1196 : decode cL_law 1196 = .ok (.invokevirtual 226, 3) := by decide +kernel
theorem dL_law_1199 : decode cL_law 1199 = .ok (.if_icmp .eq 1541, 3) := by decide +kernel
theorem dL_law_1202 : decode cL_law 1202 = .ok (.iconst 0, 1) := by decide +kernel
theorem dL_law_1203 : decode cL_law 1203 = .ok (.ireturn, 1) := by decide +kernel
theorem dL_law_1204 : decode cL_law 1204 = .ok (.aload_n 1, 1) := by decide +kernel
theorem dL_law_1205 : decode cL_law 1205 = .ok (.aload_n 3, 1) := by decide +kernel
theorem dL_law_1206 : decode cL_law 1206 = .ok (.invokestatic 227, 3) := by decide +kernel
theorem dL_law_1209 : decode cL_law 1209 = .ok (.istore 6, 2) := by decide +kernel
theorem dL_law_1211 : decode cL_law 1211 = .ok (.aload_n 2, 1) := by decide +kernel
theorem dL_law_1212 : decode cL_law 1212 = .ok (.invokevirtual 229, 3) := by decide +kernel
theorem dL_law_1215 : decode cL_law 1215 = .ok (.istore 7, 2) := by decide +kernel
theorem dL_law_1217 : decode cL_law 1217 = .ok (.aload_n 2, 1) := by decide +kernel
theorem dL_law_1218 : decode cL_law 1218 = .ok (.invokevirtual 168, 3) := by decide +kernel
theorem dL_law_1221 : decode cL_law 1221 = .ok (.iload 6, 2) := by decide +kernel
theorem dL_law_1223 : decode cL_law 1223 = .ok (.if_icmp .eq 5, 3) := by decide +kernel
theorem dL_law_1226 : decode cL_law 1226 = .ok (.iconst 0, 1) := by decide +kernel
theorem dL_law_1227 : decode cL_law 1227 = .ok (.ireturn, 1) := by decide +kernel
theorem dL_law_1228 : decode cL_law 1228 = .ok (.iload 6, 2) := by decide +kernel
theorem dL_law_1230 : decode cL_law 1230 = .ok (.ifCond .ne 15, 3) := by decide +kernel
theorem dL_law_1233 : decode cL_law 1233 = .ok (.aload_n 3, 1) := by decide +kernel
theorem dL_law_1234 : decode cL_law 1234 = .ok (.iconst 0, 1) := by decide +kernel
theorem dL_law_1235 : decode cL_law 1235 = .ok (.laload, 1) := by decide +kernel
theorem dL_law_1236 : decode cL_law 1236 = .ok (.iload 7, 2) := by decide +kernel
theorem dL_law_1238 : decode cL_law 1238 = .ok (.i2l, 1) := by decide +kernel
theorem dL_law_1239 : decode cL_law 1239 = .ok (.lcmp, 1) := by decide +kernel
theorem dL_law_1240 : decode cL_law 1240 = .ok (.ifCond .eq 5, 3) := by decide +kernel
theorem dL_law_1243 : decode cL_law 1243 = .ok (.iconst 0, 1) := by decide +kernel
theorem dL_law_1244 : decode cL_law 1244 = .ok (.ireturn, 1) := by decide +kernel
theorem dL_law_1245 : decode cL_law 1245 = .ok (.goto 1495, 3) := by decide +kernel
theorem dL_law_1248 : decode cL_law 1248 = .ok (.aload_n 1, 1) := by decide +kernel
theorem dL_law_1249 : decode cL_law 1249 = .ok (.invokevirtual 230, 3) := by decide +kernel
theorem dL_law_1252 : decode cL_law 1252 = .ok (.aload_n 2, 1) := by decide +kernel
theorem dL_law_1253 : decode cL_law 1253 = .ok (.invokevirtual 233, 3) := by decide +kernel
theorem dL_law_1256 : decode cL_law 1256 = .ok (.if_icmp .eq 1484, 3) := by decide +kernel
theorem dL_law_1259 : decode cL_law 1259 = .ok (.iconst 0, 1) := by decide +kernel
theorem dL_law_1260 : decode cL_law 1260 = .ok (.ireturn, 1) := by decide +kernel
theorem dL_law_1261 : decode cL_law 1261 = .ok (.aload_n 1, 1) := by decide +kernel
theorem dL_law_1262 : decode cL_law 1262 = .ok (.aload_n 3, 1) := by decide +kernel
theorem dL_law_1263 : decode cL_law 1263 = .ok (.invokestatic 234, 3) := by decide +kernel
theorem dL_law_1266 : decode cL_law 1266 = .ok (.istore 6, 2) := by decide +kernel
theorem dL_law_1268 : decode cL_law 1268 = .ok (.aload_n 2, 1) := by decide +kernel
theorem dL_law_1269 : decode cL_law 1269 = .ok (.invokevirtual 236, 3) := by decide +kernel
theorem dL_law_1272 : decode cL_law 1272 = .ok (.istore 7, 2) := by decide +kernel
theorem dL_law_1274 : decode cL_law 1274 = .ok (.aload_n 2, 1) := by decide +kernel
theorem dL_law_1275 : decode cL_law 1275 = .ok (.invokevirtual 168, 3) := by decide +kernel
theorem dL_law_1278 : decode cL_law 1278 = .ok (.iload 6, 2) := by decide +kernel
theorem dL_law_1280 : decode cL_law 1280 = .ok (.if_icmp .eq 5, 3) := by decide +kernel
theorem dL_law_1283 : decode cL_law 1283 = .ok (.iconst 0, 1) := by decide +kernel
theorem dL_law_1284 : decode cL_law 1284 = .ok (.ireturn, 1) := by decide +kernel
theorem dL_law_1285 : decode cL_law 1285 = .ok (.iload 6, 2) := by decide +kernel
theorem dL_law_1287 : decode cL_law 1287 = .ok (.ifCond .ne 15, 3) := by decide +kernel
theorem dL_law_1290 : decode cL_law 1290 = .ok (.aload_n 3, 1) := by decide +kernel
theorem dL_law_1291 : decode cL_law 1291 = .ok (.iconst 0, 1) := by decide +kernel
theorem dL_law_1292 : decode cL_law 1292 = .ok (.laload, 1) := by decide +kernel
theorem dL_law_1293 : decode cL_law 1293 = .ok (.iload 7, 2) := by decide +kernel
theorem dL_law_1295 : decode cL_law 1295 = .ok (.i2l, 1) := by decide +kernel
theorem dL_law_1296 : decode cL_law 1296 = .ok (.lcmp, 1) := by decide +kernel
theorem dL_law_1297 : decode cL_law 1297 = .ok (.ifCond .eq 5, 3) := by decide +kernel
theorem dL_law_1300 : decode cL_law 1300 = .ok (.iconst 0, 1) := by decide +kernel
theorem dL_law_1301 : decode cL_law 1301 = .ok (.ireturn, 1) := by decide +kernel
theorem dL_law_1302 : decode cL_law 1302 = .ok (.goto 1438, 3) := by decide +kernel
theorem dL_law_1305 : decode cL_law 1305 = .ok (.aload_n 1, 1) := by decide +kernel
theorem dL_law_1306 : decode cL_law 1306 = .ok (.aload_n 0, 1) := by decide +kernel
theorem dL_law_1307 : decode cL_law 1307 = .ok (.iload 5, 2) := by decide +kernel
theorem dL_law_1309 : decode cL_law 1309 = .ok (.iconst 1, 1) := by decide +kernel
theorem dL_law_1310 : decode cL_law 1310 = .ok (.iadd, 1) := by decide +kernel
theorem dL_law_1311 : decode cL_law 1311 = .ok (.iaload, 1) := by decide +kernel
theorem dL_law_1312 : decode cL_law 1312 = .ok (.aload_n 0, 1) := by decide +kernel
theorem dL_law_1313 : decode cL_law 1313 = .ok (.iload 5, 2) := by decide +kernel
theorem dL_law_1315 : decode cL_law 1315 = .ok (.iconst 2, 1) := by decide +kernel
theorem dL_law_1316 : decode cL_law 1316 = .ok (.iadd, 1) := by decide +kernel
theorem dL_law_1317 : decode cL_law 1317 = .ok (.iaload, 1) := by decide +kernel
theorem dL_law_1318 : decode cL_law 1318 = .ok (.aload_n 3, 1) := by decide +kernel
theorem dL_law_1319 : decode cL_law 1319 = .ok (.invokestatic 237, 3) := by decide +kernel
theorem dL_law_1322 : decode cL_law 1322 = .ok (.istore 6, 2) := by decide +kernel
theorem dL_law_1324 : decode cL_law 1324 = .ok (.aload_n 2, 1) := by decide +kernel
theorem dL_law_1325 : decode cL_law 1325 = .ok (.aload_n 0, 1) := by decide +kernel
theorem dL_law_1326 : decode cL_law 1326 = .ok (.iload 5, 2) := by decide +kernel
theorem dL_law_1328 : decode cL_law 1328 = .ok (.iconst 1, 1) := by decide +kernel
theorem dL_law_1329 : decode cL_law 1329 = .ok (.iadd, 1) := by decide +kernel
theorem dL_law_1330 : decode cL_law 1330 = .ok (.iaload, 1) := by decide +kernel
theorem dL_law_1331 : decode cL_law 1331 = .ok (.aload_n 0, 1) := by decide +kernel
theorem dL_law_1332 : decode cL_law 1332 = .ok (.iload 5, 2) := by decide +kernel
theorem dL_law_1334 : decode cL_law 1334 = .ok (.iconst 2, 1) := by decide +kernel
theorem dL_law_1335 : decode cL_law 1335 = .ok (.iadd, 1) := by decide +kernel
theorem dL_law_1336 : decode cL_law 1336 = .ok (.iaload, 1) := by decide +kernel
theorem dL_law_1337 : decode cL_law 1337 = .ok (.invokevirtual 239, 3) := by decide +kernel
theorem dL_law_1340 : decode cL_law 1340 = .ok (.istore 7, 2) := by decide +kernel
theorem dL_law_1342 : decode cL_law 1342 = .ok (.aload_n 2, 1) := by decide +kernel
theorem dL_law_1343 : decode cL_law 1343 = .ok (.invokevirtual 168, 3) := by decide +kernel
theorem dL_law_1346 : decode cL_law 1346 = .ok (.iload 6, 2) := by decide +kernel
theorem dL_law_1348 : decode cL_law 1348 = .ok (.if_icmp .eq 5, 3) := by decide +kernel
theorem dL_law_1351 : decode cL_law 1351 = .ok (.iconst 0, 1) := by decide +kernel
theorem dL_law_1352 : decode cL_law 1352 = .ok (.ireturn, 1) := by decide +kernel
theorem dL_law_1353 : decode cL_law 1353 = .ok (.iload 6, 2) := by decide +kernel
theorem dL_law_1355 : decode cL_law 1355 = .ok (.ifCond .ne 15, 3) := by decide +kernel
theorem dL_law_1358 : decode cL_law 1358 = .ok (.aload_n 3, 1) := by decide +kernel
theorem dL_law_1359 : decode cL_law 1359 = .ok (.iconst 0, 1) := by decide +kernel
theorem dL_law_1360 : decode cL_law 1360 = .ok (.laload, 1) := by decide +kernel
theorem dL_law_1361 : decode cL_law 1361 = .ok (.iload 7, 2) := by decide +kernel
theorem dL_law_1363 : decode cL_law 1363 = .ok (.i2l, 1) := by decide +kernel
theorem dL_law_1364 : decode cL_law 1364 = .ok (.lcmp, 1) := by decide +kernel
theorem dL_law_1365 : decode cL_law 1365 = .ok (.ifCond .eq 5, 3) := by decide +kernel
theorem dL_law_1368 : decode cL_law 1368 = .ok (.iconst 0, 1) := by decide +kernel
theorem dL_law_1369 : decode cL_law 1369 = .ok (.ireturn, 1) := by decide +kernel
theorem dL_law_1370 : decode cL_law 1370 = .ok (.goto 1370, 3) := by decide +kernel
theorem dL_law_1373 : decode cL_law 1373 = .ok (.aload_n 1, 1) := by decide +kernel
theorem dL_law_1374 : decode cL_law 1374 = .ok (.aload_n 0, 1) := by decide +kernel
theorem dL_law_1375 : decode cL_law 1375 = .ok (.iload 5, 2) := by decide +kernel
theorem dL_law_1377 : decode cL_law 1377 = .ok (.iconst 1, 1) := by decide +kernel
theorem dL_law_1378 : decode cL_law 1378 = .ok (.iadd, 1) := by decide +kernel
theorem dL_law_1379 : decode cL_law 1379 = .ok (.iaload, 1) := by decide +kernel
theorem dL_law_1380 : decode cL_law 1380 = .ok (.aload_n 3, 1) := by decide +kernel
theorem dL_law_1381 : decode cL_law 1381 = .ok (.invokestatic 240, 3) := by decide +kernel
theorem dL_law_1384 : decode cL_law 1384 = .ok (.istore 6, 2) := by decide +kernel
theorem dL_law_1386 : decode cL_law 1386 = .ok (.aload_n 2, 1) := by decide +kernel
theorem dL_law_1387 : decode cL_law 1387 = .ok (.aload_n 0, 1) := by decide +kernel
theorem dL_law_1388 : decode cL_law 1388 = .ok (.iload 5, 2) := by decide +kernel
theorem dL_law_1390 : decode cL_law 1390 = .ok (.iconst 1, 1) := by decide +kernel
theorem dL_law_1391 : decode cL_law 1391 = .ok (.iadd, 1) := by decide +kernel
theorem dL_law_1392 : decode cL_law 1392 = .ok (.iaload, 1) := by decide +kernel
theorem dL_law_1393 : decode cL_law 1393 = .ok (.invokevirtual 242, 3) := by decide +kernel
theorem dL_law_1396 : decode cL_law 1396 = .ok (.istore 7, 2) := by decide +kernel
theorem dL_law_1398 : decode cL_law 1398 = .ok (.aload_n 2, 1) := by decide +kernel
theorem dL_law_1399 : decode cL_law 1399 = .ok (.invokevirtual 168, 3) := by decide +kernel
theorem dL_law_1402 : decode cL_law 1402 = .ok (.iload 6, 2) := by decide +kernel
theorem dL_law_1404 : decode cL_law 1404 = .ok (.if_icmp .eq 5, 3) := by decide +kernel
theorem dL_law_1407 : decode cL_law 1407 = .ok (.iconst 0, 1) := by decide +kernel
theorem dL_law_1408 : decode cL_law 1408 = .ok (.ireturn, 1) := by decide +kernel
theorem dL_law_1409 : decode cL_law 1409 = .ok (.iload 6, 2) := by decide +kernel
theorem dL_law_1411 : decode cL_law 1411 = .ok (.ifCond .ne 22, 3) := by decide +kernel
theorem dL_law_1414 : decode cL_law 1414 = .ok (.aload_n 3, 1) := by decide +kernel
theorem dL_law_1415 : decode cL_law 1415 = .ok (.iconst 0, 1) := by decide +kernel
theorem dL_law_1416 : decode cL_law 1416 = .ok (.laload, 1) := by decide +kernel
theorem dL_law_1417 : decode cL_law 1417 = .ok (.iload 7, 2) := by decide +kernel
theorem dL_law_1419 : decode cL_law 1419 = .ok (.ifCond .eq 7, 3) := by decide +kernel
theorem dL_law_1422 : decode cL_law 1422 = .ok (.lconst 1, 1) := by decide +kernel
theorem dL_law_1423 : decode cL_law 1423 = .ok (.goto 4, 3) := by decide +kernel
theorem dL_law_1426 : decode cL_law 1426 = .ok (.lconst 0, 1) := by decide +kernel
theorem dL_law_1427 : decode cL_law 1427 = .ok (.lcmp, 1) := by decide +kernel
theorem dL_law_1428 : decode cL_law 1428 = .ok (.ifCond .eq 5, 3) := by decide +kernel
theorem dL_law_1431 : decode cL_law 1431 = .ok (.iconst 0, 1) := by decide +kernel
theorem dL_law_1432 : decode cL_law 1432 = .ok (.ireturn, 1) := by decide +kernel
theorem dL_law_1433 : decode cL_law 1433 = .ok (.goto 1307, 3) := by decide +kernel
theorem dL_law_1436 : decode cL_law 1436 = .ok (.aload_n 1, 1) := by decide +kernel
theorem dL_law_1437 : decode cL_law 1437 = .ok (.aload_n 0, 1) := by decide +kernel
theorem dL_law_1438 : decode cL_law 1438 = .ok (.iload 5, 2) := by decide +kernel
theorem dL_law_1440 : decode cL_law 1440 = .ok (.iconst 1, 1) := by decide +kernel
theorem dL_law_1441 : decode cL_law 1441 = .ok (.iadd, 1) := by decide +kernel
theorem dL_law_1442 : decode cL_law 1442 = .ok (.iaload, 1) := by decide +kernel
theorem dL_law_1443 : decode cL_law 1443 = .ok (.aload_n 0, 1) := by decide +kernel
theorem dL_law_1444 : decode cL_law 1444 = .ok (.iload 5, 2) := by decide +kernel
theorem dL_law_1446 : decode cL_law 1446 = .ok (.iconst 2, 1) := by decide +kernel
theorem dL_law_1447 : decode cL_law 1447 = .ok (.iadd, 1) := by decide +kernel
theorem dL_law_1448 : decode cL_law 1448 = .ok (.iaload, 1) := by decide +kernel
theorem dL_law_1449 : decode cL_law 1449 = .ok (.aload_n 3, 1) := by decide +kernel
theorem dL_law_1450 : decode cL_law 1450 = .ok (.invokestatic 243, 3) := by decide +kernel
theorem dL_law_1453 : decode cL_law 1453 = .ok (.istore 6, 2) := by decide +kernel
theorem dL_law_1455 : decode cL_law 1455 = .ok (.aload_n 2, 1) := by decide +kernel
theorem dL_law_1456 : decode cL_law 1456 = .ok (.aload_n 0, 1) := by decide +kernel
theorem dL_law_1457 : decode cL_law 1457 = .ok (.iload 5, 2) := by decide +kernel
theorem dL_law_1459 : decode cL_law 1459 = .ok (.iconst 1, 1) := by decide +kernel
theorem dL_law_1460 : decode cL_law 1460 = .ok (.iadd, 1) := by decide +kernel
theorem dL_law_1461 : decode cL_law 1461 = .ok (.iaload, 1) := by decide +kernel
theorem dL_law_1462 : decode cL_law 1462 = .ok (.aload_n 0, 1) := by decide +kernel
theorem dL_law_1463 : decode cL_law 1463 = .ok (.iload 5, 2) := by decide +kernel
theorem dL_law_1465 : decode cL_law 1465 = .ok (.iconst 2, 1) := by decide +kernel
theorem dL_law_1466 : decode cL_law 1466 = .ok (.iadd, 1) := by decide +kernel
theorem dL_law_1467 : decode cL_law 1467 = .ok (.iaload, 1) := by decide +kernel
theorem dL_law_1468 : decode cL_law 1468 = .ok (.invokevirtual 245, 3) := by decide +kernel
theorem dL_law_1471 : decode cL_law 1471 = .ok (.istore 7, 2) := by decide +kernel
theorem dL_law_1473 : decode cL_law 1473 = .ok (.aload_n 2, 1) := by decide +kernel
theorem dL_law_1474 : decode cL_law 1474 = .ok (.invokevirtual 168, 3) := by decide +kernel
theorem dL_law_1477 : decode cL_law 1477 = .ok (.iload 6, 2) := by decide +kernel
theorem dL_law_1479 : decode cL_law 1479 = .ok (.if_icmp .eq 5, 3) := by decide +kernel
theorem dL_law_1482 : decode cL_law 1482 = .ok (.iconst 0, 1) := by decide +kernel
theorem dL_law_1483 : decode cL_law 1483 = .ok (.ireturn, 1) := by decide +kernel
theorem dL_law_1484 : decode cL_law 1484 = .ok (.iload 6, 2) := by decide +kernel
theorem dL_law_1486 : decode cL_law 1486 = .ok (.ifCond .ne 15, 3) := by decide +kernel
theorem dL_law_1489 : decode cL_law 1489 = .ok (.aload_n 3, 1) := by decide +kernel
theorem dL_law_1490 : decode cL_law 1490 = .ok (.iconst 0, 1) := by decide +kernel
theorem dL_law_1491 : decode cL_law 1491 = .ok (.laload, 1) := by decide +kernel
theorem dL_law_1492 : decode cL_law 1492 = .ok (.iload 7, 2) := by decide +kernel
theorem dL_law_1494 : decode cL_law 1494 = .ok (.i2l, 1) := by decide +kernel
theorem dL_law_1495 : decode cL_law 1495 = .ok (.lcmp, 1) := by decide +kernel
theorem dL_law_1496 : decode cL_law 1496 = .ok (.ifCond .eq 5, 3) := by decide +kernel
theorem dL_law_1499 : decode cL_law 1499 = .ok (.iconst 0, 1) := by decide +kernel
theorem dL_law_1500 : decode cL_law 1500 = .ok (.ireturn, 1) := by decide +kernel
theorem dL_law_1501 : decode cL_law 1501 = .ok (.goto 1239, 3) := by decide +kernel
theorem dL_law_1504 : decode cL_law 1504 = .ok (.aload_n 1, 1) := by decide +kernel
theorem dL_law_1505 : decode cL_law 1505 = .ok (.aload_n 3, 1) := by decide +kernel
theorem dL_law_1506 : decode cL_law 1506 = .ok (.invokestatic 246, 3) := by decide +kernel
theorem dL_law_1509 : decode cL_law 1509 = .ok (.istore 6, 2) := by decide +kernel
theorem dL_law_1511 : decode cL_law 1511 = .ok (.aload_n 2, 1) := by decide +kernel
theorem dL_law_1512 : decode cL_law 1512 = .ok (.invokevirtual 248, 3) := by decide +kernel
theorem dL_law_1515 : decode cL_law 1515 = .ok (.istore 7, 2) := by decide +kernel
theorem dL_law_1517 : decode cL_law 1517 = .ok (.aload_n 2, 1) := by decide +kernel
theorem dL_law_1518 : decode cL_law 1518 = .ok (.invokevirtual 168, 3) := by decide +kernel
theorem dL_law_1521 : decode cL_law 1521 = .ok (.iload 6, 2) := by decide +kernel
theorem dL_law_1523 : decode cL_law 1523 = .ok (.if_icmp .eq 5, 3) := by decide +kernel
theorem dL_law_1526 : decode cL_law 1526 = .ok (.iconst 0, 1) := by decide +kernel
theorem dL_law_1527 : decode cL_law 1527 = .ok (.ireturn, 1) := by decide +kernel
theorem dL_law_1528 : decode cL_law 1528 = .ok (.iload 6, 2) := by decide +kernel
theorem dL_law_1530 : decode cL_law 1530 = .ok (.ifCond .ne 15, 3) := by decide +kernel
theorem dL_law_1533 : decode cL_law 1533 = .ok (.aload_n 3, 1) := by decide +kernel
theorem dL_law_1534 : decode cL_law 1534 = .ok (.iconst 0, 1) := by decide +kernel
theorem dL_law_1535 : decode cL_law 1535 = .ok (.laload, 1) := by decide +kernel
theorem dL_law_1536 : decode cL_law 1536 = .ok (.iload 7, 2) := by decide +kernel
theorem dL_law_1538 : decode cL_law 1538 = .ok (.i2l, 1) := by decide +kernel
theorem dL_law_1539 : decode cL_law 1539 = .ok (.lcmp, 1) := by decide +kernel
theorem dL_law_1540 : decode cL_law 1540 = .ok (.ifCond .eq 5, 3) := by decide +kernel
theorem dL_law_1543 : decode cL_law 1543 = .ok (.iconst 0, 1) := by decide +kernel
theorem dL_law_1544 : decode cL_law 1544 = .ok (.ireturn, 1) := by decide +kernel
theorem dL_law_1545 : decode cL_law 1545 = .ok (.goto 1195, 3) := by decide +kernel
theorem dL_law_1548 : decode cL_law 1548 = .ok (.aload_n 1, 1) := by decide +kernel
theorem dL_law_1549 : decode cL_law 1549 = .ok (.aload_n 3, 1) := by decide +kernel
theorem dL_law_1550 : decode cL_law 1550 = .ok (.invokestatic 249, 3) := by decide +kernel
theorem dL_law_1553 : decode cL_law 1553 = .ok (.istore 6, 2) := by decide +kernel
theorem dL_law_1555 : decode cL_law 1555 = .ok (.aload_n 2, 1) := by decide +kernel
theorem dL_law_1556 : decode cL_law 1556 = .ok (.invokevirtual 251, 3) := by decide +kernel
theorem dL_law_1559 : decode cL_law 1559 = .ok (.istore 7, 2) := by decide +kernel
theorem dL_law_1561 : decode cL_law 1561 = .ok (.aload_n 2, 1) := by decide +kernel
theorem dL_law_1562 : decode cL_law 1562 = .ok (.invokevirtual 168, 3) := by decide +kernel
theorem dL_law_1565 : decode cL_law 1565 = .ok (.iload 6, 2) := by decide +kernel
theorem dL_law_1567 : decode cL_law 1567 = .ok (.if_icmp .eq 5, 3) := by decide +kernel
theorem dL_law_1570 : decode cL_law 1570 = .ok (.iconst 0, 1) := by decide +kernel
theorem dL_law_1571 : decode cL_law 1571 = .ok (.ireturn, 1) := by decide +kernel
theorem dL_law_1572 : decode cL_law 1572 = .ok (.iload 6, 2) := by decide +kernel
theorem dL_law_1574 : decode cL_law 1574 = .ok (.ifCond .ne 15, 3) := by decide +kernel
theorem dL_law_1577 : decode cL_law 1577 = .ok (.aload_n 3, 1) := by decide +kernel
theorem dL_law_1578 : decode cL_law 1578 = .ok (.iconst 0, 1) := by decide +kernel
theorem dL_law_1579 : decode cL_law 1579 = .ok (.laload, 1) := by decide +kernel
theorem dL_law_1580 : decode cL_law 1580 = .ok (.iload 7, 2) := by decide +kernel
theorem dL_law_1582 : decode cL_law 1582 = .ok (.i2l, 1) := by decide +kernel
theorem dL_law_1583 : decode cL_law 1583 = .ok (.lcmp, 1) := by decide +kernel
theorem dL_law_1584 : decode cL_law 1584 = .ok (.ifCond .eq 5, 3) := by decide +kernel
theorem dL_law_1587 : decode cL_law 1587 = .ok (.iconst 0, 1) := by decide +kernel
theorem dL_law_1588 : decode cL_law 1588 = .ok (.ireturn, 1) := by decide +kernel
theorem dL_law_1589 : decode cL_law 1589 = .ok (.goto 1151, 3) := by decide +kernel
theorem dL_law_1592 : decode cL_law 1592 = .ok (.aload_n 1, 1) := by decide +kernel
theorem dL_law_1593 : decode cL_law 1593 = .ok (.aload_n 0, 1) := by decide +kernel
theorem dL_law_1594 : decode cL_law 1594 = .ok (.iload 5, 2) := by decide +kernel
theorem dL_law_1596 : decode cL_law 1596 = .ok (.iconst 1, 1) := by decide +kernel
theorem dL_law_1597 : decode cL_law 1597 = .ok (.iadd, 1) := by decide +kernel
theorem dL_law_1598 : decode cL_law 1598 = .ok (.iaload, 1) := by decide +kernel
theorem dL_law_1599 : decode cL_law 1599 = .ok (.ifCond .eq 7, 3) := by decide +kernel
theorem dL_law_1602 : decode cL_law 1602 = .ok (.iconst 1, 1) := by decide +kernel
theorem dL_law_1603 : decode cL_law 1603 = .ok (.goto 4, 3) := by decide +kernel
theorem dL_law_1606 : decode cL_law 1606 = .ok (.iconst 0, 1) := by decide +kernel
theorem dL_law_1607 : decode cL_law 1607 = .ok (.aload_n 3, 1) := by decide +kernel
theorem dL_law_1608 : decode cL_law 1608 = .ok (.invokestatic 252, 3) := by decide +kernel
theorem dL_law_1611 : decode cL_law 1611 = .ok (.istore 6, 2) := by decide +kernel
theorem dL_law_1613 : decode cL_law 1613 = .ok (.aload_n 2, 1) := by decide +kernel
theorem dL_law_1614 : decode cL_law 1614 = .ok (.aload_n 0, 1) := by decide +kernel
theorem dL_law_1615 : decode cL_law 1615 = .ok (.iload 5, 2) := by decide +kernel
theorem dL_law_1617 : decode cL_law 1617 = .ok (.iconst 1, 1) := by decide +kernel
theorem dL_law_1618 : decode cL_law 1618 = .ok (.iadd, 1) := by decide +kernel
theorem dL_law_1619 : decode cL_law 1619 = .ok (.iaload, 1) := by decide +kernel
theorem dL_law_1620 : decode cL_law 1620 = .ok (.ifCond .eq 7, 3) := by decide +kernel
theorem dL_law_1623 : decode cL_law 1623 = .ok (.iconst 1, 1) := by decide +kernel
theorem dL_law_1624 : decode cL_law 1624 = .ok (.goto 4, 3) := by decide +kernel
theorem dL_law_1627 : decode cL_law 1627 = .ok (.iconst 0, 1) := by decide +kernel
theorem dL_law_1628 : decode cL_law 1628 = .ok (.invokevirtual 255, 3) := by decide +kernel
theorem dL_law_1631 : decode cL_law 1631 = .ok (.istore 7, 2) := by decide +kernel
theorem dL_law_1633 : decode cL_law 1633 = .ok (.aload_n 2, 1) := by decide +kernel
theorem dL_law_1634 : decode cL_law 1634 = .ok (.invokevirtual 168, 3) := by decide +kernel
theorem dL_law_1637 : decode cL_law 1637 = .ok (.iload 6, 2) := by decide +kernel
theorem dL_law_1639 : decode cL_law 1639 = .ok (.if_icmp .eq 5, 3) := by decide +kernel
theorem dL_law_1642 : decode cL_law 1642 = .ok (.iconst 0, 1) := by decide +kernel
theorem dL_law_1643 : decode cL_law 1643 = .ok (.ireturn, 1) := by decide +kernel
theorem dL_law_1644 : decode cL_law 1644 = .ok (.iload 6, 2) := by decide +kernel
theorem dL_law_1646 : decode cL_law 1646 = .ok (.ifCond .ne 15, 3) := by decide +kernel
theorem dL_law_1649 : decode cL_law 1649 = .ok (.aload_n 3, 1) := by decide +kernel
theorem dL_law_1650 : decode cL_law 1650 = .ok (.iconst 0, 1) := by decide +kernel
theorem dL_law_1651 : decode cL_law 1651 = .ok (.laload, 1) := by decide +kernel
theorem dL_law_1652 : decode cL_law 1652 = .ok (.iload 7, 2) := by decide +kernel
theorem dL_law_1654 : decode cL_law 1654 = .ok (.i2l, 1) := by decide +kernel
theorem dL_law_1655 : decode cL_law 1655 = .ok (.lcmp, 1) := by decide +kernel
theorem dL_law_1656 : decode cL_law 1656 = .ok (.ifCond .eq 5, 3) := by decide +kernel
theorem dL_law_1659 : decode cL_law 1659 = .ok (.iconst 0, 1) := by decide +kernel
theorem dL_law_1660 : decode cL_law 1660 = .ok (.ireturn, 1) := by decide +kernel
theorem dL_law_1661 : decode cL_law 1661 = .ok (.goto 1079, 3) := by decide +kernel
theorem dL_law_1664 : decode cL_law 1664 = .ok (.aload_n 1, 1) := by decide +kernel
theorem dL_law_1665 : decode cL_law 1665 = .ok (.aload_n 3, 1) := by decide +kernel
theorem dL_law_1666 : decode cL_law 1666 = .ok (.invokestatic 256, 3) := by decide +kernel
theorem dL_law_1669 : decode cL_law 1669 = .ok (.istore 6, 2) := by decide +kernel
theorem dL_law_1671 : decode cL_law 1671 = .ok (.aload_n 2, 1) := by decide +kernel
theorem dL_law_1672 : decode cL_law 1672 = .ok (.invokevirtual 258, 3) := by decide +kernel
theorem dL_law_1675 : decode cL_law 1675 = .ok (.istore 7, 2) := by decide +kernel
theorem dL_law_1677 : decode cL_law 1677 = .ok (.aload_n 2, 1) := by decide +kernel
theorem dL_law_1678 : decode cL_law 1678 = .ok (.invokevirtual 168, 3) := by decide +kernel
theorem dL_law_1681 : decode cL_law 1681 = .ok (.iload 6, 2) := by decide +kernel
theorem dL_law_1683 : decode cL_law 1683 = .ok (.if_icmp .eq 5, 3) := by decide +kernel
theorem dL_law_1686 : decode cL_law 1686 = .ok (.iconst 0, 1) := by decide +kernel
theorem dL_law_1687 : decode cL_law 1687 = .ok (.ireturn, 1) := by decide +kernel
theorem dL_law_1688 : decode cL_law 1688 = .ok (.iload 6, 2) := by decide +kernel
theorem dL_law_1690 : decode cL_law 1690 = .ok (.ifCond .ne 15, 3) := by decide +kernel
theorem dL_law_1693 : decode cL_law 1693 = .ok (.aload_n 3, 1) := by decide +kernel
theorem dL_law_1694 : decode cL_law 1694 = .ok (.iconst 0, 1) := by decide +kernel
theorem dL_law_1695 : decode cL_law 1695 = .ok (.laload, 1) := by decide +kernel
theorem dL_law_1696 : decode cL_law 1696 = .ok (.iload 7, 2) := by decide +kernel
theorem dL_law_1698 : decode cL_law 1698 = .ok (.i2l, 1) := by decide +kernel
theorem dL_law_1699 : decode cL_law 1699 = .ok (.lcmp, 1) := by decide +kernel
theorem dL_law_1700 : decode cL_law 1700 = .ok (.ifCond .eq 5, 3) := by decide +kernel
theorem dL_law_1703 : decode cL_law 1703 = .ok (.iconst 0, 1) := by decide +kernel
theorem dL_law_1704 : decode cL_law 1704 = .ok (.ireturn, 1) := by decide +kernel
theorem dL_law_1705 : decode cL_law 1705 = .ok (.goto 1035, 3) := by decide +kernel
theorem dL_law_1708 : decode cL_law 1708 = .ok (.aload_n 1, 1) := by decide +kernel
theorem dL_law_1709 : decode cL_law 1709 = .ok (.aload_n 3, 1) := by decide +kernel
theorem dL_law_1710 : decode cL_law 1710 = .ok (.invokestatic 259, 3) := by decide +kernel
theorem dL_law_1713 : decode cL_law 1713 = .ok (.istore 6, 2) := by decide +kernel
theorem dL_law_1715 : decode cL_law 1715 = .ok (.aload_n 2, 1) := by decide +kernel
theorem dL_law_1716 : decode cL_law 1716 = .ok (.invokevirtual 261, 3) := by decide +kernel
theorem dL_law_1719 : decode cL_law 1719 = .ok (.istore 7, 2) := by decide +kernel
theorem dL_law_1721 : decode cL_law 1721 = .ok (.aload_n 2, 1) := by decide +kernel
theorem dL_law_1722 : decode cL_law 1722 = .ok (.invokevirtual 168, 3) := by decide +kernel
theorem dL_law_1725 : decode cL_law 1725 = .ok (.iload 6, 2) := by decide +kernel
theorem dL_law_1727 : decode cL_law 1727 = .ok (.if_icmp .eq 5, 3) := by decide +kernel
theorem dL_law_1730 : decode cL_law 1730 = .ok (.iconst 0, 1) := by decide +kernel
theorem dL_law_1731 : decode cL_law 1731 = .ok (.ireturn, 1) := by decide +kernel
theorem dL_law_1732 : decode cL_law 1732 = .ok (.iload 6, 2) := by decide +kernel
theorem dL_law_1734 : decode cL_law 1734 = .ok (.ifCond .ne 15, 3) := by decide +kernel
theorem dL_law_1737 : decode cL_law 1737 = .ok (.aload_n 3, 1) := by decide +kernel
theorem dL_law_1738 : decode cL_law 1738 = .ok (.iconst 0, 1) := by decide +kernel
theorem dL_law_1739 : decode cL_law 1739 = .ok (.laload, 1) := by decide +kernel
theorem dL_law_1740 : decode cL_law 1740 = .ok (.iload 7, 2) := by decide +kernel
theorem dL_law_1742 : decode cL_law 1742 = .ok (.i2l, 1) := by decide +kernel
theorem dL_law_1743 : decode cL_law 1743 = .ok (.lcmp, 1) := by decide +kernel
theorem dL_law_1744 : decode cL_law 1744 = .ok (.ifCond .eq 5, 3) := by decide +kernel
theorem dL_law_1747 : decode cL_law 1747 = .ok (.iconst 0, 1) := by decide +kernel
theorem dL_law_1748 : decode cL_law 1748 = .ok (.ireturn, 1) := by decide +kernel
theorem dL_law_1749 : decode cL_law 1749 = .ok (.goto 991, 3) := by decide +kernel
theorem dL_law_1752 : decode cL_law 1752 = .ok (.aload_n 1, 1) := by decide +kernel
theorem dL_law_1753 : decode cL_law 1753 = .ok (.aload 4, 2) := by decide +kernel
theorem dL_law_1755 : decode cL_law 1755 = .ok (.invokestatic 262, 3) := by decide +kernel
theorem dL_law_1758 : decode cL_law 1758 = .ok (.istore 6, 2) := by decide +kernel
theorem dL_law_1760 : decode cL_law 1760 = .ok (.aload_n 2, 1) := by decide +kernel
theorem dL_law_1761 : decode cL_law 1761 = .ok (.invokevirtual 265, 3) := by decide +kernel
theorem dL_law_1764 : decode cL_law 1764 = .ok (.dstore 7, 2) := by decide +kernel
theorem dL_law_1766 : decode cL_law 1766 = .ok (.aload_n 2, 1) := by decide +kernel
theorem dL_law_1767 : decode cL_law 1767 = .ok (.invokevirtual 168, 3) := by decide +kernel
theorem dL_law_1770 : decode cL_law 1770 = .ok (.iload 6, 2) := by decide +kernel
theorem dL_law_1772 : decode cL_law 1772 = .ok (.if_icmp .eq 5, 3) := by decide +kernel
theorem dL_law_1775 : decode cL_law 1775 = .ok (.iconst 0, 1) := by decide +kernel
theorem dL_law_1776 : decode cL_law 1776 = .ok (.ireturn, 1) := by decide +kernel
theorem dL_law_1777 : decode cL_law 1777 = .ok (.iload 6, 2) := by decide +kernel
theorem dL_law_1779 : decode cL_law 1779 = .ok (.ifCond .ne 35, 3) := by decide +kernel
theorem dL_law_1782 : decode cL_law 1782 = .ok (.aload 4, 2) := by decide +kernel
theorem dL_law_1784 : decode cL_law 1784 = .ok (.iconst 0, 1) := by decide +kernel
theorem dL_law_1785 : decode cL_law 1785 = .ok (.daload, 1) := by decide +kernel
theorem dL_law_1786 : decode cL_law 1786 = .ok (.dload 7, 2) := by decide +kernel
theorem dL_law_1788 : decode cL_law 1788 = .ok (.dcmp .l, 1) := by decide +kernel
theorem dL_law_1789 : decode cL_law 1789 = .ok (.ifCond .eq 25, 3) := by decide +kernel
theorem dL_law_1792 : decode cL_law 1792 = .ok (.aload 4, 2) := by decide +kernel
theorem dL_law_1794 : decode cL_law 1794 = .ok (.iconst 0, 1) := by decide +kernel
theorem dL_law_1795 : decode cL_law 1795 = .ok (.daload, 1) := by decide +kernel
theorem dL_law_1796 : decode cL_law 1796 = .ok (.aload 4, 2) := by decide +kernel
theorem dL_law_1798 : decode cL_law 1798 = .ok (.iconst 0, 1) := by decide +kernel
theorem dL_law_1799 : decode cL_law 1799 = .ok (.daload, 1) := by decide +kernel
theorem dL_law_1800 : decode cL_law 1800 = .ok (.dcmp .l, 1) := by decide +kernel
theorem dL_law_1801 : decode cL_law 1801 = .ok (.ifCond .eq 11, 3) := by decide +kernel
theorem dL_law_1804 : decode cL_law 1804 = .ok (.dload 7, 2) := by decide +kernel
theorem dL_law_1806 : decode cL_law 1806 = .ok (.dload 7, 2) := by decide +kernel
theorem dL_law_1808 : decode cL_law 1808 = .ok (.dcmp .l, 1) := by decide +kernel
theorem dL_law_1809 : decode cL_law 1809 = .ok (.ifCond .ne 5, 3) := by decide +kernel
theorem dL_law_1812 : decode cL_law 1812 = .ok (.iconst 0, 1) := by decide +kernel
theorem dL_law_1813 : decode cL_law 1813 = .ok (.ireturn, 1) := by decide +kernel
theorem dL_law_1814 : decode cL_law 1814 = .ok (.goto 926, 3) := by decide +kernel
theorem dL_law_1817 : decode cL_law 1817 = .ok (.aload_n 1, 1) := by decide +kernel
theorem dL_law_1818 : decode cL_law 1818 = .ok (.aload_n 0, 1) := by decide +kernel
theorem dL_law_1819 : decode cL_law 1819 = .ok (.iload 5, 2) := by decide +kernel
theorem dL_law_1821 : decode cL_law 1821 = .ok (.iconst 1, 1) := by decide +kernel
theorem dL_law_1822 : decode cL_law 1822 = .ok (.iadd, 1) := by decide +kernel
theorem dL_law_1823 : decode cL_law 1823 = .ok (.iaload, 1) := by decide +kernel
theorem dL_law_1824 : decode cL_law 1824 = .ok (.aload_n 3, 1) := by decide +kernel
theorem dL_law_1825 : decode cL_law 1825 = .ok (.invokestatic 266, 3) := by decide +kernel
theorem dL_law_1828 : decode cL_law 1828 = .ok (.istore 6, 2) := by decide +kernel
theorem dL_law_1830 : decode cL_law 1830 = .ok (.aload_n 2, 1) := by decide +kernel
theorem dL_law_1831 : decode cL_law 1831 = .ok (.aload_n 0, 1) := by decide +kernel
theorem dL_law_1832 : decode cL_law 1832 = .ok (.iload 5, 2) := by decide +kernel
theorem dL_law_1834 : decode cL_law 1834 = .ok (.iconst 1, 1) := by decide +kernel
theorem dL_law_1835 : decode cL_law 1835 = .ok (.iadd, 1) := by decide +kernel
theorem dL_law_1836 : decode cL_law 1836 = .ok (.iaload, 1) := by decide +kernel
theorem dL_law_1837 : decode cL_law 1837 = .ok (.invokevirtual 268, 3) := by decide +kernel
theorem dL_law_1840 : decode cL_law 1840 = .ok (.istore 7, 2) := by decide +kernel
theorem dL_law_1842 : decode cL_law 1842 = .ok (.aload_n 2, 1) := by decide +kernel
theorem dL_law_1843 : decode cL_law 1843 = .ok (.invokevirtual 168, 3) := by decide +kernel
theorem dL_law_1846 : decode cL_law 1846 = .ok (.iload 6, 2) := by decide +kernel
theorem dL_law_1848 : decode cL_law 1848 = .ok (.if_icmp .eq 5, 3) := by decide +kernel
theorem dL_law_1851 : decode cL_law 1851 = .ok (.iconst 0, 1) := by decide +kernel
theorem dL_law_1852 : decode cL_law 1852 = .ok (.ireturn, 1) := by decide +kernel
theorem dL_law_1853 : decode cL_law 1853 = .ok (.iload 6, 2) := by decide +kernel
theorem dL_law_1855 : decode cL_law 1855 = .ok (.ifCond .ne 15, 3) := by decide +kernel
theorem dL_law_1858 : decode cL_law 1858 = .ok (.aload_n 3, 1) := by decide +kernel
theorem dL_law_1859 : decode cL_law 1859 = .ok (.iconst 0, 1) := by decide +kernel
theorem dL_law_1860 : decode cL_law 1860 = .ok (.laload, 1) := by decide +kernel
theorem dL_law_1861 : decode cL_law 1861 = .ok (.iload 7, 2) := by decide +kernel
theorem dL_law_1863 : decode cL_law 1863 = .ok (.i2l, 1) := by decide +kernel
theorem dL_law_1864 : decode cL_law 1864 = .ok (.lcmp, 1) := by decide +kernel
theorem dL_law_1865 : decode cL_law 1865 = .ok (.ifCond .eq 5, 3) := by decide +kernel
theorem dL_law_1868 : decode cL_law 1868 = .ok (.iconst 0, 1) := by decide +kernel
theorem dL_law_1869 : decode cL_law 1869 = .ok (.ireturn, 1) := by decide +kernel
theorem dL_law_1870 : decode cL_law 1870 = .ok (.goto 870, 3) := by decide +kernel
theorem dL_law_1873 : decode cL_law 1873 = .ok (.aload_n 1, 1) := by decide +kernel
theorem dL_law_1874 : decode cL_law 1874 = .ok (.aload_n 0, 1) := by decide +kernel
theorem dL_law_1875 : decode cL_law 1875 = .ok (.iload 5, 2) := by decide +kernel
theorem dL_law_1877 : decode cL_law 1877 = .ok (.iconst 1, 1) := by decide +kernel
theorem dL_law_1878 : decode cL_law 1878 = .ok (.iadd, 1) := by decide +kernel
theorem dL_law_1879 : decode cL_law 1879 = .ok (.iaload, 1) := by decide +kernel
theorem dL_law_1880 : decode cL_law 1880 = .ok (.aload_n 0, 1) := by decide +kernel
theorem dL_law_1881 : decode cL_law 1881 = .ok (.iload 5, 2) := by decide +kernel
theorem dL_law_1883 : decode cL_law 1883 = .ok (.iconst 2, 1) := by decide +kernel
theorem dL_law_1884 : decode cL_law 1884 = .ok (.iadd, 1) := by decide +kernel
theorem dL_law_1885 : decode cL_law 1885 = .ok (.iaload, 1) := by decide +kernel
theorem dL_law_1886 : decode cL_law 1886 = .ok (.aload_n 3, 1) := by decide +kernel
theorem dL_law_1887 : decode cL_law 1887 = .ok (.invokestatic 269, 3) := by decide +kernel
theorem dL_law_1890 : decode cL_law 1890 = .ok (.istore 6, 2) := by decide +kernel
theorem dL_law_1892 : decode cL_law 1892 = .ok (.aload_n 2, 1) := by decide +kernel
theorem dL_law_1893 : decode cL_law 1893 = .ok (.aload_n 0, 1) := by decide +kernel
theorem dL_law_1894 : decode cL_law 1894 = .ok (.iload 5, 2) := by decide +kernel
theorem dL_law_1896 : decode cL_law 1896 = .ok (.iconst 1, 1) := by decide +kernel
theorem dL_law_1897 : decode cL_law 1897 = .ok (.iadd, 1) := by decide +kernel
theorem dL_law_1898 : decode cL_law 1898 = .ok (.iaload, 1) := by decide +kernel
theorem dL_law_1899 : decode cL_law 1899 = .ok (.aload_n 0, 1) := by decide +kernel
theorem dL_law_1900 : decode cL_law 1900 = .ok (.iload 5, 2) := by decide +kernel
theorem dL_law_1902 : decode cL_law 1902 = .ok (.iconst 2, 1) := by decide +kernel
theorem dL_law_1903 : decode cL_law 1903 = .ok (.iadd, 1) := by decide +kernel
theorem dL_law_1904 : decode cL_law 1904 = .ok (.iaload, 1) := by decide +kernel
theorem dL_law_1905 : decode cL_law 1905 = .ok (.invokevirtual 271, 3) := by decide +kernel
theorem dL_law_1908 : decode cL_law 1908 = .ok (.istore 7, 2) := by decide +kernel
theorem dL_law_1910 : decode cL_law 1910 = .ok (.aload_n 2, 1) := by decide +kernel
theorem dL_law_1911 : decode cL_law 1911 = .ok (.invokevirtual 168, 3) := by decide +kernel
theorem dL_law_1914 : decode cL_law 1914 = .ok (.iload 6, 2) := by decide +kernel
theorem dL_law_1916 : decode cL_law 1916 = .ok (.if_icmp .eq 5, 3) := by decide +kernel
theorem dL_law_1919 : decode cL_law 1919 = .ok (.iconst 0, 1) := by decide +kernel
theorem dL_law_1920 : decode cL_law 1920 = .ok (.ireturn, 1) := by decide +kernel
theorem dL_law_1921 : decode cL_law 1921 = .ok (.iload 6, 2) := by decide +kernel
theorem dL_law_1923 : decode cL_law 1923 = .ok (.ifCond .ne 15, 3) := by decide +kernel
theorem dL_law_1926 : decode cL_law 1926 = .ok (.aload_n 3, 1) := by decide +kernel
theorem dL_law_1927 : decode cL_law 1927 = .ok (.iconst 0, 1) := by decide +kernel
theorem dL_law_1928 : decode cL_law 1928 = .ok (.laload, 1) := by decide +kernel
theorem dL_law_1929 : decode cL_law 1929 = .ok (.iload 7, 2) := by decide +kernel
theorem dL_law_1931 : decode cL_law 1931 = .ok (.i2l, 1) := by decide +kernel
theorem dL_law_1932 : decode cL_law 1932 = .ok (.lcmp, 1) := by decide +kernel
theorem dL_law_1933 : decode cL_law 1933 = .ok (.ifCond .eq 5, 3) := by decide +kernel
theorem dL_law_1936 : decode cL_law 1936 = .ok (.iconst 0, 1) := by decide +kernel
theorem dL_law_1937 : decode cL_law 1937 = .ok (.ireturn, 1) := by decide +kernel
theorem dL_law_1938 : decode cL_law 1938 = .ok (.goto 802, 3) := by decide +kernel
theorem dL_law_1941 : decode cL_law 1941 = .ok (.aload_n 1, 1) := by decide +kernel
theorem dL_law_1942 : decode cL_law 1942 = .ok (.aload_n 0, 1) := by decide +kernel
theorem dL_law_1943 : decode cL_law 1943 = .ok (.iload 5, 2) := by decide +kernel
theorem dL_law_1945 : decode cL_law 1945 = .ok (.iconst 1, 1) := by decide +kernel
theorem dL_law_1946 : decode cL_law 1946 = .ok (.iadd, 1) := by decide +kernel
theorem dL_law_1947 : decode cL_law 1947 = .ok (.iaload, 1) := by decide +kernel
theorem dL_law_1948 : decode cL_law 1948 = .ok (.aload_n 0, 1) := by decide +kernel
theorem dL_law_1949 : decode cL_law 1949 = .ok (.iload 5, 2) := by decide +kernel
theorem dL_law_1951 : decode cL_law 1951 = .ok (.iconst 2, 1) := by decide +kernel
theorem dL_law_1952 : decode cL_law 1952 = .ok (.iadd, 1) := by decide +kernel
theorem dL_law_1953 : decode cL_law 1953 = .ok (.iaload, 1) := by decide +kernel
theorem dL_law_1954 : decode cL_law 1954 = .ok (.aload_n 3, 1) := by decide +kernel
theorem dL_law_1955 : decode cL_law 1955 = .ok (.invokestatic 272, 3) := by decide +kernel
theorem dL_law_1958 : decode cL_law 1958 = .ok (.istore 6, 2) := by decide +kernel
theorem dL_law_1960 : decode cL_law 1960 = .ok (.aload_n 2, 1) := by decide +kernel
theorem dL_law_1961 : decode cL_law 1961 = .ok (.aload_n 0, 1) := by decide +kernel
theorem dL_law_1962 : decode cL_law 1962 = .ok (.iload 5, 2) := by decide +kernel
theorem dL_law_1964 : decode cL_law 1964 = .ok (.iconst 1, 1) := by decide +kernel
theorem dL_law_1965 : decode cL_law 1965 = .ok (.iadd, 1) := by decide +kernel
theorem dL_law_1966 : decode cL_law 1966 = .ok (.iaload, 1) := by decide +kernel
theorem dL_law_1967 : decode cL_law 1967 = .ok (.aload_n 0, 1) := by decide +kernel
theorem dL_law_1968 : decode cL_law 1968 = .ok (.iload 5, 2) := by decide +kernel
theorem dL_law_1970 : decode cL_law 1970 = .ok (.iconst 2, 1) := by decide +kernel
theorem dL_law_1971 : decode cL_law 1971 = .ok (.iadd, 1) := by decide +kernel
theorem dL_law_1972 : decode cL_law 1972 = .ok (.iaload, 1) := by decide +kernel
theorem dL_law_1973 : decode cL_law 1973 = .ok (.invokevirtual 274, 3) := by decide +kernel
theorem dL_law_1976 : decode cL_law 1976 = .ok (.istore 7, 2) := by decide +kernel
theorem dL_law_1978 : decode cL_law 1978 = .ok (.aload_n 2, 1) := by decide +kernel
theorem dL_law_1979 : decode cL_law 1979 = .ok (.invokevirtual 168, 3) := by decide +kernel
theorem dL_law_1982 : decode cL_law 1982 = .ok (.iload 6, 2) := by decide +kernel
theorem dL_law_1984 : decode cL_law 1984 = .ok (.if_icmp .eq 5, 3) := by decide +kernel
theorem dL_law_1987 : decode cL_law 1987 = .ok (.iconst 0, 1) := by decide +kernel
theorem dL_law_1988 : decode cL_law 1988 = .ok (.ireturn, 1) := by decide +kernel
theorem dL_law_1989 : decode cL_law 1989 = .ok (.iload 6, 2) := by decide +kernel
theorem dL_law_1991 : decode cL_law 1991 = .ok (.ifCond .ne 15, 3) := by decide +kernel
theorem dL_law_1994 : decode cL_law 1994 = .ok (.aload_n 3, 1) := by decide +kernel
theorem dL_law_1995 : decode cL_law 1995 = .ok (.iconst 0, 1) := by decide +kernel
theorem dL_law_1996 : decode cL_law 1996 = .ok (.laload, 1) := by decide +kernel
theorem dL_law_1997 : decode cL_law 1997 = .ok (.iload 7, 2) := by decide +kernel
theorem dL_law_1999 : decode cL_law 1999 = .ok (.i2l, 1) := by decide +kernel
theorem dL_law_2000 : decode cL_law 2000 = .ok (.lcmp, 1) := by decide +kernel
theorem dL_law_2001 : decode cL_law 2001 = .ok (.ifCond .eq 5, 3) := by decide +kernel
theorem dL_law_2004 : decode cL_law 2004 = .ok (.iconst 0, 1) := by decide +kernel
theorem dL_law_2005 : decode cL_law 2005 = .ok (.ireturn, 1) := by decide +kernel
theorem dL_law_2006 : decode cL_law 2006 = .ok (.goto 734, 3) := by decide +kernel
theorem dL_law_2009 : decode cL_law 2009 = .ok (.aload_n 1, 1) := by decide +kernel
theorem dL_law_2010 : decode cL_law 2010 = .ok (.aload_n 0, 1) := by decide +kernel
theorem dL_law_2011 : decode cL_law 2011 = .ok (.iload 5, 2) := by decide +kernel
theorem dL_law_2013 : decode cL_law 2013 = .ok (.iconst 1, 1) := by decide +kernel
theorem dL_law_2014 : decode cL_law 2014 = .ok (.iadd, 1) := by decide +kernel
theorem dL_law_2015 : decode cL_law 2015 = .ok (.iaload, 1) := by decide +kernel
theorem dL_law_2016 : decode cL_law 2016 = .ok (.aload_n 0, 1) := by decide +kernel
theorem dL_law_2017 : decode cL_law 2017 = .ok (.iload 5, 2) := by decide +kernel
theorem dL_law_2019 : decode cL_law 2019 = .ok (.iconst 2, 1) := by decide +kernel
theorem dL_law_2020 : decode cL_law 2020 = .ok (.iadd, 1) := by decide +kernel
theorem dL_law_2021 : decode cL_law 2021 = .ok (.iaload, 1) := by decide +kernel
theorem dL_law_2022 : decode cL_law 2022 = .ok (.aload_n 3, 1) := by decide +kernel
theorem dL_law_2023 : decode cL_law 2023 = .ok (.invokestatic 275, 3) := by decide +kernel
theorem dL_law_2026 : decode cL_law 2026 = .ok (.istore 6, 2) := by decide +kernel
theorem dL_law_2028 : decode cL_law 2028 = .ok (.aload_n 2, 1) := by decide +kernel
theorem dL_law_2029 : decode cL_law 2029 = .ok (.aload_n 0, 1) := by decide +kernel
theorem dL_law_2030 : decode cL_law 2030 = .ok (.iload 5, 2) := by decide +kernel
theorem dL_law_2032 : decode cL_law 2032 = .ok (.iconst 1, 1) := by decide +kernel
theorem dL_law_2033 : decode cL_law 2033 = .ok (.iadd, 1) := by decide +kernel
theorem dL_law_2034 : decode cL_law 2034 = .ok (.iaload, 1) := by decide +kernel
theorem dL_law_2035 : decode cL_law 2035 = .ok (.aload_n 0, 1) := by decide +kernel
theorem dL_law_2036 : decode cL_law 2036 = .ok (.iload 5, 2) := by decide +kernel
theorem dL_law_2038 : decode cL_law 2038 = .ok (.iconst 2, 1) := by decide +kernel
theorem dL_law_2039 : decode cL_law 2039 = .ok (.iadd, 1) := by decide +kernel
theorem dL_law_2040 : decode cL_law 2040 = .ok (.iaload, 1) := by decide +kernel
theorem dL_law_2041 : decode cL_law 2041 = .ok (.invokevirtual 277, 3) := by decide +kernel
theorem dL_law_2044 : decode cL_law 2044 = .ok (.istore 7, 2) := by decide +kernel
theorem dL_law_2046 : decode cL_law 2046 = .ok (.aload_n 2, 1) := by decide +kernel
theorem dL_law_2047 : decode cL_law 2047 = .ok (.invokevirtual 168, 3) := by decide +kernel
theorem dL_law_2050 : decode cL_law 2050 = .ok (.iload 6, 2) := by decide +kernel
theorem dL_law_2052 : decode cL_law 2052 = .ok (.if_icmp .eq 5, 3) := by decide +kernel
theorem dL_law_2055 : decode cL_law 2055 = .ok (.iconst 0, 1) := by decide +kernel
theorem dL_law_2056 : decode cL_law 2056 = .ok (.ireturn, 1) := by decide +kernel
theorem dL_law_2057 : decode cL_law 2057 = .ok (.iload 6, 2) := by decide +kernel
theorem dL_law_2059 : decode cL_law 2059 = .ok (.ifCond .ne 15, 3) := by decide +kernel
theorem dL_law_2062 : decode cL_law 2062 = .ok (.aload_n 3, 1) := by decide +kernel
theorem dL_law_2063 : decode cL_law 2063 = .ok (.iconst 0, 1) := by decide +kernel
theorem dL_law_2064 : decode cL_law 2064 = .ok (.laload, 1) := by decide +kernel
theorem dL_law_2065 : decode cL_law 2065 = .ok (.iload 7, 2) := by decide +kernel
theorem dL_law_2067 : decode cL_law 2067 = .ok (.i2l, 1) := by decide +kernel
theorem dL_law_2068 : decode cL_law 2068 = .ok (.lcmp, 1) := by decide +kernel
theorem dL_law_2069 : decode cL_law 2069 = .ok (.ifCond .eq 5, 3) := by decide +kernel
theorem dL_law_2072 : decode cL_law 2072 = .ok (.iconst 0, 1) := by decide +kernel
theorem dL_law_2073 : decode cL_law 2073 = .ok (.ireturn, 1) := by decide +kernel
theorem dL_law_2074 : decode cL_law 2074 = .ok (.goto 666, 3) := by decide +kernel
theorem dL_law_2077 : decode cL_law 2077 = .ok (.aload_n 1, 1) := by decide +kernel
theorem dL_law_2078 : decode cL_law 2078 = .ok (.aload_n 3, 1) := by decide +kernel
theorem dL_law_2079 : decode cL_law 2079 = .ok (.invokestatic 278, 3) := by decide +kernel
theorem dL_law_2082 : decode cL_law 2082 = .ok (.istore 6, 2) := by decide +kernel
theorem dL_law_2084 : decode cL_law 2084 = .ok (.aload_n 2, 1) := by decide +kernel
theorem dL_law_2085 : decode cL_law 2085 = .ok (.invokevirtual 280, 3) := by decide +kernel
theorem dL_law_2088 : decode cL_law 2088 = .ok (.istore 7, 2) := by decide +kernel
theorem dL_law_2090 : decode cL_law 2090 = .ok (.aload_n 2, 1) := by decide +kernel
theorem dL_law_2091 : decode cL_law 2091 = .ok (.invokevirtual 168, 3) := by decide +kernel
theorem dL_law_2094 : decode cL_law 2094 = .ok (.iload 6, 2) := by decide +kernel
theorem dL_law_2096 : decode cL_law 2096 = .ok (.if_icmp .eq 5, 3) := by decide +kernel
theorem dL_law_2099 : decode cL_law 2099 = .ok (.iconst 0, 1) := by decide +kernel
theorem dL_law_2100 : decode cL_law 2100 = .ok (.ireturn, 1) := by decide +kernel
theorem dL_law_2101 : decode cL_law 2101 = .ok (.iload 6, 2) := by decide +kernel
theorem dL_law_2103 : decode cL_law 2103 = .ok (.ifCond .ne 15, 3) := by decide +kernel
theorem dL_law_2106 : decode cL_law 2106 = .ok (.aload_n 3, 1) := by decide +kernel
theorem dL_law_2107 : decode cL_law 2107 = .ok (.iconst 0, 1) := by decide +kernel
theorem dL_law_2108 : decode cL_law 2108 = .ok (.laload, 1) := by decide +kernel
theorem dL_law_2109 : decode cL_law 2109 = .ok (.iload 7, 2) := by decide +kernel
theorem dL_law_2111 : decode cL_law 2111 = .ok (.i2l, 1) := by decide +kernel
theorem dL_law_2112 : decode cL_law 2112 = .ok (.lcmp, 1) := by decide +kernel
theorem dL_law_2113 : decode cL_law 2113 = .ok (.ifCond .eq 5, 3) := by decide +kernel
theorem dL_law_2116 : decode cL_law 2116 = .ok (.iconst 0, 1) := by decide +kernel
theorem dL_law_2117 : decode cL_law 2117 = .ok (.ireturn, 1) := by decide +kernel
theorem dL_law_2118 : decode cL_law 2118 = .ok (.goto 622, 3) := by decide +kernel
theorem dL_law_2121 : decode cL_law 2121 = .ok (.aload_n 1, 1) := by decide +kernel
theorem dL_law_2122 : decode cL_law 2122 = .ok (.aload_n 0, 1) := by decide +kernel
theorem dL_law_2123 : decode cL_law 2123 = .ok (.iload 5, 2) := by decide +kernel
theorem dL_law_2125 : decode cL_law 2125 = .ok (.iconst 1, 1) := by decide +kernel
theorem dL_law_2126 : decode cL_law 2126 = .ok (.iadd, 1) := by decide +kernel
theorem dL_law_2127 : decode cL_law 2127 = .ok (.iaload, 1) := by decide +kernel
theorem dL_law_2128 : decode cL_law 2128 = .ok (.aload_n 3, 1) := by decide +kernel
theorem dL_law_2129 : decode cL_law 2129 = .ok (.invokestatic 281, 3) := by decide +kernel
theorem dL_law_2132 : decode cL_law 2132 = .ok (.istore 6, 2) := by decide +kernel
theorem dL_law_2134 : decode cL_law 2134 = .ok (.aload_n 2, 1) := by decide +kernel
theorem dL_law_2135 : decode cL_law 2135 = .ok (.aload_n 0, 1) := by decide +kernel
theorem dL_law_2136 : decode cL_law 2136 = .ok (.iload 5, 2) := by decide +kernel
theorem dL_law_2138 : decode cL_law 2138 = .ok (.iconst 1, 1) := by decide +kernel
theorem dL_law_2139 : decode cL_law 2139 = .ok (.iadd, 1) := by decide +kernel
theorem dL_law_2140 : decode cL_law 2140 = .ok (.iaload, 1) := by decide +kernel
theorem dL_law_2141 : decode cL_law 2141 = .ok (.invokevirtual 283, 3) := by decide +kernel
theorem dL_law_2144 : decode cL_law 2144 = .ok (.istore 7, 2) := by decide +kernel
theorem dL_law_2146 : decode cL_law 2146 = .ok (.aload_n 2, 1) := by decide +kernel
theorem dL_law_2147 : decode cL_law 2147 = .ok (.invokevirtual 168, 3) := by decide +kernel
theorem dL_law_2150 : decode cL_law 2150 = .ok (.iload 6, 2) := by decide +kernel
theorem dL_law_2152 : decode cL_law 2152 = .ok (.if_icmp .eq 5, 3) := by decide +kernel
theorem dL_law_2155 : decode cL_law 2155 = .ok (.iconst 0, 1) := by decide +kernel
theorem dL_law_2156 : decode cL_law 2156 = .ok (.ireturn, 1) := by decide +kernel
theorem dL_law_2157 : decode cL_law 2157 = .ok (.iload 6, 2) := by decide +kernel
theorem dL_law_2159 : decode cL_law 2159 = .ok (.ifCond .ne 15, 3) := by decide +kernel
theorem dL_law_2162 : decode cL_law 2162 = .ok (.aload_n 3, 1) := by decide +kernel
theorem dL_law_2163 : decode cL_law 2163 = .ok (.iconst 0, 1) := by decide +kernel
theorem dL_law_2164 : decode cL_law 2164 = .ok (.laload, 1) := by decide +kernel
theorem dL_law_2165 : decode cL_law 2165 = .ok (.iload 7, 2) := by decide +kernel
theorem dL_law_2167 : decode cL_law 2167 = .ok (.i2l, 1) := by decide +kernel
theorem dL_law_2168 : decode cL_law 2168 = .ok (.lcmp, 1) := by decide +kernel
theorem dL_law_2169 : decode cL_law 2169 = .ok (.ifCond .eq 5, 3) := by decide +kernel
theorem dL_law_2172 : decode cL_law 2172 = .ok (.iconst 0, 1) := by decide +kernel
theorem dL_law_2173 : decode cL_law 2173 = .ok (.ireturn, 1) := by decide +kernel
theorem dL_law_2174 : decode cL_law 2174 = .ok (.goto 566, 3) := by decide +kernel
theorem dL_law_2177 : decode cL_law 2177 = .ok (.aload_n 1, 1) := by decide +kernel
theorem dL_law_2178 : decode cL_law 2178 = .ok (.aload_n 3, 1) := by decide +kernel
theorem dL_law_2179 : decode cL_law 2179 = .ok (.invokestatic 284, 3) := by decide +kernel
theorem dL_law_2182 : decode cL_law 2182 = .ok (.istore 6, 2) := by decide +kernel
theorem dL_law_2184 : decode cL_law 2184 = .ok (.aload_n 2, 1) := by decide +kernel
theorem dL_law_2185 : decode cL_law 2185 = .ok (.invokevirtual 286, 3) := by decide +kernel
theorem dL_law_2188 : decode cL_law 2188 = .ok (.istore 7, 2) := by decide +kernel
theorem dL_law_2190 : decode cL_law 2190 = .ok (.aload_n 2, 1) := by decide +kernel
theorem dL_law_2191 : decode cL_law 2191 = .ok (.invokevirtual 168, 3) := by decide +kernel
theorem dL_law_2194 : decode cL_law 2194 = .ok (.iload 6, 2) := by decide +kernel
theorem dL_law_2196 : decode cL_law 2196 = .ok (.if_icmp .eq 5, 3) := by decide +kernel
theorem dL_law_2199 : decode cL_law 2199 = .ok (.iconst 0, 1) := by decide +kernel
theorem dL_law_2200 : decode cL_law 2200 = .ok (.ireturn, 1) := by decide +kernel
theorem dL_law_2201 : decode cL_law 2201 = .ok (.iload 6, 2) := by decide +kernel
theorem dL_law_2203 : decode cL_law 2203 = .ok (.ifCond .ne 15, 3) := by decide +kernel
theorem dL_law_2206 : decode cL_law 2206 = .ok (.aload_n 3, 1) := by decide +kernel
theorem dL_law_2207 : decode cL_law 2207 = .ok (.iconst 0, 1) := by decide +kernel
theorem dL_law_2208 : decode cL_law 2208 = .ok (.laload, 1) := by decide +kernel
theorem dL_law_2209 : decode cL_law 2209 = .ok (.iload 7, 2) := by decide +kernel
theorem dL_law_2211 : decode cL_law 2211 = .ok (.i2l, 1) := by decide +kernel
theorem dL_law_2212 : decode cL_law 2212 = .ok (.lcmp, 1) := by decide +kernel
theorem dL_law_2213 : decode cL_law 2213 = .ok (.ifCond .eq 5, 3) := by decide +kernel
theorem dL_law_2216 : decode cL_law 2216 = .ok (.iconst 0, 1) := by decide +kernel
theorem dL_law_2217 : decode cL_law 2217 = .ok (.ireturn, 1) := by decide +kernel
theorem dL_law_2218 : decode cL_law 2218 = .ok (.goto 522, 3) := by decide +kernel
theorem dL_law_2221 : decode cL_law 2221 = .ok (.aload_n 1, 1) := by decide +kernel
theorem dL_law_2222 : decode cL_law 2222 = .ok (.aload_n 0, 1) := by decide +kernel
theorem dL_law_2223 : decode cL_law 2223 = .ok (.iload 5, 2) := by decide +kernel
theorem dL_law_2225 : decode cL_law 2225 = .ok (.iconst 1, 1) := by decide +kernel
theorem dL_law_2226 : decode cL_law 2226 = .ok (.iadd, 1) := by decide +kernel
theorem dL_law_2227 : decode cL_law 2227 = .ok (.iaload, 1) := by decide +kernel
theorem dL_law_2228 : decode cL_law 2228 = .ok (.aload_n 3, 1) := by decide +kernel
theorem dL_law_2229 : decode cL_law 2229 = .ok (.invokestatic 287, 3) := by decide +kernel
theorem dL_law_2232 : decode cL_law 2232 = .ok (.istore 6, 2) := by decide +kernel
theorem dL_law_2234 : decode cL_law 2234 = .ok (.aload_n 2, 1) := by decide +kernel
theorem dL_law_2235 : decode cL_law 2235 = .ok (.aload_n 0, 1) := by decide +kernel
theorem dL_law_2236 : decode cL_law 2236 = .ok (.iload 5, 2) := by decide +kernel
theorem dL_law_2238 : decode cL_law 2238 = .ok (.iconst 1, 1) := by decide +kernel
theorem dL_law_2239 : decode cL_law 2239 = .ok (.iadd, 1) := by decide +kernel
theorem dL_law_2240 : decode cL_law 2240 = .ok (.iaload, 1) := by decide +kernel
theorem dL_law_2241 : decode cL_law 2241 = .ok (.invokevirtual 289, 3) := by decide +kernel
theorem dL_law_2244 : decode cL_law 2244 = .ok (.istore 7, 2) := by decide +kernel
theorem dL_law_2246 : decode cL_law 2246 = .ok (.aload_n 2, 1) := by decide +kernel
theorem dL_law_2247 : decode cL_law 2247 = .ok (.invokevirtual 168, 3) := by decide +kernel
theorem dL_law_2250 : decode cL_law 2250 = .ok (.iload 6, 2) := by decide +kernel
theorem dL_law_2252 : decode cL_law 2252 = .ok (.if_icmp .eq 5, 3) := by decide +kernel
theorem dL_law_2255 : decode cL_law 2255 = .ok (.iconst 0, 1) := by decide +kernel
theorem dL_law_2256 : decode cL_law 2256 = .ok (.ireturn, 1) := by decide +kernel
theorem dL_law_2257 : decode cL_law 2257 = .ok (.iload 6, 2) := by decide +kernel
theorem dL_law_2259 : decode cL_law 2259 = .ok (.ifCond .ne 15, 3) := by decide +kernel
theorem dL_law_2262 : decode cL_law 2262 = .ok (.aload_n 3, 1) := by decide +kernel
theorem dL_law_2263 : decode cL_law 2263 = .ok (.iconst 0, 1) := by decide +kernel
theorem dL_law_2264 : decode cL_law 2264 = .ok (.laload, 1) := by decide +kernel
theorem dL_law_2265 : decode cL_law 2265 = .ok (.iload 7, 2) := by decide +kernel
theorem dL_law_2267 : decode cL_law 2267 = .ok (.i2l, 1) := by decide +kernel
theorem dL_law_2268 : decode cL_law 2268 = .ok (.lcmp, 1) := by decide +kernel
theorem dL_law_2269 : decode cL_law 2269 = .ok (.ifCond .eq 5, 3) := by decide +kernel
theorem dL_law_2272 : decode cL_law 2272 = .ok (.iconst 0, 1) := by decide +kernel
theorem dL_law_2273 : decode cL_law 2273 = .ok (.ireturn, 1) := by decide +kernel
theorem dL_law_2274 : decode cL_law 2274 = .ok (.goto 466, 3) := by decide +kernel
theorem dL_law_2277 : decode cL_law 2277 = .ok (.aload_n 1, 1) := by decide +kernel
theorem dL_law_2278 : decode cL_law 2278 = .ok (.aload_n 0, 1) := by decide +kernel
theorem dL_law_2279 : decode cL_law 2279 = .ok (.iload 5, 2) := by decide +kernel
theorem dL_law_2281 : decode cL_law 2281 = .ok (.iconst 1, 1) := by decide +kernel
theorem dL_law_2282 : decode cL_law 2282 = .ok (.iadd, 1) := by decide +kernel
theorem dL_law_2283 : decode cL_law 2283 = .ok (.iaload, 1) := by decide +kernel
theorem dL_law_2284 : decode cL_law 2284 = .ok (.aload_n 3, 1) := by decide +kernel
theorem dL_law_2285 : decode cL_law 2285 = .ok (.invokestatic 290, 3) := by decide +kernel
theorem dL_law_2288 : decode cL_law 2288 = .ok (.istore 6, 2) := by decide +kernel
theorem dL_law_2290 : decode cL_law 2290 = .ok (.aload_n 2, 1) := by decide +kernel
theorem dL_law_2291 : decode cL_law 2291 = .ok (.aload_n 0, 1) := by decide +kernel
theorem dL_law_2292 : decode cL_law 2292 = .ok (.iload 5, 2) := by decide +kernel
theorem dL_law_2294 : decode cL_law 2294 = .ok (.iconst 1, 1) := by decide +kernel
theorem dL_law_2295 : decode cL_law 2295 = .ok (.iadd, 1) := by decide +kernel
theorem dL_law_2296 : decode cL_law 2296 = .ok (.iaload, 1) := by decide +kernel
theorem dL_law_2297 : decode cL_law 2297 = .ok (.invokevirtual 292, 3) := by decide +kernel
theorem dL_law_2300 : decode cL_law 2300 = .ok (.istore 7, 2) := by decide +kernel
theorem dL_law_2302 : decode cL_law 2302 = .ok (.aload_n 2, 1) := by decide +kernel
theorem dL_law_2303 : decode cL_law 2303 = .ok (.invokevirtual 168, 3) := by decide +kernel
theorem dL_law_2306 : decode cL_law 2306 = .ok (.iload 6, 2) := by decide +kernel
theorem dL_law_2308 : decode cL_law 2308 = .ok (.if_icmp .eq 5, 3) := by decide +kernel
theorem dL_law_2311 : decode cL_law 2311 = .ok (.iconst 0, 1) := by decide +kernel
theorem dL_law_2312 : decode cL_law 2312 = .ok (.ireturn, 1) := by decide +kernel
theorem dL_law_2313 : decode cL_law 2313 = .ok (.iload 6, 2) := by decide +kernel
theorem dL_law_2315 : decode cL_law 2315 = .ok (.ifCond .ne 15, 3) := by decide +kernel
theorem dL_law_2318 : decode cL_law 2318 = .ok (.aload_n 3, 1) := by decide +kernel
theorem dL_law_2319 : decode cL_law 2319 = .ok (.iconst 0, 1) := by decide +kernel
theorem dL_law_2320 : decode cL_law 2320 = .ok (.laload, 1) := by decide +kernel
theorem dL_law_2321 : decode cL_law 2321 = .ok (.iload 7, 2) := by decide +kernel
theorem dL_law_2323 : decode cL_law 2323 = .ok (.i2l, 1) := by decide +kernel
theorem dL_law_2324 : decode cL_law 2324 = .ok (.lcmp, 1) := by decide +kernel
theorem dL_law_2325 : decode cL_law 2325 = .ok (.ifCond .eq 5, 3) := by decide +kernel
theorem dL_law_2328 : decode cL_law 2328 = .ok (.iconst 0, 1) := by decide +kernel
theorem dL_law_2329 : decode cL_law 2329 = .ok (.ireturn, 1) := by decide +kernel
theorem dL_law_2330 : decode cL_law 2330 = .ok (.goto 410, 3) := by decide +kernel
theorem dL_law_2333 : decode cL_law 2333 = .ok (.aload_n 1, 1) := by decide +kernel
theorem dL_law_2334 : decode cL_law 2334 = .ok (.aload_n 3, 1) := by decide +kernel
theorem dL_law_2335 : decode cL_law 2335 = .ok (.invokestatic 293, 3) := by decide +kernel
theorem dL_law_2338 : decode cL_law 2338 = .ok (.istore 6, 2) := by decide +kernel
theorem dL_law_2340 : decode cL_law 2340 = .ok (.aload_n 2, 1) := by decide +kernel
theorem dL_law_2341 : decode cL_law 2341 = .ok (.invokevirtual 295, 3) := by decide +kernel
theorem dL_law_2344 : decode cL_law 2344 = .ok (.istore 7, 2) := by decide +kernel
theorem dL_law_2346 : decode cL_law 2346 = .ok (.aload_n 2, 1) := by decide +kernel
theorem dL_law_2347 : decode cL_law 2347 = .ok (.invokevirtual 168, 3) := by decide +kernel
theorem dL_law_2350 : decode cL_law 2350 = .ok (.iload 6, 2) := by decide +kernel
theorem dL_law_2352 : decode cL_law 2352 = .ok (.if_icmp .eq 5, 3) := by decide +kernel
theorem dL_law_2355 : decode cL_law 2355 = .ok (.iconst 0, 1) := by decide +kernel
theorem dL_law_2356 : decode cL_law 2356 = .ok (.ireturn, 1) := by decide +kernel
theorem dL_law_2357 : decode cL_law 2357 = .ok (.iload 6, 2) := by decide +kernel
theorem dL_law_2359 : decode cL_law 2359 = .ok (.ifCond .ne 15, 3) := by decide +kernel
theorem dL_law_2362 : decode cL_law 2362 = .ok (.aload_n 3, 1) := by decide +kernel
theorem dL_law_2363 : decode cL_law 2363 = .ok (.iconst 0, 1) := by decide +kernel
theorem dL_law_2364 : decode cL_law 2364 = .ok (.laload, 1) := by decide +kernel
theorem dL_law_2365 : decode cL_law 2365 = .ok (.iload 7, 2) := by decide +kernel
theorem dL_law_2367 : decode cL_law 2367 = .ok (.i2l, 1) := by decide +kernel
theorem dL_law_2368 : decode cL_law 2368 = .ok (.lcmp, 1) := by decide +kernel
theorem dL_law_2369 : decode cL_law 2369 = .ok (.ifCond .eq 5, 3) := by decide +kernel
theorem dL_law_2372 : decode cL_law 2372 = .ok (.iconst 0, 1) := by decide +kernel
theorem dL_law_2373 : decode cL_law 2373 = .ok (.ireturn, 1) := by decide +kernel
theorem dL_law_2374 : decode cL_law 2374 = .ok (.goto 366, 3) := by decide +kernel
theorem dL_law_2377 : decode cL_law 2377 = .ok (.aload_n 1, 1) := by decide +kernel
theorem dL_law_2378 : decode cL_law 2378 = .ok (.aload_n 0, 1) := by decide +kernel
theorem dL_law_2379 : decode cL_law 2379 = .ok (.iload 5, 2) := by decide +kernel
theorem dL_law_2381 : decode cL_law 2381 = .ok (.iconst 1, 1) := by decide +kernel
theorem dL_law_2382 : decode cL_law 2382 = .ok (.iadd, 1) := by decide +kernel
theorem dL_law_2383 : decode cL_law 2383 = .ok (.iaload, 1) := by decide +kernel
theorem dL_law_2384 : decode cL_law 2384 = .ok (.i2c, 1) := by decide +kernel
theorem dL_law_2385 : decode cL_law 2385 = .ok (.aload_n 3, 1) := by decide +kernel
theorem dL_law_2386 : decode cL_law 2386 = .ok (.invokestatic 296, 3) := by decide +kernel
theorem dL_law_2389 : decode cL_law 2389 = .ok (.istore 6, 2) := by decide +kernel
theorem dL_law_2391 : decode cL_law 2391 = .ok (.aload_n 2, 1) := by decide +kernel
theorem dL_law_2392 : decode cL_law 2392 = .ok (.aload_n 0, 1) := by decide +kernel
theorem dL_law_2393 : decode cL_law 2393 = .ok (.iload 5, 2) := by decide +kernel
theorem dL_law_2395 : decode cL_law 2395 = .ok (.iconst 1, 1) := by decide +kernel
theorem dL_law_2396 : decode cL_law 2396 = .ok (.iadd, 1) := by decide +kernel
theorem dL_law_2397 : decode cL_law 2397 = .ok (.iaload, 1) := by decide +kernel
theorem dL_law_2398 : decode cL_law 2398 = .ok (.i2c, 1) := by decide +kernel
theorem dL_law_2399 : decode cL_law 2399 = .ok (.invokevirtual 299, 3) := by decide +kernel
theorem dL_law_2402 : decode cL_law 2402 = .ok (.istore 7, 2) := by decide +kernel
theorem dL_law_2404 : decode cL_law 2404 = .ok (.aload_n 2, 1) := by decide +kernel
theorem dL_law_2405 : decode cL_law 2405 = .ok (.invokevirtual 168, 3) := by decide +kernel
theorem dL_law_2408 : decode cL_law 2408 = .ok (.iload 6, 2) := by decide +kernel
theorem dL_law_2410 : decode cL_law 2410 = .ok (.if_icmp .eq 5, 3) := by decide +kernel
theorem dL_law_2413 : decode cL_law 2413 = .ok (.iconst 0, 1) := by decide +kernel
theorem dL_law_2414 : decode cL_law 2414 = .ok (.ireturn, 1) := by decide +kernel
theorem dL_law_2415 : decode cL_law 2415 = .ok (.iload 6, 2) := by decide +kernel
theorem dL_law_2417 : decode cL_law 2417 = .ok (.ifCond .ne 15, 3) := by decide +kernel
theorem dL_law_2420 : decode cL_law 2420 = .ok (.aload_n 3, 1) := by decide +kernel
theorem dL_law_2421 : decode cL_law 2421 = .ok (.iconst 0, 1) := by decide +kernel
theorem dL_law_2422 : decode cL_law 2422 = .ok (.laload, 1) := by decide +kernel
theorem dL_law_2423 : decode cL_law 2423 = .ok (.iload 7, 2) := by decide +kernel
theorem dL_law_2425 : decode cL_law 2425 = .ok (.i2l, 1) := by decide +kernel
theorem dL_law_2426 : decode cL_law 2426 = .ok (.lcmp, 1) := by decide +kernel
theorem dL_law_2427 : decode cL_law 2427 = .ok (.ifCond .eq 5, 3) := by decide +kernel
theorem dL_law_2430 : decode cL_law 2430 = .ok (.iconst 0, 1) := by decide +kernel
theorem dL_law_2431 : decode cL_law 2431 = .ok (.ireturn, 1) := by decide +kernel
theorem dL_law_2432 : decode cL_law 2432 = .ok (.goto 308, 3) := by decide +kernel
theorem dL_law_2435 : decode cL_law 2435 = .ok (.aload_n 1, 1) := by decide +kernel
theorem dL_law_2436 : decode cL_law 2436 = .ok (.aload_n 0, 1) := by decide +kernel
theorem dL_law_2437 : decode cL_law 2437 = .ok (.iload 5, 2) := by decide +kernel
theorem dL_law_2439 : decode cL_law 2439 = .ok (.iconst 1, 1) := by decide +kernel
theorem dL_law_2440 : decode cL_law 2440 = .ok (.iadd, 1) := by decide +kernel
theorem dL_law_2441 : decode cL_law 2441 = .ok (.iaload, 1) := by decide +kernel
theorem dL_law_2442 : decode cL_law 2442 = .ok (.i2c, 1) := by decide +kernel
theorem dL_law_2443 : decode cL_law 2443 = .ok (.aload_n 3, 1) := by decide +kernel
theorem dL_law_2444 : decode cL_law 2444 = .ok (.invokestatic 300, 3) := by decide +kernel
theorem dL_law_2447 : decode cL_law 2447 = .ok (.istore 6, 2) := by decide +kernel
theorem dL_law_2449 : decode cL_law 2449 = .ok (.aload_n 2, 1) := by decide +kernel
theorem dL_law_2450 : decode cL_law 2450 = .ok (.aload_n 0, 1) := by decide +kernel
theorem dL_law_2451 : decode cL_law 2451 = .ok (.iload 5, 2) := by decide +kernel
theorem dL_law_2453 : decode cL_law 2453 = .ok (.iconst 1, 1) := by decide +kernel
theorem dL_law_2454 : decode cL_law 2454 = .ok (.iadd, 1) := by decide +kernel
theorem dL_law_2455 : decode cL_law 2455 = .ok (.iaload, 1) := by decide +kernel
theorem dL_law_2456 : decode cL_law 2456 = .ok (.i2c, 1) := by decide +kernel
theorem dL_law_2457 : decode cL_law 2457 = .ok (.invokevirtual 302, 3) := by decide +kernel
theorem dL_law_2460 : decode cL_law 2460 = .ok (.istore 7, 2) := by decide +kernel
theorem dL_law_2462 : decode cL_law 2462 = .ok (.aload_n 2, 1) := by decide +kernel
theorem dL_law_2463 : decode cL_law 2463 = .ok (.invokevirtual 168, 3) := by decide +kernel
theorem dL_law_2466 : decode cL_law 2466 = .ok (.iload 6, 2) := by decide +kernel
theorem dL_law_2468 : decode cL_law 2468 = .ok (.if_icmp .eq 5, 3) := by decide +kernel
theorem dL_law_2471 : decode cL_law 2471 = .ok (.iconst 0, 1) := by decide +kernel
theorem dL_law_2472 : decode cL_law 2472 = .ok (.ireturn, 1) := by decide +kernel
theorem dL_law_2473 : decode cL_law 2473 = .ok (.iload 6, 2) := by decide +kernel
theorem dL_law_2475 : decode cL_law 2475 = .ok (.ifCond .ne 15, 3) := by decide +kernel
theorem dL_law_2478 : decode cL_law 2478 = .ok (.aload_n 3, 1) := by decide +kernel
theorem dL_law_2479 : decode cL_law 2479 = .ok (.iconst 0, 1) := by decide +kernel
theorem dL_law_2480 : decode cL_law 2480 = .ok (.laload, 1) := by decide +kernel
theorem dL_law_2481 : decode cL_law 2481 = .ok (.iload 7, 2) := by decide +kernel
theorem dL_law_2483 : decode cL_law 2483 = .ok (.i2l, 1) := by decide +kernel
theorem dL_law_2484 : decode cL_law 2484 = .ok (.lcmp, 1) := by decide +kernel
theorem dL_law_2485 : decode cL_law 2485 = .ok (.ifCond .eq 5, 3) := by decide +kernel
theorem dL_law_2488 : decode cL_law 2488 = .ok (.iconst 0, 1) := by decide +kernel
theorem dL_law_2489 : decode cL_law 2489 = .ok (.ireturn, 1) := by decide +kernel
theorem dL_law_2490 : decode cL_law 2490 = .ok (.goto 250, 3) := by decide +kernel
theorem dL_law_2493 : decode cL_law 2493 = .ok (.aload_n 1, 1) := by decide +kernel
theorem dL_law_2494 : decode cL_law 2494 = .ok (.aload_n 0, 1) := by decide +kernel
theorem dL_law_2495 : decode cL_law 2495 = .ok (.iload 5, 2) := by decide +kernel
theorem dL_law_2497 : decode cL_law 2497 = .ok (.iconst 1, 1) := by decide +kernel
theorem dL_law_2498 : decode cL_law 2498 = .ok (.iadd, 1) := by decide +kernel
theorem dL_law_2499 : decode cL_law 2499 = .ok (.iaload, 1) := by decide +kernel
theorem dL_law_2500 : decode cL_law 2500 = .ok (.i2c, 1) := by decide +kernel
theorem dL_law_2501 : decode cL_law 2501 = .ok (.aload_n 3, 1) := by decide +kernel
theorem dL_law_2502 : decode cL_law 2502 = .ok (.invokestatic 303, 3) := by decide +kernel
theorem dL_law_2505 : decode cL_law 2505 = .ok (.istore 6, 2) := by decide +kernel
theorem dL_law_2507 : decode cL_law 2507 = .ok (.aload_n 2, 1) := by decide +kernel
theorem dL_law_2508 : decode cL_law 2508 = .ok (.aload_n 0, 1) := by decide +kernel
theorem dL_law_2509 : decode cL_law 2509 = .ok (.iload 5, 2) := by decide +kernel
theorem dL_law_2511 : decode cL_law 2511 = .ok (.iconst 1, 1) := by decide +kernel
theorem dL_law_2512 : decode cL_law 2512 = .ok (.iadd, 1) := by decide +kernel
theorem dL_law_2513 : decode cL_law 2513 = .ok (.iaload, 1) := by decide +kernel
theorem dL_law_2514 : decode cL_law 2514 = .ok (.i2c, 1) := by decide +kernel
theorem dL_law_2515 : decode cL_law 2515 = .ok (.invokevirtual 305, 3) := by decide +kernel
theorem dL_law_2518 : decode cL_law 2518 = .ok (.istore 7, 2) := by decide +kernel
theorem dL_law_2520 : decode cL_law 2520 = .ok (.aload_n 2, 1) := by decide +kernel
theorem dL_law_2521 : decode cL_law 2521 = .ok (.invokevirtual 168, 3) := by decide +kernel
theorem dL_law_2524 : decode cL_law 2524 = .ok (.iload 6, 2) := by decide +kernel
theorem dL_law_2526 : decode cL_law 2526 = .ok (.if_icmp .eq 5, 3) := by decide +kernel
theorem dL_law_2529 : decode cL_law 2529 = .ok (.iconst 0, 1) := by decide +kernel
theorem dL_law_2530 : decode cL_law 2530 = .ok (.ireturn, 1) := by decide +kernel
theorem dL_law_2531 : decode cL_law 2531 = .ok (.iload 6, 2) := by decide +kernel
theorem dL_law_2533 : decode cL_law 2533 = .ok (.ifCond .ne 15, 3) := by decide +kernel
theorem dL_law_2536 : decode cL_law 2536 = .ok (.aload_n 3, 1) := by decide +kernel
theorem dL_law_2537 : decode cL_law 2537 = .ok (.iconst 0, 1) := by decide +kernel
theorem dL_law_2538 : decode cL_law 2538 = .ok (.laload, 1) := by decide +kernel
theorem dL_law_2539 : decode cL_law 2539 = .ok (.iload 7, 2) := by decide +kernel
theorem dL_law_2541 : decode cL_law 2541 = .ok (.i2l, 1) := by decide +kernel
theorem dL_law_2542 : decode cL_law 2542 = .ok (.lcmp, 1) := by decide +kernel
theorem dL_law_2543 : decode cL_law 2543 = .ok (.ifCond .eq 5, 3) := by decide +kernel
theorem dL_law_2546 : decode cL_law 2546 = .ok (.iconst 0, 1) := by decide +kernel
theorem dL_law_2547 : decode cL_law 2547 = .ok (.ireturn, 1) := by decide +kernel
theorem dL_law_2548 : decode cL_law 2548 = .ok (.goto 192, 3) := by decide +kernel
theorem dL_law_2551 : decode cL_law 2551 = .ok (.aload_n 1, 1) := by decide +kernel
theorem dL_law_2552 : decode cL_law 2552 = .ok (.aload_n 3, 1) := by decide +kernel
theorem dL_law_2553 : decode cL_law 2553 = .ok (.invokestatic 306, 3) := by decide +kernel
theorem dL_law_2556 : decode cL_law 2556 = .ok (.istore 6, 2) := by decide +kernel
theorem dL_law_2558 : decode cL_law 2558 = .ok (.aload_n 2, 1) := by decide +kernel
theorem dL_law_2559 : decode cL_law 2559 = .ok (.invokevirtual 308, 3) := by decide +kernel
theorem dL_law_2562 : decode cL_law 2562 = .ok (.istore 7, 2) := by decide +kernel
theorem dL_law_2564 : decode cL_law 2564 = .ok (.aload_n 2, 1) := by decide +kernel
theorem dL_law_2565 : decode cL_law 2565 = .ok (.invokevirtual 168, 3) := by decide +kernel
theorem dL_law_2568 : decode cL_law 2568 = .ok (.iload 6, 2) := by decide +kernel
theorem dL_law_2570 : decode cL_law 2570 = .ok (.if_icmp .eq 5, 3) := by decide +kernel
theorem dL_law_2573 : decode cL_law 2573 = .ok (.iconst 0, 1) := by decide +kernel
theorem dL_law_2574 : decode cL_law 2574 = .ok (.ireturn, 1) := by decide +kernel
theorem dL_law_2575 : decode cL_law 2575 = .ok (.iload 6, 2) := by decide +kernel
theorem dL_law_2577 : decode cL_law 2577 = .ok (.ifCond .ne 15, 3) := by decide +kernel
theorem dL_law_2580 : decode cL_law 2580 = .ok (.aload_n 3, 1) := by decide +kernel
theorem dL_law_2581 : decode cL_law 2581 = .ok (.iconst 0, 1) := by decide +kernel
theorem dL_law_2582 : decode cL_law 2582 = .ok (.laload, 1) := by decide +kernel
theorem dL_law_2583 : decode cL_law 2583 = .ok (.iload 7, 2) := by decide +kernel
theorem dL_law_2585 : decode cL_law 2585 = .ok (.i2l, 1) := by decide +kernel
theorem dL_law_2586 : decode cL_law 2586 = .ok (.lcmp, 1) := by decide +kernel
theorem dL_law_2587 : decode cL_law 2587 = .ok (.ifCond .eq 5, 3) := by decide +kernel
theorem dL_law_2590 : decode cL_law 2590 = .ok (.iconst 0, 1) := by decide +kernel
theorem dL_law_2591 : decode cL_law 2591 = .ok (.ireturn, 1) := by decide +kernel
theorem dL_law_2592 : decode cL_law 2592 = .ok (.goto 148, 3) := by decide +kernel
theorem dL_law_2595 : decode cL_law 2595 = .ok (.aload_n 1, 1) := by decide +kernel
theorem dL_law_2596 : decode cL_law 2596 = .ok (.aload_n 3, 1) := by decide +kernel
theorem dL_law_2597 : decode cL_law 2597 = .ok (.invokestatic 309, 3) := by decide +kernel
theorem dL_law_2600 : decode cL_law 2600 = .ok (.istore 6, 2) := by decide +kernel
theorem dL_law_2602 : decode cL_law 2602 = .ok (.aload_n 2, 1) := by decide +kernel
theorem dL_law_2603 : decode cL_law 2603 = .ok (.invokevirtual 311, 3) := by decide +kernel
theorem dL_law_2606 : decode cL_law 2606 = .ok (.istore 7, 2) := by decide +kernel
theorem dL_law_2608 : decode cL_law 2608 = .ok (.aload_n 2, 1) := by decide +kernel
theorem dL_law_2609 : decode cL_law 2609 = .ok (.invokevirtual 168, 3) := by decide +kernel
theorem dL_law_2612 : decode cL_law 2612 = .ok (.iload 6, 2) := by decide +kernel
theorem dL_law_2614 : decode cL_law 2614 = .ok (.if_icmp .eq 5, 3) := by decide +kernel
theorem dL_law_2617 : decode cL_law 2617 = .ok (.iconst 0, 1) := by decide +kernel
theorem dL_law_2618 : decode cL_law 2618 = .ok (.ireturn, 1) := by decide +kernel
theorem dL_law_2619 : decode cL_law 2619 = .ok (.iload 6, 2) := by decide +kernel
theorem dL_law_2621 : decode cL_law 2621 = .ok (.ifCond .ne 15, 3) := by decide +kernel
theorem dL_law_2624 : decode cL_law 2624 = .ok (.aload_n 3, 1) := by decide +kernel
theorem dL_law_2625 : decode cL_law 2625 = .ok (.iconst 0, 1) := by decide +kernel
theorem dL_law_2626 : decode cL_law 2626 = .ok (.laload, 1) := by decide +kernel
theorem dL_law_2627 : decode cL_law 2627 = .ok (.iload 7, 2) := by decide +kernel
theorem dL_law_2629 : decode cL_law 2629 = .ok (.i2l, 1) := by decide +kernel
theorem dL_law_2630 : decode cL_law 2630 = .ok (.lcmp, 1) := by decide +kernel
theorem dL_law_2631 : decode cL_law 2631 = .ok (.ifCond .eq 5, 3) := by decide +kernel
theorem dL_law_2634 : decode cL_law 2634 = .ok (.iconst 0, 1) := by decide +kernel
theorem dL_law_2635 : decode cL_law 2635 = .ok (.ireturn, 1) := by decide +kernel
theorem dL_law_2636 : decode cL_law 2636 = .ok (.goto 104, 3) := by decide +kernel
theorem dL_law_2639 : decode cL_law 2639 = .ok (.aload_n 1, 1) := by decide +kernel
theorem dL_law_2640 : decode cL_law 2640 = .ok (.aload_n 3, 1) := by decide +kernel
theorem dL_law_2641 : decode cL_law 2641 = .ok (.invokestatic 312, 3) := by decide +kernel
theorem dL_law_2644 : decode cL_law 2644 = .ok (.istore 6, 2) := by decide +kernel
theorem dL_law_2646 : decode cL_law 2646 = .ok (.aload_n 2, 1) := by decide +kernel
theorem dL_law_2647 : decode cL_law 2647 = .ok (.invokevirtual 314, 3) := by decide +kernel
theorem dL_law_2650 : decode cL_law 2650 = .ok (.istore 7, 2) := by decide +kernel
theorem dL_law_2652 : decode cL_law 2652 = .ok (.aload_n 2, 1) := by decide +kernel
theorem dL_law_2653 : decode cL_law 2653 = .ok (.invokevirtual 168, 3) := by decide +kernel
theorem dL_law_2656 : decode cL_law 2656 = .ok (.iload 6, 2) := by decide +kernel
theorem dL_law_2658 : decode cL_law 2658 = .ok (.if_icmp .eq 5, 3) := by decide +kernel
theorem dL_law_2661 : decode cL_law 2661 = .ok (.iconst 0, 1) := by decide +kernel
theorem dL_law_2662 : decode cL_law 2662 = .ok (.ireturn, 1) := by decide +kernel
theorem dL_law_2663 : decode cL_law 2663 = .ok (.iload 6, 2) := by decide +kernel
theorem dL_law_2665 : decode cL_law 2665 = .ok (.ifCond .ne 15, 3) := by decide +kernel
theorem dL_law_2668 : decode cL_law 2668 = .ok (.aload_n 3, 1) := by decide +kernel
theorem dL_law_2669 : decode cL_law 2669 = .ok (.iconst 0, 1) := by decide +kernel
theorem dL_law_2670 : decode cL_law 2670 = .ok (.laload, 1) := by decide +kernel
theorem dL_law_2671 : decode cL_law 2671 = .ok (.iload 7, 2) := by decide +kernel
theorem dL_law_2673 : decode cL_law 2673 = .ok (.i2l, 1) := by decide +kernel
theorem dL_law_2674 : decode cL_law 2674 = .ok (.lcmp, 1) := by decide +kernel
theorem dL_law_2675 : decode cL_law 2675 = .ok (.ifCond .eq 5, 3) := by decide +kernel
theorem dL_law_2678 : decode cL_law 2678 = .ok (.iconst 0, 1) := by decide +kernel
theorem dL_law_2679 : decode cL_law 2679 = .ok (.ireturn, 1) := by decide +kernel
theorem dL_law_2680 : decode cL_law 2680 = .ok (.goto 60, 3) := by decide +kernel
theorem dL_law_2683 : decode cL_law 2683 = .ok (.aload_n 1, 1) := by decide +kernel
theorem dL_law_2684 : decode cL_law 2684 = .ok (.invokevirtual 315, 3) := by decide +kernel
theorem dL_law_2687 : decode cL_law 2687 = .ok (.aload_n 2, 1) := by decide +kernel
theorem dL_law_2688 : decode cL_law 2688 = .ok (.invokevirtual 318, 3) := by decide +kernel
theorem dL_law_2691 : decode cL_law 2691 = .ok (.if_icmp .eq 49, 3) := by decide +kernel
theorem dL_law_2694 : decode cL_law 2694 = .ok (.iconst 0, 1) := by decide +kernel
theorem dL_law_2695 : decode cL_law 2695 = .ok (.ireturn, 1) := by decide +kernel
theorem dL_law_2696 : decode cL_law 2696 = .ok (.aload_n 1, 1) := by decide +kernel
theorem dL_law_2697 : decode cL_law 2697 = .ok (.aload_n 3, 1) := by decide +kernel
theorem dL_law_2698 : decode cL_law 2698 = .ok (.invokestatic 319, 3) := by decide +kernel
theorem dL_law_2701 : decode cL_law 2701 = .ok (.istore 6, 2) := by decide +kernel
theorem dL_law_2703 : decode cL_law 2703 = .ok (.aload_n 2, 1) := by decide +kernel
theorem dL_law_2704 : decode cL_law 2704 = .ok (.invokevirtual 321, 3) := by decide +kernel
theorem dL_law_2707 : decode cL_law 2707 = .ok (.istore 7, 2) := by decide +kernel
theorem dL_law_2709 : decode cL_law 2709 = .ok (.aload_n 2, 1) := by decide +kernel
theorem dL_law_2710 : decode cL_law 2710 = .ok (.invokevirtual 168, 3) := by decide +kernel
theorem dL_law_2713 : decode cL_law 2713 = .ok (.iload 6, 2) := by decide +kernel
theorem dL_law_2715 : decode cL_law 2715 = .ok (.if_icmp .eq 5, 3) := by decide +kernel
theorem dL_law_2718 : decode cL_law 2718 = .ok (.iconst 0, 1) := by decide +kernel
theorem dL_law_2719 : decode cL_law 2719 = .ok (.ireturn, 1) := by decide +kernel
theorem dL_law_2720 : decode cL_law 2720 = .ok (.iload 6, 2) := by decide +kernel
theorem dL_law_2722 : decode cL_law 2722 = .ok (.ifCond .ne 15, 3) := by decide +kernel
theorem dL_law_2725 : decode cL_law 2725 = .ok (.aload_n 3, 1) := by decide +kernel
theorem dL_law_2726 : decode cL_law 2726 = .ok (.iconst 0, 1) := by decide +kernel
theorem dL_law_2727 : decode cL_law 2727 = .ok (.laload, 1) := by decide +kernel
theorem dL_law_2728 : decode cL_law 2728 = .ok (.iload 7, 2) := by decide +kernel
theorem dL_law_2730 : decode cL_law 2730 = .ok (.i2l, 1) := by decide +kernel
theorem dL_law_2731 : decode cL_law 2731 = .ok (.lcmp, 1) := by decide +kernel
theorem dL_law_2732 : decode cL_law 2732 = .ok (.ifCond .eq 5, 3) := by decide +kernel
theorem dL_law_2735 : decode cL_law 2735 = .ok (.iconst 0, 1) := by decide +kernel
theorem dL_law_2736 : decode cL_law 2736 = .ok (.ireturn, 1) := by decide +kernel
theorem dL_law_2737 : decode cL_law 2737 = .ok (.goto 3, 3) := by decide +kernel
theorem dL_law_2740 : decode cL_law 2740 = .ok (.iinc 5 4, 3) := by decide +kernel
theorem dL_law_2743 : decode cL_law 2743 = .ok (.goto (-2715), 3) := by decide +kernel
theorem dL_law_2746 : decode cL_law 2746 = .ok (.iconst 1, 1) := by decide +kernel
theorem dL_law_2747 : decode cL_law 2747 = .ok (.ireturn, 1) := by decide +kernel
