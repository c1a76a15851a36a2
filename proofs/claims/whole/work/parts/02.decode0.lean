theorem dX0_init_0 : decode cX0_init 0 = .ok (.aload_n 0, 1) := by decide +kernel
theorem dX0_init_1 : decode cX0_init 1 = .ok (.invokespecial 3, 3) := by decide +kernel
theorem dX0_init_4 : decode cX0_init 4 = .ok (.aload_n 0, 1) := by decide +kernel
theorem dX0_init_5 : decode cX0_init 5 = .ok (.iconst 5, 1) := by decide +kernel
theorem dX0_init_6 : decode cX0_init 6 = .ok (.anewarray 9, 3) := by decide +kernel
theorem dX0_init_9 : decode cX0_init 9 = .ok (.putfield 11, 3) := by decide +kernel
theorem dX0_init_12 : decode cX0_init 12 = .ok (.iconst 0, 1) := by decide +kernel
theorem dX0_init_13 : decode cX0_init 13 = .ok (.istore_n 1, 1) := by decide +kernel
theorem dX0_init_14 : decode cX0_init 14 = .ok (.iload_n 1, 1) := by decide +kernel
theorem dX0_init_15 : decode cX0_init 15 = .ok (.iconst 5, 1) := by decide +kernel
theorem dX0_init_16 : decode cX0_init 16 = .ok (.if_icmp .ge 22, 3) := by decide +kernel
theorem dX0_init_19 : decode cX0_init 19 = .ok (.aload_n 0, 1) := by decide +kernel
theorem dX0_init_20 : decode cX0_init 20 = .ok (.getfield 11, 3) := by decide +kernel
theorem dX0_init_23 : decode cX0_init 23 = .ok (.iload_n 1, 1) := by decide +kernel
theorem dX0_init_24 : decode cX0_init 24 = .ok (.new 9, 3) := by decide +kernel
theorem dX0_init_27 : decode cX0_init 27 = .ok (.dup, 1) := by decide +kernel
theorem dX0_init_28 : decode cX0_init 28 = .ok (.invokespecial 17, 3) := by decide +kernel
theorem dX0_init_31 : decode cX0_init 31 = .ok (.aastore, 1) := by decide +kernel
theorem dX0_init_32 : decode cX0_init 32 = .ok (.iinc 1 1, 3) := by decide +kernel
theorem dX0_init_35 : decode cX0_init 35 = .ok (.goto (-21), 3) := by decide +kernel
theorem dX0_init_38 : decode cX0_init 38 = .ok (.aload_n 0, 1) := by decide +kernel
theorem dX0_init_39 : decode cX0_init 39 = .ok (.iconst 0, 1) := by decide +kernel
theorem dX0_init_40 : decode cX0_init 40 = .ok (.putfield 18, 3) := by decide +kernel
theorem dX0_init_43 : decode cX0_init 43 = .ok (.aload_n 0, 1) := by decide +kernel
theorem dX0_init_44 : decode cX0_init 44 = .ok (.iconst 0, 1) := by decide +kernel
theorem dX0_init_45 : decode cX0_init 45 = .ok (.putfield 22, 3) := by decide +kernel
theorem dX0_init_48 : decode cX0_init 48 = .ok (.return_, 1) := by decide +kernel
theorem dX0_keep_0 : decode cX0_keep 0 = .ok (.aload_n 0, 1) := by decide +kernel
theorem dX0_keep_1 : decode cX0_keep 1 = .ok (.getfield 11, 3) := by decide +kernel
theorem dX0_keep_4 : decode cX0_keep 4 = .ok (.aload_n 0, 1) := by decide +kernel
theorem dX0_keep_5 : decode cX0_keep 5 = .ok (.getfield 22, 3) := by decide +kernel
theorem dX0_keep_8 : decode cX0_keep 8 = .ok (.aaload, 1) := by decide +kernel
theorem dX0_keep_9 : decode cX0_keep 9 = .ok (.aload_n 1, 1) := by decide +kernel
theorem dX0_keep_10 : decode cX0_keep 10 = .ok (.invokevirtual 25, 3) := by decide +kernel
theorem dX0_keep_13 : decode cX0_keep 13 = .ok (.aload_n 0, 1) := by decide +kernel
theorem dX0_keep_14 : decode cX0_keep 14 = .ok (.aload_n 0, 1) := by decide +kernel
theorem dX0_keep_15 : decode cX0_keep 15 = .ok (.getfield 22, 3) := by decide +kernel
theorem dX0_keep_18 : decode cX0_keep 18 = .ok (.iconst 1, 1) := by decide +kernel
theorem dX0_keep_19 : decode cX0_keep 19 = .ok (.iadd, 1) := by decide +kernel
theorem dX0_keep_20 : decode cX0_keep 20 = .ok (.iconst 5, 1) := by decide +kernel
theorem dX0_keep_21 : decode cX0_keep 21 = .ok (.if_icmp .ge 12, 3) := by decide +kernel
theorem dX0_keep_24 : decode cX0_keep 24 = .ok (.aload_n 0, 1) := by decide +kernel
theorem dX0_keep_25 : decode cX0_keep 25 = .ok (.getfield 22, 3) := by decide +kernel
theorem dX0_keep_28 : decode cX0_keep 28 = .ok (.iconst 1, 1) := by decide +kernel
theorem dX0_keep_29 : decode cX0_keep 29 = .ok (.iadd, 1) := by decide +kernel
theorem dX0_keep_30 : decode cX0_keep 30 = .ok (.goto 4, 3) := by decide +kernel
theorem dX0_keep_33 : decode cX0_keep 33 = .ok (.iconst 0, 1) := by decide +kernel
theorem dX0_keep_34 : decode cX0_keep 34 = .ok (.putfield 22, 3) := by decide +kernel
theorem dX0_keep_37 : decode cX0_keep 37 = .ok (.aload_n 0, 1) := by decide +kernel
theorem dX0_keep_38 : decode cX0_keep 38 = .ok (.aload_n 0, 1) := by decide +kernel
theorem dX0_keep_39 : decode cX0_keep 39 = .ok (.getfield 18, 3) := by decide +kernel
theorem dX0_keep_42 : decode cX0_keep 42 = .ok (.iconst 1, 1) := by decide +kernel
theorem dX0_keep_43 : decode cX0_keep 43 = .ok (.iadd, 1) := by decide +kernel
theorem dX0_keep_44 : decode cX0_keep 44 = .ok (.iconst 5, 1) := by decide +kernel
theorem dX0_keep_45 : decode cX0_keep 45 = .ok (.invokestatic 29, 3) := by decide +kernel
theorem dX0_keep_48 : decode cX0_keep 48 = .ok (.putfield 18, 3) := by decide +kernel
theorem dX0_keep_51 : decode cX0_keep 51 = .ok (.return_, 1) := by decide +kernel
theorem dX0_giveBack_0 : decode cX0_giveBack 0 = .ok (.aload_n 0, 1) := by decide +kernel
theorem dX0_giveBack_1 : decode cX0_giveBack 1 = .ok (.getfield 18, 3) := by decide +kernel
theorem dX0_giveBack_4 : decode cX0_giveBack 4 = .ok (.ifCond .ne 4, 3) := by decide +kernel
theorem dX0_giveBack_7 : decode cX0_giveBack 7 = .ok (.return_, 1) := by decide +kernel
theorem dX0_giveBack_8 : decode cX0_giveBack 8 = .ok (.aload_n 0, 1) := by decide +kernel
theorem dX0_giveBack_9 : decode cX0_giveBack 9 = .ok (.aload_n 0, 1) := by decide +kernel
theorem dX0_giveBack_10 : decode cX0_giveBack 10 = .ok (.getfield 22, 3) := by decide +kernel
theorem dX0_giveBack_13 : decode cX0_giveBack 13 = .ok (.ifCond .le 12, 3) := by decide +kernel
theorem dX0_giveBack_16 : decode cX0_giveBack 16 = .ok (.aload_n 0, 1) := by decide +kernel
theorem dX0_giveBack_17 : decode cX0_giveBack 17 = .ok (.getfield 22, 3) := by decide +kernel
theorem dX0_giveBack_20 : decode cX0_giveBack 20 = .ok (.iconst 1, 1) := by decide +kernel
theorem dX0_giveBack_21 : decode cX0_giveBack 21 = .ok (.isub, 1) := by decide +kernel
theorem dX0_giveBack_22 : decode cX0_giveBack 22 = .ok (.goto 4, 3) := by decide +kernel
theorem dX0_giveBack_25 : decode cX0_giveBack 25 = .ok (.iconst 4, 1) := by decide +kernel
theorem dX0_giveBack_26 : decode cX0_giveBack 26 = .ok (.putfield 22, 3) := by decide +kernel
theorem dX0_giveBack_29 : decode cX0_giveBack 29 = .ok (.aload_n 0, 1) := by decide +kernel
theorem dX0_giveBack_30 : decode cX0_giveBack 30 = .ok (.dup, 1) := by decide +kernel
theorem dX0_giveBack_31 : decode cX0_giveBack 31 = .ok (.getfield 18, 3) := by decide +kernel
theorem dX0_giveBack_34 : decode cX0_giveBack 34 = .ok (.iconst 1, 1) := by decide +kernel
theorem dX0_giveBack_35 : decode cX0_giveBack 35 = .ok (.isub, 1) := by decide +kernel
theorem dX0_giveBack_36 : decode cX0_giveBack 36 = .ok (.putfield 18, 3) := by decide +kernel
theorem dX0_giveBack_39 : decode cX0_giveBack 39 = .ok (.aload_n 0, 1) := by decide +kernel
theorem dX0_giveBack_40 : decode cX0_giveBack 40 = .ok (.getfield 11, 3) := by decide +kernel
theorem dX0_giveBack_43 : decode cX0_giveBack 43 = .ok (.aload_n 0, 1) := by decide +kernel
theorem dX0_giveBack_44 : decode cX0_giveBack 44 = .ok (.getfield 22, 3) := by decide +kernel
theorem dX0_giveBack_47 : decode cX0_giveBack 47 = .ok (.aaload, 1) := by decide +kernel
theorem dX0_giveBack_48 : decode cX0_giveBack 48 = .ok (.aload_n 1, 1) := by decide +kernel
theorem dX0_giveBack_49 : decode cX0_giveBack 49 = .ok (.invokevirtual 35, 3) := by decide +kernel
theorem dX0_giveBack_52 : decode cX0_giveBack 52 = .ok (.return_, 1) := by decide +kernel
theorem dX1_init_0 : decode cX1_init 0 = .ok (.aload_n 0, 1) := by decide +kernel
theorem dX1_init_1 : decode cX1_init 1 = .ok (.invokespecial 3, 3) := by decide +kernel
theorem dX1_init_4 : decode cX1_init 4 = .ok (.aload_n 0, 1) := by decide +kernel
theorem dX1_init_5 : decode cX1_init 5 = .ok (.bipush 10, 2) := by decide +kernel
theorem dX1_init_7 : decode cX1_init 7 = .ok (.anewarray 9, 3) := by decide +kernel
theorem dX1_init_10 : decode cX1_init 10 = .ok (.putfield 11, 3) := by decide +kernel
theorem dX1_init_13 : decode cX1_init 13 = .ok (.iconst 0, 1) := by decide +kernel
theorem dX1_init_14 : decode cX1_init 14 = .ok (.istore_n 1, 1) := by decide +kernel
theorem dX1_init_15 : decode cX1_init 15 = .ok (.iload_n 1, 1) := by decide +kernel
theorem dX1_init_16 : decode cX1_init 16 = .ok (.bipush 10, 2) := by decide +kernel
theorem dX1_init_18 : decode cX1_init 18 = .ok (.if_icmp .ge 24, 3) := by decide +kernel
theorem dX1_init_21 : decode cX1_init 21 = .ok (.aload_n 0, 1) := by decide +kernel
theorem dX1_init_22 : decode cX1_init 22 = .ok (.getfield 11, 3) := by decide +kernel
theorem dX1_init_25 : decode cX1_init 25 = .ok (.iload_n 1, 1) := by decide +kernel
theorem dX1_init_26 : decode cX1_init 26 = .ok (.new 9, 3) := by decide +kernel
theorem dX1_init_29 : decode cX1_init 29 = .ok (.dup, 1) := by decide +kernel
theorem dX1_init_30 : decode cX1_init 30 = .ok (.bipush 30, 2) := by decide +kernel
theorem dX1_init_32 : decode cX1_init 32 = .ok (.invokespecial 17, 3) := by decide +kernel
theorem dX1_init_35 : decode cX1_init 35 = .ok (.aastore, 1) := by decide +kernel
theorem dX1_init_36 : decode cX1_init 36 = .ok (.iinc 1 1, 3) := by decide +kernel
theorem dX1_init_39 : decode cX1_init 39 = .ok (.goto (-24), 3) := by decide +kernel
theorem dX1_init_42 : decode cX1_init 42 = .ok (.aload_n 0, 1) := by decide +kernel
theorem dX1_init_43 : decode cX1_init 43 = .ok (.new 20, 3) := by decide +kernel
theorem dX1_init_46 : decode cX1_init 46 = .ok (.dup, 1) := by decide +kernel
theorem dX1_init_47 : decode cX1_init 47 = .ok (.invokespecial 22, 3) := by decide +kernel
theorem dX1_init_50 : decode cX1_init 50 = .ok (.putfield 23, 3) := by decide +kernel
theorem dX1_init_53 : decode cX1_init 53 = .ok (.aload_n 0, 1) := by decide +kernel
theorem dX1_init_54 : decode cX1_init 54 = .ok (.new 27, 3) := by decide +kernel
theorem dX1_init_57 : decode cX1_init 57 = .ok (.dup, 1) := by decide +kernel
theorem dX1_init_58 : decode cX1_init 58 = .ok (.invokespecial 29, 3) := by decide +kernel
theorem dX1_init_61 : decode cX1_init 61 = .ok (.putfield 30, 3) := by decide +kernel
theorem dX1_init_64 : decode cX1_init 64 = .ok (.aload_n 0, 1) := by decide +kernel
theorem dX1_init_65 : decode cX1_init 65 = .ok (.iconst 0, 1) := by decide +kernel
theorem dX1_init_66 : decode cX1_init 66 = .ok (.putfield 34, 3) := by decide +kernel
theorem dX1_init_69 : decode cX1_init 69 = .ok (.return_, 1) := by decide +kernel
theorem dX1_take_0 : decode cX1_take 0 = .ok (.aload_n 0, 1) := by decide +kernel
theorem dX1_take_1 : decode cX1_take 1 = .ok (.aload_n 1, 1) := by decide +kernel
theorem dX1_take_2 : decode cX1_take 2 = .ok (.getfield 38, 3) := by decide +kernel
theorem dX1_take_5 : decode cX1_take 5 = .ok (.putfield 34, 3) := by decide +kernel
theorem dX1_take_8 : decode cX1_take 8 = .ok (.iconst 0, 1) := by decide +kernel
theorem dX1_take_9 : decode cX1_take 9 = .ok (.istore_n 2, 1) := by decide +kernel
theorem dX1_take_10 : decode cX1_take 10 = .ok (.iload_n 2, 1) := by decide +kernel
theorem dX1_take_11 : decode cX1_take 11 = .ok (.aload_n 0, 1) := by decide +kernel
theorem dX1_take_12 : decode cX1_take 12 = .ok (.getfield 34, 3) := by decide +kernel
theorem dX1_take_15 : decode cX1_take 15 = .ok (.if_icmp .ge 27, 3) := by decide +kernel
theorem dX1_take_18 : decode cX1_take 18 = .ok (.aload_n 0, 1) := by decide +kernel
theorem dX1_take_19 : decode cX1_take 19 = .ok (.getfield 11, 3) := by decide +kernel
theorem dX1_take_22 : decode cX1_take 22 = .ok (.iload_n 2, 1) := by decide +kernel
theorem dX1_take_23 : decode cX1_take 23 = .ok (.aaload, 1) := by decide +kernel
theorem dX1_take_24 : decode cX1_take 24 = .ok (.aload_n 1, 1) := by decide +kernel
theorem dX1_take_25 : decode cX1_take 25 = .ok (.getfield 41, 3) := by decide +kernel
theorem dX1_take_28 : decode cX1_take 28 = .ok (.iload_n 2, 1) := by decide +kernel
theorem dX1_take_29 : decode cX1_take 29 = .ok (.aaload, 1) := by decide +kernel
theorem dX1_take_30 : decode cX1_take 30 = .ok (.getfield 45, 3) := by decide +kernel
theorem dX1_take_33 : decode cX1_take 33 = .ok (.invokevirtual 51, 3) := by decide +kernel
theorem dX1_take_36 : decode cX1_take 36 = .ok (.iinc 2 1, 3) := by decide +kernel
theorem dX1_take_39 : decode cX1_take 39 = .ok (.goto (-29), 3) := by decide +kernel
theorem dX1_take_42 : decode cX1_take 42 = .ok (.aload_n 0, 1) := by decide +kernel
theorem dX1_take_43 : decode cX1_take 43 = .ok (.getfield 23, 3) := by decide +kernel
theorem dX1_take_46 : decode cX1_take 46 = .ok (.aload_n 1, 1) := by decide +kernel
theorem dX1_take_47 : decode cX1_take 47 = .ok (.getfield 55, 3) := by decide +kernel
theorem dX1_take_50 : decode cX1_take 50 = .ok (.invokevirtual 56, 3) := by decide +kernel
theorem dX1_take_53 : decode cX1_take 53 = .ok (.aload_n 0, 1) := by decide +kernel
theorem dX1_take_54 : decode cX1_take 54 = .ok (.getfield 30, 3) := by decide +kernel
theorem dX1_take_57 : decode cX1_take 57 = .ok (.aload_n 1, 1) := by decide +kernel
theorem dX1_take_58 : decode cX1_take 58 = .ok (.getfield 59, 3) := by decide +kernel
theorem dX1_take_61 : decode cX1_take 61 = .ok (.invokevirtual 60, 3) := by decide +kernel
theorem dX1_take_64 : decode cX1_take 64 = .ok (.return_, 1) := by decide +kernel
theorem dX1_give_0 : decode cX1_give 0 = .ok (.aload_n 1, 1) := by decide +kernel
theorem dX1_give_1 : decode cX1_give 1 = .ok (.aload_n 0, 1) := by decide +kernel
theorem dX1_give_2 : decode cX1_give 2 = .ok (.getfield 34, 3) := by decide +kernel
theorem dX1_give_5 : decode cX1_give 5 = .ok (.putfield 38, 3) := by decide +kernel
theorem dX1_give_8 : decode cX1_give 8 = .ok (.iconst 0, 1) := by decide +kernel
theorem dX1_give_9 : decode cX1_give 9 = .ok (.istore_n 2, 1) := by decide +kernel
theorem dX1_give_10 : decode cX1_give 10 = .ok (.iload_n 2, 1) := by decide +kernel
theorem dX1_give_11 : decode cX1_give 11 = .ok (.aload_n 0, 1) := by decide +kernel
theorem dX1_give_12 : decode cX1_give 12 = .ok (.getfield 34, 3) := by decide +kernel
theorem dX1_give_15 : decode cX1_give 15 = .ok (.if_icmp .ge 27, 3) := by decide +kernel
theorem dX1_give_18 : decode cX1_give 18 = .ok (.aload_n 1, 1) := by decide +kernel
theorem dX1_give_19 : decode cX1_give 19 = .ok (.getfield 41, 3) := by decide +kernel
theorem dX1_give_22 : decode cX1_give 22 = .ok (.iload_n 2, 1) := by decide +kernel
theorem dX1_give_23 : decode cX1_give 23 = .ok (.aaload, 1) := by decide +kernel
theorem dX1_give_24 : decode cX1_give 24 = .ok (.getfield 45, 3) := by decide +kernel
theorem dX1_give_27 : decode cX1_give 27 = .ok (.aload_n 0, 1) := by decide +kernel
theorem dX1_give_28 : decode cX1_give 28 = .ok (.getfield 11, 3) := by decide +kernel
theorem dX1_give_31 : decode cX1_give 31 = .ok (.iload_n 2, 1) := by decide +kernel
theorem dX1_give_32 : decode cX1_give 32 = .ok (.aaload, 1) := by decide +kernel
theorem dX1_give_33 : decode cX1_give 33 = .ok (.invokevirtual 51, 3) := by decide +kernel
theorem dX1_give_36 : decode cX1_give 36 = .ok (.iinc 2 1, 3) := by decide +kernel
theorem dX1_give_39 : decode cX1_give 39 = .ok (.goto (-29), 3) := by decide +kernel
theorem dX1_give_42 : decode cX1_give 42 = .ok (.aload_n 1, 1) := by decide +kernel
theorem dX1_give_43 : decode cX1_give 43 = .ok (.getfield 55, 3) := by decide +kernel
theorem dX1_give_46 : decode cX1_give 46 = .ok (.aload_n 0, 1) := by decide +kernel
theorem dX1_give_47 : decode cX1_give 47 = .ok (.getfield 23, 3) := by decide +kernel
theorem dX1_give_50 : decode cX1_give 50 = .ok (.invokevirtual 56, 3) := by decide +kernel
theorem dX1_give_53 : decode cX1_give 53 = .ok (.aload_n 1, 1) := by decide +kernel
theorem dX1_give_54 : decode cX1_give 54 = .ok (.getfield 59, 3) := by decide +kernel
theorem dX1_give_57 : decode cX1_give 57 = .ok (.aload_n 0, 1) := by decide +kernel
theorem dX1_give_58 : decode cX1_give 58 = .ok (.getfield 30, 3) := by decide +kernel
theorem dX1_give_61 : decode cX1_give 61 = .ok (.invokevirtual 60, 3) := by decide +kernel
theorem dX1_give_64 : decode cX1_give 64 = .ok (.return_, 1) := by decide +kernel
theorem dX2_init_0 : decode cX2_init 0 = .ok (.aload_n 0, 1) := by decide +kernel
theorem dX2_init_1 : decode cX2_init 1 = .ok (.invokespecial 3, 3) := by decide +kernel
theorem dX2_init_4 : decode cX2_init 4 = .ok (.aload_n 0, 1) := by decide +kernel
theorem dX2_init_5 : decode cX2_init 5 = .ok (.new 9, 3) := by decide +kernel
theorem dX2_init_8 : decode cX2_init 8 = .ok (.dup, 1) := by decide +kernel
theorem dX2_init_9 : decode cX2_init 9 = .ok (.bipush 30, 2) := by decide +kernel
theorem dX2_init_11 : decode cX2_init 11 = .ok (.invokespecial 11, 3) := by decide +kernel
theorem dX2_init_14 : decode cX2_init 14 = .ok (.putfield 14, 3) := by decide +kernel
theorem dX2_init_17 : decode cX2_init 17 = .ok (.aload_n 0, 1) := by decide +kernel
theorem dX2_init_18 : decode cX2_init 18 = .ok (.bipush 30, 2) := by decide +kernel
theorem dX2_init_20 : decode cX2_init 20 = .ok (.newarray .int, 2) := by decide +kernel
theorem dX2_init_22 : decode cX2_init 22 = .ok (.putfield 20, 3) := by decide +kernel
theorem dX2_init_25 : decode cX2_init 25 = .ok (.aload_n 0, 1) := by decide +kernel
theorem dX2_init_26 : decode cX2_init 26 = .ok (.bipush 30, 2) := by decide +kernel
theorem dX2_init_28 : decode cX2_init 28 = .ok (.newarray .int, 2) := by decide +kernel
theorem dX2_init_30 : decode cX2_init 30 = .ok (.putfield 24, 3) := by decide +kernel
theorem dX2_init_33 : decode cX2_init 33 = .ok (.aload_n 0, 1) := by decide +kernel
theorem dX2_init_34 : decode cX2_init 34 = .ok (.new 27, 3) := by decide +kernel
theorem dX2_init_37 : decode cX2_init 37 = .ok (.dup, 1) := by decide +kernel
theorem dX2_init_38 : decode cX2_init 38 = .ok (.invokespecial 29, 3) := by decide +kernel
theorem dX2_init_41 : decode cX2_init 41 = .ok (.putfield 30, 3) := by decide +kernel
theorem dX2_init_44 : decode cX2_init 44 = .ok (.aload_n 0, 1) := by decide +kernel
theorem dX2_init_45 : decode cX2_init 45 = .ok (.iconst 1, 1) := by decide +kernel
theorem dX2_init_46 : decode cX2_init 46 = .ok (.putfield 34, 3) := by decide +kernel
theorem dX2_init_49 : decode cX2_init 49 = .ok (.return_, 1) := by decide +kernel
theorem dX2_fill_0 : decode cX2_fill 0 = .ok (.iconst 0, 1) := by decide +kernel
theorem dX2_fill_1 : decode cX2_fill 1 = .ok (.iload_n 1, 1) := by decide +kernel
theorem dX2_fill_2 : decode cX2_fill 2 = .ok (.invokestatic 38, 3) := by decide +kernel
theorem dX2_fill_5 : decode cX2_fill 5 = .ok (.istore 5, 2) := by decide +kernel
theorem dX2_fill_7 : decode cX2_fill 7 = .ok (.iload 5, 2) := by decide +kernel
theorem dX2_fill_9 : decode cX2_fill 9 = .ok (.iload_n 2, 1) := by decide +kernel
theorem dX2_fill_10 : decode cX2_fill 10 = .ok (.if_icmp .ge 38, 3) := by decide +kernel
theorem dX2_fill_13 : decode cX2_fill 13 = .ok (.iload 5, 2) := by decide +kernel
theorem dX2_fill_15 : decode cX2_fill 15 = .ok (.aload_n 0, 1) := by decide +kernel
theorem dX2_fill_16 : decode cX2_fill 16 = .ok (.getfield 14, 3) := by decide +kernel
theorem dX2_fill_19 : decode cX2_fill 19 = .ok (.getfield 44, 3) := by decide +kernel
theorem dX2_fill_22 : decode cX2_fill 22 = .ok (.if_icmp .ge 26, 3) := by decide +kernel
theorem dX2_fill_25 : decode cX2_fill 25 = .ok (.aload_n 0, 1) := by decide +kernel
theorem dX2_fill_26 : decode cX2_fill 26 = .ok (.getfield 20, 3) := by decide +kernel
theorem dX2_fill_29 : decode cX2_fill 29 = .ok (.iload 5, 2) := by decide +kernel
theorem dX2_fill_31 : decode cX2_fill 31 = .ok (.iload_n 3, 1) := by decide +kernel
theorem dX2_fill_32 : decode cX2_fill 32 = .ok (.iastore, 1) := by decide +kernel
theorem dX2_fill_33 : decode cX2_fill 33 = .ok (.aload_n 0, 1) := by decide +kernel
theorem dX2_fill_34 : decode cX2_fill 34 = .ok (.getfield 24, 3) := by decide +kernel
theorem dX2_fill_37 : decode cX2_fill 37 = .ok (.iload 5, 2) := by decide +kernel
theorem dX2_fill_39 : decode cX2_fill 39 = .ok (.iload 4, 2) := by decide +kernel
theorem dX2_fill_41 : decode cX2_fill 41 = .ok (.iastore, 1) := by decide +kernel
theorem dX2_fill_42 : decode cX2_fill 42 = .ok (.iinc 5 1, 3) := by decide +kernel
theorem dX2_fill_45 : decode cX2_fill 45 = .ok (.goto (-38), 3) := by decide +kernel
theorem dX2_fill_48 : decode cX2_fill 48 = .ok (.iload_n 2, 1) := by decide +kernel
theorem dX2_fill_49 : decode cX2_fill 49 = .ok (.ireturn, 1) := by decide +kernel
theorem dX2_countBytes_0 : decode cX2_countBytes 0 = .ok (.iconst 0, 1) := by decide +kernel
theorem dX2_countBytes_1 : decode cX2_countBytes 1 = .ok (.istore_n 2, 1) := by decide +kernel
theorem dX2_countBytes_2 : decode cX2_countBytes 2 = .ok (.iconst 0, 1) := by decide +kernel
theorem dX2_countBytes_3 : decode cX2_countBytes 3 = .ok (.istore_n 3, 1) := by decide +kernel
theorem dX2_countBytes_4 : decode cX2_countBytes 4 = .ok (.iload_n 3, 1) := by decide +kernel
theorem dX2_countBytes_5 : decode cX2_countBytes 5 = .ok (.aload_n 0, 1) := by decide +kernel
theorem dX2_countBytes_6 : decode cX2_countBytes 6 = .ok (.getfield 14, 3) := by decide +kernel
theorem dX2_countBytes_9 : decode cX2_countBytes 9 = .ok (.getfield 44, 3) := by decide +kernel
theorem dX2_countBytes_12 : decode cX2_countBytes 12 = .ok (.if_icmp .ge 22, 3) := by decide +kernel
theorem dX2_countBytes_15 : decode cX2_countBytes 15 = .ok (.aload_n 0, 1) := by decide +kernel
theorem dX2_countBytes_16 : decode cX2_countBytes 16 = .ok (.getfield 20, 3) := by decide +kernel
theorem dX2_countBytes_19 : decode cX2_countBytes 19 = .ok (.iload_n 3, 1) := by decide +kernel
theorem dX2_countBytes_20 : decode cX2_countBytes 20 = .ok (.iaload, 1) := by decide +kernel
theorem dX2_countBytes_21 : decode cX2_countBytes 21 = .ok (.iload_n 1, 1) := by decide +kernel
theorem dX2_countBytes_22 : decode cX2_countBytes 22 = .ok (.if_icmp .ne 6, 3) := by decide +kernel
theorem dX2_countBytes_25 : decode cX2_countBytes 25 = .ok (.iinc 2 1, 3) := by decide +kernel
theorem dX2_countBytes_28 : decode cX2_countBytes 28 = .ok (.iinc 3 1, 3) := by decide +kernel
theorem dX2_countBytes_31 : decode cX2_countBytes 31 = .ok (.goto (-27), 3) := by decide +kernel
theorem dX2_countBytes_34 : decode cX2_countBytes 34 = .ok (.iload_n 2, 1) := by decide +kernel
theorem dX2_countBytes_35 : decode cX2_countBytes 35 = .ok (.ireturn, 1) := by decide +kernel
theorem dX2_beginsSpan_0 : decode cX2_beginsSpan 0 = .ok (.iload_n 1, 1) := by decide +kernel
theorem dX2_beginsSpan_1 : decode cX2_beginsSpan 1 = .ok (.ifCond .eq 20, 3) := by decide +kernel
theorem dX2_beginsSpan_4 : decode cX2_beginsSpan 4 = .ok (.aload_n 0, 1) := by decide +kernel
theorem dX2_beginsSpan_5 : decode cX2_beginsSpan 5 = .ok (.getfield 20, 3) := by decide +kernel
theorem dX2_beginsSpan_8 : decode cX2_beginsSpan 8 = .ok (.iload_n 1, 1) := by decide +kernel
theorem dX2_beginsSpan_9 : decode cX2_beginsSpan 9 = .ok (.iaload, 1) := by decide +kernel
theorem dX2_beginsSpan_10 : decode cX2_beginsSpan 10 = .ok (.aload_n 0, 1) := by decide +kernel
theorem dX2_beginsSpan_11 : decode cX2_beginsSpan 11 = .ok (.getfield 20, 3) := by decide +kernel
theorem dX2_beginsSpan_14 : decode cX2_beginsSpan 14 = .ok (.iload_n 1, 1) := by decide +kernel
theorem dX2_beginsSpan_15 : decode cX2_beginsSpan 15 = .ok (.iconst 1, 1) := by decide +kernel
theorem dX2_beginsSpan_16 : decode cX2_beginsSpan 16 = .ok (.isub, 1) := by decide +kernel
theorem dX2_beginsSpan_17 : decode cX2_beginsSpan 17 = .ok (.iaload, 1) := by decide +kernel
theorem dX2_beginsSpan_18 : decode cX2_beginsSpan 18 = .ok (.if_icmp .eq 7, 3) := by decide +kernel
theorem dX2_beginsSpan_21 : decode cX2_beginsSpan 21 = .ok (.iconst 1, 1) := by decide +kernel
theorem dX2_beginsSpan_22 : decode cX2_beginsSpan 22 = .ok (.goto 4, 3) := by decide +kernel
theorem dX2_beginsSpan_25 : decode cX2_beginsSpan 25 = .ok (.iconst 0, 1) := by decide +kernel
theorem dX2_beginsSpan_26 : decode cX2_beginsSpan 26 = .ok (.ireturn, 1) := by decide +kernel
theorem dX2_countSpans_0 : decode cX2_countSpans 0 = .ok (.iconst 0, 1) := by decide +kernel
theorem dX2_countSpans_1 : decode cX2_countSpans 1 = .ok (.istore_n 1, 1) := by decide +kernel
theorem dX2_countSpans_2 : decode cX2_countSpans 2 = .ok (.iconst 0, 1) := by decide +kernel
theorem dX2_countSpans_3 : decode cX2_countSpans 3 = .ok (.istore_n 2, 1) := by decide +kernel
theorem dX2_countSpans_4 : decode cX2_countSpans 4 = .ok (.iload_n 2, 1) := by decide +kernel
theorem dX2_countSpans_5 : decode cX2_countSpans 5 = .ok (.aload_n 0, 1) := by decide +kernel
theorem dX2_countSpans_6 : decode cX2_countSpans 6 = .ok (.getfield 14, 3) := by decide +kernel
theorem dX2_countSpans_9 : decode cX2_countSpans 9 = .ok (.getfield 44, 3) := by decide +kernel
theorem dX2_countSpans_12 : decode cX2_countSpans 12 = .ok (.if_icmp .ge 20, 3) := by decide +kernel
theorem dX2_countSpans_15 : decode cX2_countSpans 15 = .ok (.aload_n 0, 1) := by decide +kernel
theorem dX2_countSpans_16 : decode cX2_countSpans 16 = .ok (.iload_n 2, 1) := by decide +kernel
theorem dX2_countSpans_17 : decode cX2_countSpans 17 = .ok (.invokevirtual 48, 3) := by decide +kernel
theorem dX2_countSpans_20 : decode cX2_countSpans 20 = .ok (.ifCond .eq 6, 3) := by decide +kernel
theorem dX2_countSpans_23 : decode cX2_countSpans 23 = .ok (.iinc 1 1, 3) := by decide +kernel
theorem dX2_countSpans_26 : decode cX2_countSpans 26 = .ok (.iinc 2 1, 3) := by decide +kernel
theorem dX2_countSpans_29 : decode cX2_countSpans 29 = .ok (.goto (-25), 3) := by decide +kernel
theorem dX2_countSpans_32 : decode cX2_countSpans 32 = .ok (.iload_n 1, 1) := by decide +kernel
theorem dX2_countSpans_33 : decode cX2_countSpans 33 = .ok (.ireturn, 1) := by decide +kernel
theorem dX2_beginOfSpan_0 : decode cX2_beginOfSpan 0 = .ok (.iconst 0, 1) := by decide +kernel
theorem dX2_beginOfSpan_1 : decode cX2_beginOfSpan 1 = .ok (.istore_n 2, 1) := by decide +kernel
theorem dX2_beginOfSpan_2 : decode cX2_beginOfSpan 2 = .ok (.iconst 0, 1) := by decide +kernel
theorem dX2_beginOfSpan_3 : decode cX2_beginOfSpan 3 = .ok (.istore_n 3, 1) := by decide +kernel
theorem dX2_beginOfSpan_4 : decode cX2_beginOfSpan 4 = .ok (.iload_n 3, 1) := by decide +kernel
theorem dX2_beginOfSpan_5 : decode cX2_beginOfSpan 5 = .ok (.aload_n 0, 1) := by decide +kernel
theorem dX2_beginOfSpan_6 : decode cX2_beginOfSpan 6 = .ok (.getfield 14, 3) := by decide +kernel
theorem dX2_beginOfSpan_9 : decode cX2_beginOfSpan 9 = .ok (.getfield 44, 3) := by decide +kernel
theorem dX2_beginOfSpan_12 : decode cX2_beginOfSpan 12 = .ok (.if_icmp .ge 27, 3) := by decide +kernel
theorem dX2_beginOfSpan_15 : decode cX2_beginOfSpan 15 = .ok (.aload_n 0, 1) := by decide +kernel
theorem dX2_beginOfSpan_16 : decode cX2_beginOfSpan 16 = .ok (.iload_n 3, 1) := by decide +kernel
theorem dX2_beginOfSpan_17 : decode cX2_beginOfSpan 17 = .ok (.invokevirtual 48, 3) := by decide +kernel
theorem dX2_beginOfSpan_20 : decode cX2_beginOfSpan 20 = .ok (.ifCond .eq 13, 3) := by decide +kernel
theorem dX2_beginOfSpan_23 : decode cX2_beginOfSpan 23 = .ok (.iload_n 2, 1) := by decide +kernel
theorem dX2_beginOfSpan_24 : decode cX2_beginOfSpan 24 = .ok (.iload_n 1, 1) := by decide +kernel
theorem dX2_beginOfSpan_25 : decode cX2_beginOfSpan 25 = .ok (.if_icmp .ne 5, 3) := by decide +kernel
theorem dX2_beginOfSpan_28 : decode cX2_beginOfSpan 28 = .ok (.iload_n 3, 1) := by decide +kernel
theorem dX2_beginOfSpan_29 : decode cX2_beginOfSpan 29 = .ok (.ireturn, 1) := by decide +kernel
theorem dX2_beginOfSpan_30 : decode cX2_beginOfSpan 30 = .ok (.iinc 2 1, 3) := by decide +kernel
theorem dX2_beginOfSpan_33 : decode cX2_beginOfSpan 33 = .ok (.iinc 3 1, 3) := by decide +kernel
theorem dX2_beginOfSpan_36 : decode cX2_beginOfSpan 36 = .ok (.goto (-32), 3) := by decide +kernel
theorem dX2_beginOfSpan_39 : decode cX2_beginOfSpan 39 = .ok (.iconst (-1), 1) := by decide +kernel
theorem dX2_beginOfSpan_40 : decode cX2_beginOfSpan 40 = .ok (.ireturn, 1) := by decide +kernel
theorem dX2_endOfSpan_0 : decode cX2_endOfSpan 0 = .ok (.iload_n 1, 1) := by decide +kernel
theorem dX2_endOfSpan_1 : decode cX2_endOfSpan 1 = .ok (.iconst 1, 1) := by decide +kernel
theorem dX2_endOfSpan_2 : decode cX2_endOfSpan 2 = .ok (.iadd, 1) := by decide +kernel
theorem dX2_endOfSpan_3 : decode cX2_endOfSpan 3 = .ok (.istore_n 2, 1) := by decide +kernel
theorem dX2_endOfSpan_4 : decode cX2_endOfSpan 4 = .ok (.iload_n 2, 1) := by decide +kernel
theorem dX2_endOfSpan_5 : decode cX2_endOfSpan 5 = .ok (.aload_n 0, 1) := by decide +kernel
theorem dX2_endOfSpan_6 : decode cX2_endOfSpan 6 = .ok (.getfield 14, 3) := by decide +kernel
theorem dX2_endOfSpan_9 : decode cX2_endOfSpan 9 = .ok (.getfield 44, 3) := by decide +kernel
theorem dX2_endOfSpan_12 : decode cX2_endOfSpan 12 = .ok (.if_icmp .ge 19, 3) := by decide +kernel
theorem dX2_endOfSpan_15 : decode cX2_endOfSpan 15 = .ok (.aload_n 0, 1) := by decide +kernel
theorem dX2_endOfSpan_16 : decode cX2_endOfSpan 16 = .ok (.iload_n 2, 1) := by decide +kernel
theorem dX2_endOfSpan_17 : decode cX2_endOfSpan 17 = .ok (.invokevirtual 48, 3) := by decide +kernel
theorem dX2_endOfSpan_20 : decode cX2_endOfSpan 20 = .ok (.ifCond .eq 5, 3) := by decide +kernel
theorem dX2_endOfSpan_23 : decode cX2_endOfSpan 23 = .ok (.iload_n 2, 1) := by decide +kernel
theorem dX2_endOfSpan_24 : decode cX2_endOfSpan 24 = .ok (.ireturn, 1) := by decide +kernel
theorem dX2_endOfSpan_25 : decode cX2_endOfSpan 25 = .ok (.iinc 2 1, 3) := by decide +kernel
theorem dX2_endOfSpan_28 : decode cX2_endOfSpan 28 = .ok (.goto (-24), 3) := by decide +kernel
theorem dX2_endOfSpan_31 : decode cX2_endOfSpan 31 = .ok (.aload_n 0, 1) := by decide +kernel
theorem dX2_endOfSpan_32 : decode cX2_endOfSpan 32 = .ok (.getfield 14, 3) := by decide +kernel
theorem dX2_endOfSpan_35 : decode cX2_endOfSpan 35 = .ok (.getfield 44, 3) := by decide +kernel
theorem dX2_endOfSpan_38 : decode cX2_endOfSpan 38 = .ok (.ireturn, 1) := by decide +kernel
theorem dX3_init_0 : decode cX3_init 0 = .ok (.aload_n 0, 1) := by decide +kernel
theorem dX3_init_1 : decode cX3_init 1 = .ok (.invokespecial 3, 3) := by decide +kernel
theorem dX3_init_4 : decode cX3_init 4 = .ok (.aload_n 0, 1) := by decide +kernel
theorem dX3_init_5 : decode cX3_init 5 = .ok (.bipush 10, 2) := by decide +kernel
theorem dX3_init_7 : decode cX3_init 7 = .ok (.anewarray 9, 3) := by decide +kernel
theorem dX3_init_10 : decode cX3_init 10 = .ok (.putfield 11, 3) := by decide +kernel
theorem dX3_init_13 : decode cX3_init 13 = .ok (.iconst 0, 1) := by decide +kernel
theorem dX3_init_14 : decode cX3_init 14 = .ok (.istore_n 1, 1) := by decide +kernel
theorem dX3_init_15 : decode cX3_init 15 = .ok (.iload_n 1, 1) := by decide +kernel
theorem dX3_init_16 : decode cX3_init 16 = .ok (.bipush 10, 2) := by decide +kernel
theorem dX3_init_18 : decode cX3_init 18 = .ok (.if_icmp .ge 22, 3) := by decide +kernel
theorem dX3_init_21 : decode cX3_init 21 = .ok (.aload_n 0, 1) := by decide +kernel
theorem dX3_init_22 : decode cX3_init 22 = .ok (.getfield 11, 3) := by decide +kernel
theorem dX3_init_25 : decode cX3_init 25 = .ok (.iload_n 1, 1) := by decide +kernel
theorem dX3_init_26 : decode cX3_init 26 = .ok (.new 9, 3) := by decide +kernel
theorem dX3_init_29 : decode cX3_init 29 = .ok (.dup, 1) := by decide +kernel
theorem dX3_init_30 : decode cX3_init 30 = .ok (.invokespecial 17, 3) := by decide +kernel
theorem dX3_init_33 : decode cX3_init 33 = .ok (.aastore, 1) := by decide +kernel
theorem dX3_init_34 : decode cX3_init 34 = .ok (.iinc 1 1, 3) := by decide +kernel
theorem dX3_init_37 : decode cX3_init 37 = .ok (.goto (-22), 3) := by decide +kernel
theorem dX3_init_40 : decode cX3_init 40 = .ok (.aload_n 0, 1) := by decide +kernel
theorem dX3_init_41 : decode cX3_init 41 = .ok (.new 18, 3) := by decide +kernel
theorem dX3_init_44 : decode cX3_init 44 = .ok (.dup, 1) := by decide +kernel
theorem dX3_init_45 : decode cX3_init 45 = .ok (.invokespecial 20, 3) := by decide +kernel
theorem dX3_init_48 : decode cX3_init 48 = .ok (.putfield 21, 3) := by decide +kernel
theorem dX3_init_51 : decode cX3_init 51 = .ok (.aload_n 0, 1) := by decide +kernel
theorem dX3_init_52 : decode cX3_init 52 = .ok (.new 25, 3) := by decide +kernel
theorem dX3_init_55 : decode cX3_init 55 = .ok (.dup, 1) := by decide +kernel
theorem dX3_init_56 : decode cX3_init 56 = .ok (.invokespecial 27, 3) := by decide +kernel
theorem dX3_init_59 : decode cX3_init 59 = .ok (.putfield 28, 3) := by decide +kernel
theorem dX3_init_62 : decode cX3_init 62 = .ok (.aload_n 0, 1) := by decide +kernel
theorem dX3_init_63 : decode cX3_init 63 = .ok (.new 32, 3) := by decide +kernel
theorem dX3_init_66 : decode cX3_init 66 = .ok (.dup, 1) := by decide +kernel
theorem dX3_init_67 : decode cX3_init 67 = .ok (.invokespecial 34, 3) := by decide +kernel
theorem dX3_init_70 : decode cX3_init 70 = .ok (.putfield 35, 3) := by decide +kernel
theorem dX3_init_73 : decode cX3_init 73 = .ok (.aload_n 0, 1) := by decide +kernel
theorem dX3_init_74 : decode cX3_init 74 = .ok (.iconst 0, 1) := by decide +kernel
theorem dX3_init_75 : decode cX3_init 75 = .ok (.putfield 39, 3) := by decide +kernel
theorem dX3_init_78 : decode cX3_init 78 = .ok (.return_, 1) := by decide +kernel
theorem dX3_hasLine_0 : decode cX3_hasLine 0 = .ok (.iload_n 1, 1) := by decide +kernel
theorem dX3_hasLine_1 : decode cX3_hasLine 1 = .ok (.ifCond .lt 21, 3) := by decide +kernel
theorem dX3_hasLine_4 : decode cX3_hasLine 4 = .ok (.iload_n 1, 1) := by decide +kernel
theorem dX3_hasLine_5 : decode cX3_hasLine 5 = .ok (.aload_n 0, 1) := by decide +kernel
theorem dX3_hasLine_6 : decode cX3_hasLine 6 = .ok (.getfield 39, 3) := by decide +kernel
theorem dX3_hasLine_9 : decode cX3_hasLine 9 = .ok (.if_icmp .ge 13, 3) := by decide +kernel
theorem dX3_hasLine_12 : decode cX3_hasLine 12 = .ok (.iload_n 1, 1) := by decide +kernel
theorem dX3_hasLine_13 : decode cX3_hasLine 13 = .ok (.bipush 10, 2) := by decide +kernel
theorem dX3_hasLine_15 : decode cX3_hasLine 15 = .ok (.if_icmp .ge 7, 3) := by decide +kernel
theorem dX3_hasLine_18 : decode cX3_hasLine 18 = .ok (.iconst 1, 1) := by decide +kernel
theorem dX3_hasLine_19 : decode cX3_hasLine 19 = .ok (.goto 4, 3) := by decide +kernel
theorem dX3_hasLine_22 : decode cX3_hasLine 22 = .ok (.iconst 0, 1) := by decide +kernel
theorem dX3_hasLine_23 : decode cX3_hasLine 23 = .ok (.ireturn, 1) := by decide +kernel
theorem dX3_hasByte_0 : decode cX3_hasByte 0 = .ok (.aload_n 0, 1) := by decide +kernel
theorem dX3_hasByte_1 : decode cX3_hasByte 1 = .ok (.iload_n 1, 1) := by decide +kernel
theorem dX3_hasByte_2 : decode cX3_hasByte 2 = .ok (.invokevirtual 43, 3) := by decide +kernel
theorem dX3_hasByte_5 : decode cX3_hasByte 5 = .ok (.ifCond .eq 27, 3) := by decide +kernel
theorem dX3_hasByte_8 : decode cX3_hasByte 8 = .ok (.iload_n 2, 1) := by decide +kernel
theorem dX3_hasByte_9 : decode cX3_hasByte 9 = .ok (.ifCond .lt 23, 3) := by decide +kernel
theorem dX3_hasByte_12 : decode cX3_hasByte 12 = .ok (.iload_n 2, 1) := by decide +kernel
theorem dX3_hasByte_13 : decode cX3_hasByte 13 = .ok (.aload_n 0, 1) := by decide +kernel
theorem dX3_hasByte_14 : decode cX3_hasByte 14 = .ok (.getfield 11, 3) := by decide +kernel
theorem dX3_hasByte_17 : decode cX3_hasByte 17 = .ok (.iload_n 1, 1) := by decide +kernel
theorem dX3_hasByte_18 : decode cX3_hasByte 18 = .ok (.aaload, 1) := by decide +kernel
theorem dX3_hasByte_19 : decode cX3_hasByte 19 = .ok (.getfield 47, 3) := by decide +kernel
theorem dX3_hasByte_22 : decode cX3_hasByte 22 = .ok (.getfield 51, 3) := by decide +kernel
theorem dX3_hasByte_25 : decode cX3_hasByte 25 = .ok (.if_icmp .ge 7, 3) := by decide +kernel
theorem dX3_hasByte_28 : decode cX3_hasByte 28 = .ok (.iconst 1, 1) := by decide +kernel
theorem dX3_hasByte_29 : decode cX3_hasByte 29 = .ok (.goto 4, 3) := by decide +kernel
theorem dX3_hasByte_32 : decode cX3_hasByte 32 = .ok (.iconst 0, 1) := by decide +kernel
theorem dX3_hasByte_33 : decode cX3_hasByte 33 = .ok (.ireturn, 1) := by decide +kernel
theorem dX3_openLine_0 : decode cX3_openLine 0 = .ok (.iload_n 1, 1) := by decide +kernel
theorem dX3_openLine_1 : decode cX3_openLine 1 = .ok (.ifCond .lt 20, 3) := by decide +kernel
theorem dX3_openLine_4 : decode cX3_openLine 4 = .ok (.iload_n 1, 1) := by decide +kernel
theorem dX3_openLine_5 : decode cX3_openLine 5 = .ok (.aload_n 0, 1) := by decide +kernel
theorem dX3_openLine_6 : decode cX3_openLine 6 = .ok (.getfield 39, 3) := by decide +kernel
theorem dX3_openLine_9 : decode cX3_openLine 9 = .ok (.if_icmp .gt 12, 3) := by decide +kernel
theorem dX3_openLine_12 : decode cX3_openLine 12 = .ok (.aload_n 0, 1) := by decide +kernel
theorem dX3_openLine_13 : decode cX3_openLine 13 = .ok (.getfield 39, 3) := by decide +kernel
theorem dX3_openLine_16 : decode cX3_openLine 16 = .ok (.bipush 10, 2) := by decide +kernel
theorem dX3_openLine_18 : decode cX3_openLine 18 = .ok (.if_icmp .lt 4, 3) := by decide +kernel
theorem dX3_openLine_21 : decode cX3_openLine 21 = .ok (.return_, 1) := by decide +kernel
theorem dX3_openLine_22 : decode cX3_openLine 22 = .ok (.aload_n 0, 1) := by decide +kernel
theorem dX3_openLine_23 : decode cX3_openLine 23 = .ok (.getfield 11, 3) := by decide +kernel
theorem dX3_openLine_26 : decode cX3_openLine 26 = .ok (.aload_n 0, 1) := by decide +kernel
theorem dX3_openLine_27 : decode cX3_openLine 27 = .ok (.getfield 39, 3) := by decide +kernel
theorem dX3_openLine_30 : decode cX3_openLine 30 = .ok (.aaload, 1) := by decide +kernel
theorem dX3_openLine_31 : decode cX3_openLine 31 = .ok (.astore_n 2, 1) := by decide +kernel
theorem dX3_openLine_32 : decode cX3_openLine 32 = .ok (.aload_n 0, 1) := by decide +kernel
theorem dX3_openLine_33 : decode cX3_openLine 33 = .ok (.getfield 39, 3) := by decide +kernel
theorem dX3_openLine_36 : decode cX3_openLine 36 = .ok (.istore_n 3, 1) := by decide +kernel
theorem dX3_openLine_37 : decode cX3_openLine 37 = .ok (.iload_n 3, 1) := by decide +kernel
theorem dX3_openLine_38 : decode cX3_openLine 38 = .ok (.iload_n 1, 1) := by decide +kernel
theorem dX3_openLine_39 : decode cX3_openLine 39 = .ok (.if_icmp .le 23, 3) := by decide +kernel
theorem dX3_openLine_42 : decode cX3_openLine 42 = .ok (.aload_n 0, 1) := by decide +kernel
theorem dX3_openLine_43 : decode cX3_openLine 43 = .ok (.getfield 11, 3) := by decide +kernel
theorem dX3_openLine_46 : decode cX3_openLine 46 = .ok (.iload_n 3, 1) := by decide +kernel
theorem dX3_openLine_47 : decode cX3_openLine 47 = .ok (.aload_n 0, 1) := by decide +kernel
theorem dX3_openLine_48 : decode cX3_openLine 48 = .ok (.getfield 11, 3) := by decide +kernel
theorem dX3_openLine_51 : decode cX3_openLine 51 = .ok (.iload_n 3, 1) := by decide +kernel
theorem dX3_openLine_52 : decode cX3_openLine 52 = .ok (.iconst 1, 1) := by decide +kernel
theorem dX3_openLine_53 : decode cX3_openLine 53 = .ok (.isub, 1) := by decide +kernel
theorem dX3_openLine_54 : decode cX3_openLine 54 = .ok (.aaload, 1) := by decide +kernel
theorem dX3_openLine_55 : decode cX3_openLine 55 = .ok (.aastore, 1) := by decide +kernel
theorem dX3_openLine_56 : decode cX3_openLine 56 = .ok (.iinc 3 (-1), 3) := by decide +kernel
theorem dX3_openLine_59 : decode cX3_openLine 59 = .ok (.goto (-22), 3) := by decide +kernel
theorem dX3_openLine_62 : decode cX3_openLine 62 = .ok (.aload_n 0, 1) := by decide +kernel
theorem dX3_openLine_63 : decode cX3_openLine 63 = .ok (.getfield 11, 3) := by decide +kernel
theorem dX3_openLine_66 : decode cX3_openLine 66 = .ok (.iload_n 1, 1) := by decide +kernel
theorem dX3_openLine_67 : decode cX3_openLine 67 = .ok (.aload_n 2, 1) := by decide +kernel
theorem dX3_openLine_68 : decode cX3_openLine 68 = .ok (.aastore, 1) := by decide +kernel
theorem dX3_openLine_69 : decode cX3_openLine 69 = .ok (.aload_n 2, 1) := by decide +kernel
theorem dX3_openLine_70 : decode cX3_openLine 70 = .ok (.getfield 47, 3) := by decide +kernel
theorem dX3_openLine_73 : decode cX3_openLine 73 = .ok (.iconst 0, 1) := by decide +kernel
theorem dX3_openLine_74 : decode cX3_openLine 74 = .ok (.putfield 51, 3) := by decide +kernel
theorem dX3_openLine_77 : decode cX3_openLine 77 = .ok (.aload_n 2, 1) := by decide +kernel
theorem dX3_openLine_78 : decode cX3_openLine 78 = .ok (.iconst 1, 1) := by decide +kernel
theorem dX3_openLine_79 : decode cX3_openLine 79 = .ok (.putfield 56, 3) := by decide +kernel
theorem dX3_openLine_82 : decode cX3_openLine 82 = .ok (.aload_n 0, 1) := by decide +kernel
theorem dX3_openLine_83 : decode cX3_openLine 83 = .ok (.dup, 1) := by decide +kernel
theorem dX3_openLine_84 : decode cX3_openLine 84 = .ok (.getfield 39, 3) := by decide +kernel
theorem dX3_openLine_87 : decode cX3_openLine 87 = .ok (.iconst 1, 1) := by decide +kernel
theorem dX3_openLine_88 : decode cX3_openLine 88 = .ok (.iadd, 1) := by decide +kernel
theorem dX3_openLine_89 : decode cX3_openLine 89 = .ok (.putfield 39, 3) := by decide +kernel
theorem dX3_openLine_92 : decode cX3_openLine 92 = .ok (.return_, 1) := by decide +kernel
theorem dX3_closeLine_0 : decode cX3_closeLine 0 = .ok (.aload_n 0, 1) := by decide +kernel
theorem dX3_closeLine_1 : decode cX3_closeLine 1 = .ok (.iload_n 1, 1) := by decide +kernel
theorem dX3_closeLine_2 : decode cX3_closeLine 2 = .ok (.invokevirtual 43, 3) := by decide +kernel
theorem dX3_closeLine_5 : decode cX3_closeLine 5 = .ok (.ifCond .ne 4, 3) := by decide +kernel
theorem dX3_closeLine_8 : decode cX3_closeLine 8 = .ok (.return_, 1) := by decide +kernel
theorem dX3_closeLine_9 : decode cX3_closeLine 9 = .ok (.aload_n 0, 1) := by decide +kernel
theorem dX3_closeLine_10 : decode cX3_closeLine 10 = .ok (.getfield 11, 3) := by decide +kernel
theorem dX3_closeLine_13 : decode cX3_closeLine 13 = .ok (.iload_n 1, 1) := by decide +kernel
theorem dX3_closeLine_14 : decode cX3_closeLine 14 = .ok (.aaload, 1) := by decide +kernel
theorem dX3_closeLine_15 : decode cX3_closeLine 15 = .ok (.astore_n 2, 1) := by decide +kernel
theorem dX3_closeLine_16 : decode cX3_closeLine 16 = .ok (.iload_n 1, 1) := by decide +kernel
theorem dX3_closeLine_17 : decode cX3_closeLine 17 = .ok (.istore_n 3, 1) := by decide +kernel
theorem dX3_closeLine_18 : decode cX3_closeLine 18 = .ok (.iload_n 3, 1) := by decide +kernel
theorem dX3_closeLine_19 : decode cX3_closeLine 19 = .ok (.aload_n 0, 1) := by decide +kernel
theorem dX3_closeLine_20 : decode cX3_closeLine 20 = .ok (.getfield 39, 3) := by decide +kernel
theorem dX3_closeLine_23 : decode cX3_closeLine 23 = .ok (.iconst 1, 1) := by decide +kernel
theorem dX3_closeLine_24 : decode cX3_closeLine 24 = .ok (.isub, 1) := by decide +kernel
theorem dX3_closeLine_25 : decode cX3_closeLine 25 = .ok (.if_icmp .ge 23, 3) := by decide +kernel
theorem dX3_closeLine_28 : decode cX3_closeLine 28 = .ok (.aload_n 0, 1) := by decide +kernel
theorem dX3_closeLine_29 : decode cX3_closeLine 29 = .ok (.getfield 11, 3) := by decide +kernel
theorem dX3_closeLine_32 : decode cX3_closeLine 32 = .ok (.iload_n 3, 1) := by decide +kernel
theorem dX3_closeLine_33 : decode cX3_closeLine 33 = .ok (.aload_n 0, 1) := by decide +kernel
theorem dX3_closeLine_34 : decode cX3_closeLine 34 = .ok (.getfield 11, 3) := by decide +kernel
theorem dX3_closeLine_37 : decode cX3_closeLine 37 = .ok (.iload_n 3, 1) := by decide +kernel
theorem dX3_closeLine_38 : decode cX3_closeLine 38 = .ok (.iconst 1, 1) := by decide +kernel
theorem dX3_closeLine_39 : decode cX3_closeLine 39 = .ok (.iadd, 1) := by decide +kernel
theorem dX3_closeLine_40 : decode cX3_closeLine 40 = .ok (.aaload, 1) := by decide +kernel
theorem dX3_closeLine_41 : decode cX3_closeLine 41 = .ok (.aastore, 1) := by decide +kernel
theorem dX3_closeLine_42 : decode cX3_closeLine 42 = .ok (.iinc 3 1, 3) := by decide +kernel
theorem dX3_closeLine_45 : decode cX3_closeLine 45 = .ok (.goto (-27), 3) := by decide +kernel
theorem dX3_closeLine_48 : decode cX3_closeLine 48 = .ok (.aload_n 0, 1) := by decide +kernel
theorem dX3_closeLine_49 : decode cX3_closeLine 49 = .ok (.dup, 1) := by decide +kernel
theorem dX3_closeLine_50 : decode cX3_closeLine 50 = .ok (.getfield 39, 3) := by decide +kernel
theorem dX3_closeLine_53 : decode cX3_closeLine 53 = .ok (.iconst 1, 1) := by decide +kernel
theorem dX3_closeLine_54 : decode cX3_closeLine 54 = .ok (.isub, 1) := by decide +kernel
theorem dX3_closeLine_55 : decode cX3_closeLine 55 = .ok (.putfield 39, 3) := by decide +kernel
theorem dX3_closeLine_58 : decode cX3_closeLine 58 = .ok (.aload_n 0, 1) := by decide +kernel
theorem dX3_closeLine_59 : decode cX3_closeLine 59 = .ok (.getfield 11, 3) := by decide +kernel
theorem dX3_closeLine_62 : decode cX3_closeLine 62 = .ok (.aload_n 0, 1) := by decide +kernel
theorem dX3_closeLine_63 : decode cX3_closeLine 63 = .ok (.getfield 39, 3) := by decide +kernel
theorem dX3_closeLine_66 : decode cX3_closeLine 66 = .ok (.aload_n 2, 1) := by decide +kernel
theorem dX3_closeLine_67 : decode cX3_closeLine 67 = .ok (.aastore, 1) := by decide +kernel
theorem dX3_closeLine_68 : decode cX3_closeLine 68 = .ok (.return_, 1) := by decide +kernel
theorem dX3_repaint_0 : decode cX3_repaint 0 = .ok (.aload_n 0, 1) := by decide +kernel
theorem dX3_repaint_1 : decode cX3_repaint 1 = .ok (.iload_n 1, 1) := by decide +kernel
theorem dX3_repaint_2 : decode cX3_repaint 2 = .ok (.iconst 1, 1) := by decide +kernel
theorem dX3_repaint_3 : decode cX3_repaint 3 = .ok (.isub, 1) := by decide +kernel
theorem dX3_repaint_4 : decode cX3_repaint 4 = .ok (.invokevirtual 43, 3) := by decide +kernel
theorem dX3_repaint_7 : decode cX3_repaint 7 = .ok (.ifCond .eq 27, 3) := by decide +kernel
theorem dX3_repaint_10 : decode cX3_repaint 10 = .ok (.aload_n 0, 1) := by decide +kernel
theorem dX3_repaint_11 : decode cX3_repaint 11 = .ok (.getfield 35, 3) := by decide +kernel
theorem dX3_repaint_14 : decode cX3_repaint 14 = .ok (.getfield 60, 3) := by decide +kernel
theorem dX3_repaint_17 : decode cX3_repaint 17 = .ok (.aload_n 0, 1) := by decide +kernel
theorem dX3_repaint_18 : decode cX3_repaint 18 = .ok (.getfield 11, 3) := by decide +kernel
theorem dX3_repaint_21 : decode cX3_repaint 21 = .ok (.iload_n 1, 1) := by decide +kernel
theorem dX3_repaint_22 : decode cX3_repaint 22 = .ok (.iconst 1, 1) := by decide +kernel
theorem dX3_repaint_23 : decode cX3_repaint 23 = .ok (.isub, 1) := by decide +kernel
theorem dX3_repaint_24 : decode cX3_repaint 24 = .ok (.aaload, 1) := by decide +kernel
theorem dX3_repaint_25 : decode cX3_repaint 25 = .ok (.getfield 64, 3) := by decide +kernel
theorem dX3_repaint_28 : decode cX3_repaint 28 = .ok (.invokevirtual 67, 3) := by decide +kernel
theorem dX3_repaint_31 : decode cX3_repaint 31 = .ok (.goto 13, 3) := by decide +kernel
theorem dX3_repaint_34 : decode cX3_repaint 34 = .ok (.aload_n 0, 1) := by decide +kernel
theorem dX3_repaint_35 : decode cX3_repaint 35 = .ok (.getfield 35, 3) := by decide +kernel
theorem dX3_repaint_38 : decode cX3_repaint 38 = .ok (.getfield 60, 3) := by decide +kernel
theorem dX3_repaint_41 : decode cX3_repaint 41 = .ok (.invokevirtual 73, 3) := by decide +kernel
theorem dX3_repaint_44 : decode cX3_repaint 44 = .ok (.iconst 0, 1) := by decide +kernel
theorem dX3_repaint_45 : decode cX3_repaint 45 = .ok (.istore_n 3, 1) := by decide +kernel
theorem dX3_repaint_46 : decode cX3_repaint 46 = .ok (.iconst 0, 1) := by decide +kernel
theorem dX3_repaint_47 : decode cX3_repaint 47 = .ok (.iload_n 1, 1) := by decide +kernel
theorem dX3_repaint_48 : decode cX3_repaint 48 = .ok (.invokestatic 76, 3) := by decide +kernel
theorem dX3_repaint_51 : decode cX3_repaint 51 = .ok (.istore 4, 2) := by decide +kernel
theorem dX3_repaint_53 : decode cX3_repaint 53 = .ok (.iload 4, 2) := by decide +kernel
theorem dX3_repaint_55 : decode cX3_repaint 55 = .ok (.aload_n 0, 1) := by decide +kernel
theorem dX3_repaint_56 : decode cX3_repaint 56 = .ok (.getfield 39, 3) := by decide +kernel
theorem dX3_repaint_59 : decode cX3_repaint 59 = .ok (.if_icmp .ge 101, 3) := by decide +kernel
theorem dX3_repaint_62 : decode cX3_repaint 62 = .ok (.aload_n 0, 1) := by decide +kernel
theorem dX3_repaint_63 : decode cX3_repaint 63 = .ok (.getfield 11, 3) := by decide +kernel
theorem dX3_repaint_66 : decode cX3_repaint 66 = .ok (.iload 4, 2) := by decide +kernel
theorem dX3_repaint_68 : decode cX3_repaint 68 = .ok (.aaload, 1) := by decide +kernel
theorem dX3_repaint_69 : decode cX3_repaint 69 = .ok (.astore 5, 2) := by decide +kernel
theorem dX3_repaint_71 : decode cX3_repaint 71 = .ok (.aload_n 0, 1) := by decide +kernel
theorem dX3_repaint_72 : decode cX3_repaint 72 = .ok (.getfield 35, 3) := by decide +kernel
theorem dX3_repaint_75 : decode cX3_repaint 75 = .ok (.aload 5, 2) := by decide +kernel
theorem dX3_repaint_77 : decode cX3_repaint 77 = .ok (.aload_n 0, 1) := by decide +kernel
theorem dX3_repaint_78 : decode cX3_repaint 78 = .ok (.getfield 21, 3) := by decide +kernel
theorem dX3_repaint_81 : decode cX3_repaint 81 = .ok (.invokevirtual 82, 3) := by decide +kernel
theorem dX3_repaint_84 : decode cX3_repaint 84 = .ok (.iinc 3 1, 3) := by decide +kernel
theorem dX3_repaint_87 : decode cX3_repaint 87 = .ok (.aload 5, 2) := by decide +kernel
theorem dX3_repaint_89 : decode cX3_repaint 89 = .ok (.getfield 56, 3) := by decide +kernel
theorem dX3_repaint_92 : decode cX3_repaint 92 = .ok (.ifCond .ne 25, 3) := by decide +kernel
theorem dX3_repaint_95 : decode cX3_repaint 95 = .ok (.aload_n 0, 1) := by decide +kernel
theorem dX3_repaint_96 : decode cX3_repaint 96 = .ok (.getfield 35, 3) := by decide +kernel
theorem dX3_repaint_99 : decode cX3_repaint 99 = .ok (.getfield 60, 3) := by decide +kernel
theorem dX3_repaint_102 : decode cX3_repaint 102 = .ok (.aload 5, 2) := by decide +kernel
theorem dX3_repaint_104 : decode cX3_repaint 104 = .ok (.getfield 64, 3) := by decide +kernel
theorem dX3_repaint_107 : decode cX3_repaint 107 = .ok (.invokevirtual 86, 3) := by decide +kernel
theorem dX3_repaint_110 : decode cX3_repaint 110 = .ok (.ifCond .eq 7, 3) := by decide +kernel
theorem dX3_repaint_113 : decode cX3_repaint 113 = .ok (.iconst 1, 1) := by decide +kernel
theorem dX3_repaint_114 : decode cX3_repaint 114 = .ok (.goto 4, 3) := by decide +kernel
theorem dX3_repaint_117 : decode cX3_repaint 117 = .ok (.iconst 0, 1) := by decide +kernel
theorem dX3_repaint_118 : decode cX3_repaint 118 = .ok (.istore 6, 2) := by decide +kernel
theorem dX3_repaint_120 : decode cX3_repaint 120 = .ok (.aload 5, 2) := by decide +kernel
theorem dX3_repaint_122 : decode cX3_repaint 122 = .ok (.getfield 64, 3) := by decide +kernel
theorem dX3_repaint_125 : decode cX3_repaint 125 = .ok (.aload_n 0, 1) := by decide +kernel
theorem dX3_repaint_126 : decode cX3_repaint 126 = .ok (.getfield 35, 3) := by decide +kernel
theorem dX3_repaint_129 : decode cX3_repaint 129 = .ok (.getfield 60, 3) := by decide +kernel
theorem dX3_repaint_132 : decode cX3_repaint 132 = .ok (.invokevirtual 67, 3) := by decide +kernel
theorem dX3_repaint_135 : decode cX3_repaint 135 = .ok (.aload 5, 2) := by decide +kernel
theorem dX3_repaint_137 : decode cX3_repaint 137 = .ok (.iconst 0, 1) := by decide +kernel
theorem dX3_repaint_138 : decode cX3_repaint 138 = .ok (.putfield 56, 3) := by decide +kernel
theorem dX3_repaint_141 : decode cX3_repaint 141 = .ok (.iload 6, 2) := by decide +kernel
theorem dX3_repaint_143 : decode cX3_repaint 143 = .ok (.ifCond .eq 11, 3) := by decide +kernel
theorem dX3_repaint_146 : decode cX3_repaint 146 = .ok (.iload 4, 2) := by decide +kernel
theorem dX3_repaint_148 : decode cX3_repaint 148 = .ok (.iload_n 2, 1) := by decide +kernel
theorem dX3_repaint_149 : decode cX3_repaint 149 = .ok (.if_icmp .lt 5, 3) := by decide +kernel
theorem dX3_repaint_152 : decode cX3_repaint 152 = .ok (.iload_n 3, 1) := by decide +kernel
theorem dX3_repaint_153 : decode cX3_repaint 153 = .ok (.ireturn, 1) := by decide +kernel
theorem dX3_repaint_154 : decode cX3_repaint 154 = .ok (.iinc 4 1, 3) := by decide +kernel
theorem dX3_repaint_157 : decode cX3_repaint 157 = .ok (.goto (-104), 3) := by decide +kernel
theorem dX3_repaint_160 : decode cX3_repaint 160 = .ok (.iload_n 3, 1) := by decide +kernel
theorem dX3_repaint_161 : decode cX3_repaint 161 = .ok (.ireturn, 1) := by decide +kernel
theorem dX4_init_0 : decode cX4_init 0 = .ok (.aload_n 0, 1) := by decide +kernel
theorem dX4_init_1 : decode cX4_init 1 = .ok (.invokespecial 3, 3) := by decide +kernel
theorem dX4_init_4 : decode cX4_init 4 = .ok (.aload_n 0, 1) := by decide +kernel
theorem dX4_init_5 : decode cX4_init 5 = .ok (.new 9, 3) := by decide +kernel
theorem dX4_init_8 : decode cX4_init 8 = .ok (.dup, 1) := by decide +kernel
theorem dX4_init_9 : decode cX4_init 9 = .ok (.invokespecial 11, 3) := by decide +kernel
theorem dX4_init_12 : decode cX4_init 12 = .ok (.putfield 12, 3) := by decide +kernel
theorem dX4_init_15 : decode cX4_init 15 = .ok (.aload_n 0, 1) := by decide +kernel
theorem dX4_init_16 : decode cX4_init 16 = .ok (.iconst (-1), 1) := by decide +kernel
theorem dX4_init_17 : decode cX4_init 17 = .ok (.putfield 18, 3) := by decide +kernel
theorem dX4_init_20 : decode cX4_init 20 = .ok (.return_, 1) := by decide +kernel
theorem dX4_paintLine_0 : decode cX4_paintLine 0 = .ok (.aload_n 0, 1) := by decide +kernel
theorem dX4_paintLine_1 : decode cX4_paintLine 1 = .ok (.getfield 12, 3) := by decide +kernel
theorem dX4_paintLine_4 : decode cX4_paintLine 4 = .ok (.getfield 22, 3) := by decide +kernel
theorem dX4_paintLine_7 : decode cX4_paintLine 7 = .ok (.iconst (-1), 1) := by decide +kernel
theorem dX4_paintLine_8 : decode cX4_paintLine 8 = .ok (.if_icmp .eq 9, 3) := by decide +kernel
theorem dX4_paintLine_11 : decode cX4_paintLine 11 = .ok (.aload_n 0, 1) := by decide +kernel
theorem dX4_paintLine_12 : decode cX4_paintLine 12 = .ok (.aload_n 1, 1) := by decide +kernel
theorem dX4_paintLine_13 : decode cX4_paintLine 13 = .ok (.invokevirtual 25, 3) := by decide +kernel
theorem dX4_paintLine_16 : decode cX4_paintLine 16 = .ok (.return_, 1) := by decide +kernel
theorem dX4_paintLine_17 : decode cX4_paintLine 17 = .ok (.aload_n 0, 1) := by decide +kernel
theorem dX4_paintLine_18 : decode cX4_paintLine 18 = .ok (.iconst (-1), 1) := by decide +kernel
theorem dX4_paintLine_19 : decode cX4_paintLine 19 = .ok (.putfield 18, 3) := by decide +kernel
theorem dX4_paintLine_22 : decode cX4_paintLine 22 = .ok (.iconst 0, 1) := by decide +kernel
theorem dX4_paintLine_23 : decode cX4_paintLine 23 = .ok (.istore 4, 2) := by decide +kernel
theorem dX4_paintLine_25 : decode cX4_paintLine 25 = .ok (.iload 4, 2) := by decide +kernel
theorem dX4_paintLine_27 : decode cX4_paintLine 27 = .ok (.aload_n 1, 1) := by decide +kernel
theorem dX4_paintLine_28 : decode cX4_paintLine 28 = .ok (.getfield 29, 3) := by decide +kernel
theorem dX4_paintLine_31 : decode cX4_paintLine 31 = .ok (.getfield 35, 3) := by decide +kernel
theorem dX4_paintLine_34 : decode cX4_paintLine 34 = .ok (.if_icmp .ge 25, 3) := by decide +kernel
theorem dX4_paintLine_37 : decode cX4_paintLine 37 = .ok (.iload 4, 2) := by decide +kernel
theorem dX4_paintLine_39 : decode cX4_paintLine 39 = .ok (.iconst 1, 1) := by decide +kernel
theorem dX4_paintLine_40 : decode cX4_paintLine 40 = .ok (.iadd, 1) := by decide +kernel
theorem dX4_paintLine_41 : decode cX4_paintLine 41 = .ok (.aload_n 0, 1) := by decide +kernel
theorem dX4_paintLine_42 : decode cX4_paintLine 42 = .ok (.aload_n 1, 1) := by decide +kernel
theorem dX4_paintLine_43 : decode cX4_paintLine 43 = .ok (.iload 4, 2) := by decide +kernel
theorem dX4_paintLine_45 : decode cX4_paintLine 45 = .ok (.aload_n 2, 1) := by decide +kernel
theorem dX4_paintLine_46 : decode cX4_paintLine 46 = .ok (.invokevirtual 40, 3) := by decide +kernel
theorem dX4_paintLine_49 : decode cX4_paintLine 49 = .ok (.invokestatic 44, 3) := by decide +kernel
theorem dX4_paintLine_52 : decode cX4_paintLine 52 = .ok (.istore_n 3, 1) := by decide +kernel
theorem dX4_paintLine_53 : decode cX4_paintLine 53 = .ok (.iload_n 3, 1) := by decide +kernel
theorem dX4_paintLine_54 : decode cX4_paintLine 54 = .ok (.istore 4, 2) := by decide +kernel
theorem dX4_paintLine_56 : decode cX4_paintLine 56 = .ok (.goto (-31), 3) := by decide +kernel
theorem dX4_paintLine_59 : decode cX4_paintLine 59 = .ok (.aload_n 0, 1) := by decide +kernel
theorem dX4_paintLine_60 : decode cX4_paintLine 60 = .ok (.getfield 12, 3) := by decide +kernel
theorem dX4_paintLine_63 : decode cX4_paintLine 63 = .ok (.aload_n 0, 1) := by decide +kernel
theorem dX4_paintLine_64 : decode cX4_paintLine 64 = .ok (.getfield 18, 3) := by decide +kernel
theorem dX4_paintLine_67 : decode cX4_paintLine 67 = .ok (.putfield 22, 3) := by decide +kernel
theorem dX4_paintLine_70 : decode cX4_paintLine 70 = .ok (.aload_n 0, 1) := by decide +kernel
theorem dX4_paintLine_71 : decode cX4_paintLine 71 = .ok (.getfield 12, 3) := by decide +kernel
theorem dX4_paintLine_74 : decode cX4_paintLine 74 = .ok (.invokevirtual 50, 3) := by decide +kernel
theorem dX4_paintLine_77 : decode cX4_paintLine 77 = .ok (.return_, 1) := by decide +kernel
theorem dX4_paintTillMark_0 : decode cX4_paintTillMark 0 = .ok (.aload_n 1, 1) := by decide +kernel
theorem dX4_paintTillMark_1 : decode cX4_paintTillMark 1 = .ok (.getfield 29, 3) := by decide +kernel
theorem dX4_paintTillMark_4 : decode cX4_paintTillMark 4 = .ok (.getfield 35, 3) := by decide +kernel
theorem dX4_paintTillMark_7 : decode cX4_paintTillMark 7 = .ok (.iconst 1, 1) := by decide +kernel
theorem dX4_paintTillMark_8 : decode cX4_paintTillMark 8 = .ok (.if_icmp .ne 25, 3) := by decide +kernel
theorem dX4_paintTillMark_11 : decode cX4_paintTillMark 11 = .ok (.aload_n 1, 1) := by decide +kernel
theorem dX4_paintTillMark_12 : decode cX4_paintTillMark 12 = .ok (.getfield 29, 3) := by decide +kernel
theorem dX4_paintTillMark_15 : decode cX4_paintTillMark 15 = .ok (.iconst 0, 1) := by decide +kernel
theorem dX4_paintTillMark_16 : decode cX4_paintTillMark 16 = .ok (.invokevirtual 53, 3) := by decide +kernel
theorem dX4_paintTillMark_19 : decode cX4_paintTillMark 19 = .ok (.aload_n 0, 1) := by decide +kernel
theorem dX4_paintTillMark_20 : decode cX4_paintTillMark 20 = .ok (.getfield 12, 3) := by decide +kernel
theorem dX4_paintTillMark_23 : decode cX4_paintTillMark 23 = .ok (.getfield 22, 3) := by decide +kernel
theorem dX4_paintTillMark_26 : decode cX4_paintTillMark 26 = .ok (.if_icmp .ne 7, 3) := by decide +kernel
theorem dX4_paintTillMark_29 : decode cX4_paintTillMark 29 = .ok (.iconst 1, 1) := by decide +kernel
theorem dX4_paintTillMark_30 : decode cX4_paintTillMark 30 = .ok (.goto 4, 3) := by decide +kernel
theorem dX4_paintTillMark_33 : decode cX4_paintTillMark 33 = .ok (.iconst 0, 1) := by decide +kernel
theorem dX4_paintTillMark_34 : decode cX4_paintTillMark 34 = .ok (.istore_n 2, 1) := by decide +kernel
theorem dX4_paintTillMark_35 : decode cX4_paintTillMark 35 = .ok (.aload_n 1, 1) := by decide +kernel
theorem dX4_paintTillMark_36 : decode cX4_paintTillMark 36 = .ok (.iconst 0, 1) := by decide +kernel
theorem dX4_paintTillMark_37 : decode cX4_paintTillMark 37 = .ok (.aload_n 1, 1) := by decide +kernel
theorem dX4_paintTillMark_38 : decode cX4_paintTillMark 38 = .ok (.getfield 29, 3) := by decide +kernel
theorem dX4_paintTillMark_41 : decode cX4_paintTillMark 41 = .ok (.getfield 35, 3) := by decide +kernel
theorem dX4_paintTillMark_44 : decode cX4_paintTillMark 44 = .ok (.iload_n 2, 1) := by decide +kernel
theorem dX4_paintTillMark_45 : decode cX4_paintTillMark 45 = .ok (.ifCond .eq 8, 3) := by decide +kernel
theorem dX4_paintTillMark_48 : decode cX4_paintTillMark 48 = .ok (.bipush 7, 2) := by decide +kernel
theorem dX4_paintTillMark_50 : decode cX4_paintTillMark 50 = .ok (.goto 4, 3) := by decide +kernel
theorem dX4_paintTillMark_53 : decode cX4_paintTillMark 53 = .ok (.iconst 4, 1) := by decide +kernel
theorem dX4_paintTillMark_54 : decode cX4_paintTillMark 54 = .ok (.iconst 1, 1) := by decide +kernel
theorem dX4_paintTillMark_55 : decode cX4_paintTillMark 55 = .ok (.invokevirtual 57, 3) := by decide +kernel
theorem dX4_paintTillMark_58 : decode cX4_paintTillMark 58 = .ok (.pop, 1) := by decide +kernel
theorem dX4_paintTillMark_59 : decode cX4_paintTillMark 59 = .ok (.iload_n 2, 1) := by decide +kernel
theorem dX4_paintTillMark_60 : decode cX4_paintTillMark 60 = .ok (.ifCond .eq 11, 3) := by decide +kernel
theorem dX4_paintTillMark_63 : decode cX4_paintTillMark 63 = .ok (.aload_n 0, 1) := by decide +kernel
theorem dX4_paintTillMark_64 : decode cX4_paintTillMark 64 = .ok (.getfield 12, 3) := by decide +kernel
theorem dX4_paintTillMark_67 : decode cX4_paintTillMark 67 = .ok (.iconst (-1), 1) := by decide +kernel
theorem dX4_paintTillMark_68 : decode cX4_paintTillMark 68 = .ok (.putfield 22, 3) := by decide +kernel
theorem dX4_paintTillMark_71 : decode cX4_paintTillMark 71 = .ok (.return_, 1) := by decide +kernel
theorem dX4_paintFrom_0 : decode cX4_paintFrom 0 = .ok (.aload_n 1, 1) := by decide +kernel
theorem dX4_paintFrom_1 : decode cX4_paintFrom 1 = .ok (.getfield 29, 3) := by decide +kernel
theorem dX4_paintFrom_4 : decode cX4_paintFrom 4 = .ok (.iload_n 2, 1) := by decide +kernel
theorem dX4_paintFrom_5 : decode cX4_paintFrom 5 = .ok (.invokevirtual 53, 3) := by decide +kernel
theorem dX4_paintFrom_8 : decode cX4_paintFrom 8 = .ok (.istore 4, 2) := by decide +kernel
theorem dX4_paintFrom_10 : decode cX4_paintFrom 10 = .ok (.aload_n 0, 1) := by decide +kernel
theorem dX4_paintFrom_11 : decode cX4_paintFrom 11 = .ok (.getfield 12, 3) := by decide +kernel
theorem dX4_paintFrom_14 : decode cX4_paintFrom 14 = .ok (.invokevirtual 61, 3) := by decide +kernel
theorem dX4_paintFrom_17 : decode cX4_paintFrom 17 = .ok (.istore 5, 2) := by decide +kernel
theorem dX4_paintFrom_19 : decode cX4_paintFrom 19 = .ok (.iload 5, 2) := by decide +kernel
theorem dX4_paintFrom_21 : decode cX4_paintFrom 21 = .ok (.iconst 2, 1) := by decide +kernel
theorem dX4_paintFrom_22 : decode cX4_paintFrom 22 = .ok (.if_icmp .ne 19, 3) := by decide +kernel
theorem dX4_paintFrom_25 : decode cX4_paintFrom 25 = .ok (.aload_n 1, 1) := by decide +kernel
theorem dX4_paintFrom_26 : decode cX4_paintFrom 26 = .ok (.iload_n 2, 1) := by decide +kernel
theorem dX4_paintFrom_27 : decode cX4_paintFrom 27 = .ok (.iload_n 2, 1) := by decide +kernel
theorem dX4_paintFrom_28 : decode cX4_paintFrom 28 = .ok (.iconst 1, 1) := by decide +kernel
theorem dX4_paintFrom_29 : decode cX4_paintFrom 29 = .ok (.iadd, 1) := by decide +kernel
theorem dX4_paintFrom_30 : decode cX4_paintFrom 30 = .ok (.aload_n 0, 1) := by decide +kernel
theorem dX4_paintFrom_31 : decode cX4_paintFrom 31 = .ok (.iload 4, 2) := by decide +kernel
theorem dX4_paintFrom_33 : decode cX4_paintFrom 33 = .ok (.invokevirtual 65, 3) := by decide +kernel
theorem dX4_paintFrom_36 : decode cX4_paintFrom 36 = .ok (.iconst 2, 1) := by decide +kernel
theorem dX4_paintFrom_37 : decode cX4_paintFrom 37 = .ok (.invokevirtual 57, 3) := by decide +kernel
theorem dX4_paintFrom_40 : decode cX4_paintFrom 40 = .ok (.ireturn, 1) := by decide +kernel
theorem dX4_paintFrom_41 : decode cX4_paintFrom 41 = .ok (.iload 5, 2) := by decide +kernel
theorem dX4_paintFrom_43 : decode cX4_paintFrom 43 = .ok (.iconst 1, 1) := by decide +kernel
theorem dX4_paintFrom_44 : decode cX4_paintFrom 44 = .ok (.if_icmp .ne 65, 3) := by decide +kernel
theorem dX4_paintFrom_47 : decode cX4_paintFrom 47 = .ok (.iload 4, 2) := by decide +kernel
theorem dX4_paintFrom_49 : decode cX4_paintFrom 49 = .ok (.bipush 92, 2) := by decide +kernel
theorem dX4_paintFrom_51 : decode cX4_paintFrom 51 = .ok (.if_icmp .ne 20, 3) := by decide +kernel
theorem dX4_paintFrom_54 : decode cX4_paintFrom 54 = .ok (.iload_n 2, 1) := by decide +kernel
theorem dX4_paintFrom_55 : decode cX4_paintFrom 55 = .ok (.iconst 1, 1) := by decide +kernel
theorem dX4_paintFrom_56 : decode cX4_paintFrom 56 = .ok (.iadd, 1) := by decide +kernel
theorem dX4_paintFrom_57 : decode cX4_paintFrom 57 = .ok (.aload_n 1, 1) := by decide +kernel
theorem dX4_paintFrom_58 : decode cX4_paintFrom 58 = .ok (.getfield 29, 3) := by decide +kernel
theorem dX4_paintFrom_61 : decode cX4_paintFrom 61 = .ok (.getfield 35, 3) := by decide +kernel
theorem dX4_paintFrom_64 : decode cX4_paintFrom 64 = .ok (.if_icmp .ge 7, 3) := by decide +kernel
theorem dX4_paintFrom_67 : decode cX4_paintFrom 67 = .ok (.iconst 1, 1) := by decide +kernel
theorem dX4_paintFrom_68 : decode cX4_paintFrom 68 = .ok (.goto 4, 3) := by decide +kernel
theorem dX4_paintFrom_71 : decode cX4_paintFrom 71 = .ok (.iconst 0, 1) := by decide +kernel
theorem dX4_paintFrom_72 : decode cX4_paintFrom 72 = .ok (.istore 6, 2) := by decide +kernel
theorem dX4_paintFrom_74 : decode cX4_paintFrom 74 = .ok (.iload 6, 2) := by decide +kernel
theorem dX4_paintFrom_76 : decode cX4_paintFrom 76 = .ok (.ifCond .eq 17, 3) := by decide +kernel
theorem dX4_paintFrom_79 : decode cX4_paintFrom 79 = .ok (.aload_n 1, 1) := by decide +kernel
theorem dX4_paintFrom_80 : decode cX4_paintFrom 80 = .ok (.iload_n 2, 1) := by decide +kernel
theorem dX4_paintFrom_81 : decode cX4_paintFrom 81 = .ok (.iload_n 2, 1) := by decide +kernel
theorem dX4_paintFrom_82 : decode cX4_paintFrom 82 = .ok (.iconst 2, 1) := by decide +kernel
theorem dX4_paintFrom_83 : decode cX4_paintFrom 83 = .ok (.iadd, 1) := by decide +kernel
theorem dX4_paintFrom_84 : decode cX4_paintFrom 84 = .ok (.bipush 7, 2) := by decide +kernel
theorem dX4_paintFrom_86 : decode cX4_paintFrom 86 = .ok (.iconst 1, 1) := by decide +kernel
theorem dX4_paintFrom_87 : decode cX4_paintFrom 87 = .ok (.invokevirtual 57, 3) := by decide +kernel
theorem dX4_paintFrom_90 : decode cX4_paintFrom 90 = .ok (.goto 18, 3) := by decide +kernel
theorem dX4_paintFrom_93 : decode cX4_paintFrom 93 = .ok (.aload_n 1, 1) := by decide +kernel
theorem dX4_paintFrom_94 : decode cX4_paintFrom 94 = .ok (.iload_n 2, 1) := by decide +kernel
theorem dX4_paintFrom_95 : decode cX4_paintFrom 95 = .ok (.iload_n 2, 1) := by decide +kernel
theorem dX4_paintFrom_96 : decode cX4_paintFrom 96 = .ok (.iconst 1, 1) := by decide +kernel
theorem dX4_paintFrom_97 : decode cX4_paintFrom 97 = .ok (.iadd, 1) := by decide +kernel
theorem dX4_paintFrom_98 : decode cX4_paintFrom 98 = .ok (.aload_n 0, 1) := by decide +kernel
theorem dX4_paintFrom_99 : decode cX4_paintFrom 99 = .ok (.iload 4, 2) := by decide +kernel
theorem dX4_paintFrom_101 : decode cX4_paintFrom 101 = .ok (.invokevirtual 68, 3) := by decide +kernel
theorem dX4_paintFrom_104 : decode cX4_paintFrom 104 = .ok (.iconst 1, 1) := by decide +kernel
theorem dX4_paintFrom_105 : decode cX4_paintFrom 105 = .ok (.invokevirtual 57, 3) := by decide +kernel
theorem dX4_paintFrom_108 : decode cX4_paintFrom 108 = .ok (.ireturn, 1) := by decide +kernel
theorem dX4_paintFrom_109 : decode cX4_paintFrom 109 = .ok (.iload 4, 2) := by decide +kernel
theorem dX4_paintFrom_111 : decode cX4_paintFrom 111 = .ok (.invokestatic 71, 3) := by decide +kernel
theorem dX4_paintFrom_114 : decode cX4_paintFrom 114 = .ok (.ifCond .eq 11, 3) := by decide +kernel
theorem dX4_paintFrom_117 : decode cX4_paintFrom 117 = .ok (.aload_n 0, 1) := by decide +kernel
theorem dX4_paintFrom_118 : decode cX4_paintFrom 118 = .ok (.aload_n 1, 1) := by decide +kernel
theorem dX4_paintFrom_119 : decode cX4_paintFrom 119 = .ok (.iload_n 2, 1) := by decide +kernel
theorem dX4_paintFrom_120 : decode cX4_paintFrom 120 = .ok (.aload_n 3, 1) := by decide +kernel
theorem dX4_paintFrom_121 : decode cX4_paintFrom 121 = .ok (.invokevirtual 75, 3) := by decide +kernel
theorem dX4_paintFrom_124 : decode cX4_paintFrom 124 = .ok (.ireturn, 1) := by decide +kernel
theorem dX4_paintFrom_125 : decode cX4_paintFrom 125 = .ok (.iload 4, 2) := by decide +kernel
theorem dX4_paintFrom_127 : decode cX4_paintFrom 127 = .ok (.invokestatic 78, 3) := by decide +kernel
theorem dX4_paintFrom_130 : decode cX4_paintFrom 130 = .ok (.ifCond .eq 20, 3) := by decide +kernel
theorem dX4_paintFrom_133 : decode cX4_paintFrom 133 = .ok (.aload_n 1, 1) := by decide +kernel
theorem dX4_paintFrom_134 : decode cX4_paintFrom 134 = .ok (.iload_n 2, 1) := by decide +kernel
theorem dX4_paintFrom_135 : decode cX4_paintFrom 135 = .ok (.aload_n 0, 1) := by decide +kernel
theorem dX4_paintFrom_136 : decode cX4_paintFrom 136 = .ok (.aload_n 1, 1) := by decide +kernel
theorem dX4_paintFrom_137 : decode cX4_paintFrom 137 = .ok (.getfield 29, 3) := by decide +kernel
theorem dX4_paintFrom_140 : decode cX4_paintFrom 140 = .ok (.iload_n 2, 1) := by decide +kernel
theorem dX4_paintFrom_141 : decode cX4_paintFrom 141 = .ok (.invokevirtual 81, 3) := by decide +kernel
theorem dX4_paintFrom_144 : decode cX4_paintFrom 144 = .ok (.iconst 3, 1) := by decide +kernel
theorem dX4_paintFrom_145 : decode cX4_paintFrom 145 = .ok (.iconst 0, 1) := by decide +kernel
theorem dX4_paintFrom_146 : decode cX4_paintFrom 146 = .ok (.invokevirtual 57, 3) := by decide +kernel
theorem dX4_paintFrom_149 : decode cX4_paintFrom 149 = .ok (.ireturn, 1) := by decide +kernel
theorem dX4_paintFrom_150 : decode cX4_paintFrom 150 = .ok (.iload 4, 2) := by decide +kernel
theorem dX4_paintFrom_152 : decode cX4_paintFrom 152 = .ok (.bipush 35, 2) := by decide +kernel
theorem dX4_paintFrom_154 : decode cX4_paintFrom 154 = .ok (.if_icmp .ne 18, 3) := by decide +kernel
theorem dX4_paintFrom_157 : decode cX4_paintFrom 157 = .ok (.aload_n 1, 1) := by decide +kernel
theorem dX4_paintFrom_158 : decode cX4_paintFrom 158 = .ok (.iload_n 2, 1) := by decide +kernel
theorem dX4_paintFrom_159 : decode cX4_paintFrom 159 = .ok (.aload_n 1, 1) := by decide +kernel
theorem dX4_paintFrom_160 : decode cX4_paintFrom 160 = .ok (.getfield 29, 3) := by decide +kernel
theorem dX4_paintFrom_163 : decode cX4_paintFrom 163 = .ok (.getfield 35, 3) := by decide +kernel
theorem dX4_paintFrom_166 : decode cX4_paintFrom 166 = .ok (.iconst 5, 1) := by decide +kernel
theorem dX4_paintFrom_167 : decode cX4_paintFrom 167 = .ok (.iconst 0, 1) := by decide +kernel
theorem dX4_paintFrom_168 : decode cX4_paintFrom 168 = .ok (.invokevirtual 57, 3) := by decide +kernel
theorem dX4_paintFrom_171 : decode cX4_paintFrom 171 = .ok (.ireturn, 1) := by decide +kernel
theorem dX4_paintFrom_172 : decode cX4_paintFrom 172 = .ok (.aload_n 0, 1) := by decide +kernel
theorem dX4_paintFrom_173 : decode cX4_paintFrom 173 = .ok (.aload_n 1, 1) := by decide +kernel
theorem dX4_paintFrom_174 : decode cX4_paintFrom 174 = .ok (.getfield 29, 3) := by decide +kernel
theorem dX4_paintFrom_177 : decode cX4_paintFrom 177 = .ok (.iload_n 2, 1) := by decide +kernel
theorem dX4_paintFrom_178 : decode cX4_paintFrom 178 = .ok (.invokevirtual 85, 3) := by decide +kernel
theorem dX4_paintFrom_181 : decode cX4_paintFrom 181 = .ok (.ifCond .eq 29, 3) := by decide +kernel
theorem dX4_paintFrom_184 : decode cX4_paintFrom 184 = .ok (.aload_n 0, 1) := by decide +kernel
theorem dX4_paintFrom_185 : decode cX4_paintFrom 185 = .ok (.aload_n 1, 1) := by decide +kernel
theorem dX4_paintFrom_186 : decode cX4_paintFrom 186 = .ok (.getfield 29, 3) := by decide +kernel
theorem dX4_paintFrom_189 : decode cX4_paintFrom 189 = .ok (.iload_n 2, 1) := by decide +kernel
theorem dX4_paintFrom_190 : decode cX4_paintFrom 190 = .ok (.iconst 1, 1) := by decide +kernel
theorem dX4_paintFrom_191 : decode cX4_paintFrom 191 = .ok (.iadd, 1) := by decide +kernel
theorem dX4_paintFrom_192 : decode cX4_paintFrom 192 = .ok (.invokevirtual 53, 3) := by decide +kernel
theorem dX4_paintFrom_195 : decode cX4_paintFrom 195 = .ok (.putfield 18, 3) := by decide +kernel
theorem dX4_paintFrom_198 : decode cX4_paintFrom 198 = .ok (.aload_n 1, 1) := by decide +kernel
theorem dX4_paintFrom_199 : decode cX4_paintFrom 199 = .ok (.iload_n 2, 1) := by decide +kernel
theorem dX4_paintFrom_200 : decode cX4_paintFrom 200 = .ok (.iload_n 2, 1) := by decide +kernel
theorem dX4_paintFrom_201 : decode cX4_paintFrom 201 = .ok (.iconst 2, 1) := by decide +kernel
theorem dX4_paintFrom_202 : decode cX4_paintFrom 202 = .ok (.iadd, 1) := by decide +kernel
theorem dX4_paintFrom_203 : decode cX4_paintFrom 203 = .ok (.bipush 7, 2) := by decide +kernel
theorem dX4_paintFrom_205 : decode cX4_paintFrom 205 = .ok (.iconst 0, 1) := by decide +kernel
theorem dX4_paintFrom_206 : decode cX4_paintFrom 206 = .ok (.invokevirtual 57, 3) := by decide +kernel
theorem dX4_paintFrom_209 : decode cX4_paintFrom 209 = .ok (.ireturn, 1) := by decide +kernel
theorem dX4_paintFrom_210 : decode cX4_paintFrom 210 = .ok (.aload_n 1, 1) := by decide +kernel
theorem dX4_paintFrom_211 : decode cX4_paintFrom 211 = .ok (.iload_n 2, 1) := by decide +kernel
theorem dX4_paintFrom_212 : decode cX4_paintFrom 212 = .ok (.iload_n 2, 1) := by decide +kernel
theorem dX4_paintFrom_213 : decode cX4_paintFrom 213 = .ok (.iconst 1, 1) := by decide +kernel
theorem dX4_paintFrom_214 : decode cX4_paintFrom 214 = .ok (.iadd, 1) := by decide +kernel
theorem dX4_paintFrom_215 : decode cX4_paintFrom 215 = .ok (.aload_n 0, 1) := by decide +kernel
theorem dX4_paintFrom_216 : decode cX4_paintFrom 216 = .ok (.iload 4, 2) := by decide +kernel
theorem dX4_paintFrom_218 : decode cX4_paintFrom 218 = .ok (.invokevirtual 89, 3) := by decide +kernel
theorem dX4_paintFrom_221 : decode cX4_paintFrom 221 = .ok (.iconst 0, 1) := by decide +kernel
theorem dX4_paintFrom_222 : decode cX4_paintFrom 222 = .ok (.invokevirtual 57, 3) := by decide +kernel
theorem dX4_paintFrom_225 : decode cX4_paintFrom 225 = .ok (.ireturn, 1) := by decide +kernel
theorem dX4_takeInRemark_0 : decode cX4_takeInRemark 0 = .ok (.iload_n 1, 1) := by decide +kernel
theorem dX4_takeInRemark_1 : decode cX4_takeInRemark 1 = .ok (.bipush 91, 2) := by decide +kernel
theorem dX4_takeInRemark_3 : decode cX4_takeInRemark 3 = .ok (.if_icmp .ne 22, 3) := by decide +kernel
theorem dX4_takeInRemark_6 : decode cX4_takeInRemark 6 = .ok (.aload_n 0, 1) := by decide +kernel
theorem dX4_takeInRemark_7 : decode cX4_takeInRemark 7 = .ok (.getfield 12, 3) := by decide +kernel
theorem dX4_takeInRemark_10 : decode cX4_takeInRemark 10 = .ok (.bipush 91, 2) := by decide +kernel
theorem dX4_takeInRemark_12 : decode cX4_takeInRemark 12 = .ok (.invokevirtual 92, 3) := by decide +kernel
theorem dX4_takeInRemark_15 : decode cX4_takeInRemark 15 = .ok (.ifCond .eq 7, 3) := by decide +kernel
theorem dX4_takeInRemark_18 : decode cX4_takeInRemark 18 = .ok (.iconst 5, 1) := by decide +kernel
theorem dX4_takeInRemark_19 : decode cX4_takeInRemark 19 = .ok (.goto 5, 3) := by decide +kernel
theorem dX4_takeInRemark_22 : decode cX4_takeInRemark 22 = .ok (.bipush 6, 2) := by decide +kernel
theorem dX4_takeInRemark_24 : decode cX4_takeInRemark 24 = .ok (.ireturn, 1) := by decide +kernel
theorem dX4_takeInRemark_25 : decode cX4_takeInRemark 25 = .ok (.iload_n 1, 1) := by decide +kernel
theorem dX4_takeInRemark_26 : decode cX4_takeInRemark 26 = .ok (.bipush 93, 2) := by decide +kernel
theorem dX4_takeInRemark_28 : decode cX4_takeInRemark 28 = .ok (.if_icmp .ne 10, 3) := by decide +kernel
theorem dX4_takeInRemark_31 : decode cX4_takeInRemark 31 = .ok (.aload_n 0, 1) := by decide +kernel
theorem dX4_takeInRemark_32 : decode cX4_takeInRemark 32 = .ok (.getfield 12, 3) := by decide +kernel
theorem dX4_takeInRemark_35 : decode cX4_takeInRemark 35 = .ok (.invokevirtual 95, 3) := by decide +kernel
theorem dX4_takeInRemark_38 : decode cX4_takeInRemark 38 = .ok (.iconst 5, 1) := by decide +kernel
theorem dX4_takeInRemark_39 : decode cX4_takeInRemark 39 = .ok (.ireturn, 1) := by decide +kernel
theorem dX4_takeInString_0 : decode cX4_takeInString 0 = .ok (.iload_n 1, 1) := by decide +kernel
theorem dX4_takeInString_1 : decode cX4_takeInString 1 = .ok (.bipush 123, 2) := by decide +kernel
theorem dX4_takeInString_3 : decode cX4_takeInString 3 = .ok (.if_icmp .ne 23, 3) := by decide +kernel
theorem dX4_takeInString_6 : decode cX4_takeInString 6 = .ok (.aload_n 0, 1) := by decide +kernel
theorem dX4_takeInString_7 : decode cX4_takeInString 7 = .ok (.getfield 12, 3) := by decide +kernel
theorem dX4_takeInString_10 : decode cX4_takeInString 10 = .ok (.bipush 123, 2) := by decide +kernel
theorem dX4_takeInString_12 : decode cX4_takeInString 12 = .ok (.invokevirtual 92, 3) := by decide +kernel
theorem dX4_takeInString_15 : decode cX4_takeInString 15 = .ok (.ifCond .eq 8, 3) := by decide +kernel
theorem dX4_takeInString_18 : decode cX4_takeInString 18 = .ok (.bipush 7, 2) := by decide +kernel
theorem dX4_takeInString_20 : decode cX4_takeInString 20 = .ok (.goto 5, 3) := by decide +kernel
theorem dX4_takeInString_23 : decode cX4_takeInString 23 = .ok (.bipush 6, 2) := by decide +kernel
theorem dX4_takeInString_25 : decode cX4_takeInString 25 = .ok (.ireturn, 1) := by decide +kernel
theorem dX4_takeInString_26 : decode cX4_takeInString 26 = .ok (.iload_n 1, 1) := by decide +kernel
theorem dX4_takeInString_27 : decode cX4_takeInString 27 = .ok (.aload_n 0, 1) := by decide +kernel
theorem dX4_takeInString_28 : decode cX4_takeInString 28 = .ok (.getfield 12, 3) := by decide +kernel
theorem dX4_takeInString_31 : decode cX4_takeInString 31 = .ok (.invokevirtual 98, 3) := by decide +kernel
theorem dX4_takeInString_34 : decode cX4_takeInString 34 = .ok (.if_icmp .ne 10, 3) := by decide +kernel
theorem dX4_takeInString_37 : decode cX4_takeInString 37 = .ok (.aload_n 0, 1) := by decide +kernel
theorem dX4_takeInString_38 : decode cX4_takeInString 38 = .ok (.getfield 12, 3) := by decide +kernel
theorem dX4_takeInString_41 : decode cX4_takeInString 41 = .ok (.invokevirtual 95, 3) := by decide +kernel
theorem dX4_takeInString_44 : decode cX4_takeInString 44 = .ok (.iconst 4, 1) := by decide +kernel
theorem dX4_takeInString_45 : decode cX4_takeInString 45 = .ok (.ireturn, 1) := by decide +kernel
theorem dX4_takeInCode_0 : decode cX4_takeInCode 0 = .ok (.iload_n 1, 1) := by decide +kernel
theorem dX4_takeInCode_1 : decode cX4_takeInCode 1 = .ok (.lookupswitch 103 #[(34, 43), (39, 43), (91, 61), (125, 80)], 43) := by decide +kernel
theorem dX4_takeInCode_44 : decode cX4_takeInCode 44 = .ok (.aload_n 0, 1) := by decide +kernel
theorem dX4_takeInCode_45 : decode cX4_takeInCode 45 = .ok (.getfield 12, 3) := by decide +kernel
theorem dX4_takeInCode_48 : decode cX4_takeInCode 48 = .ok (.iload_n 1, 1) := by decide +kernel
theorem dX4_takeInCode_49 : decode cX4_takeInCode 49 = .ok (.invokevirtual 92, 3) := by decide +kernel
theorem dX4_takeInCode_52 : decode cX4_takeInCode 52 = .ok (.ifCond .eq 7, 3) := by decide +kernel
theorem dX4_takeInCode_55 : decode cX4_takeInCode 55 = .ok (.iconst 4, 1) := by decide +kernel
theorem dX4_takeInCode_56 : decode cX4_takeInCode 56 = .ok (.goto 5, 3) := by decide +kernel
theorem dX4_takeInCode_59 : decode cX4_takeInCode 59 = .ok (.bipush 6, 2) := by decide +kernel
theorem dX4_takeInCode_61 : decode cX4_takeInCode 61 = .ok (.ireturn, 1) := by decide +kernel
theorem dX4_takeInCode_62 : decode cX4_takeInCode 62 = .ok (.aload_n 0, 1) := by decide +kernel
theorem dX4_takeInCode_63 : decode cX4_takeInCode 63 = .ok (.getfield 12, 3) := by decide +kernel
theorem dX4_takeInCode_66 : decode cX4_takeInCode 66 = .ok (.bipush 91, 2) := by decide +kernel
theorem dX4_takeInCode_68 : decode cX4_takeInCode 68 = .ok (.invokevirtual 92, 3) := by decide +kernel
theorem dX4_takeInCode_71 : decode cX4_takeInCode 71 = .ok (.ifCond .eq 7, 3) := by decide +kernel
theorem dX4_takeInCode_74 : decode cX4_takeInCode 74 = .ok (.iconst 5, 1) := by decide +kernel
theorem dX4_takeInCode_75 : decode cX4_takeInCode 75 = .ok (.goto 5, 3) := by decide +kernel
theorem dX4_takeInCode_78 : decode cX4_takeInCode 78 = .ok (.bipush 6, 2) := by decide +kernel
theorem dX4_takeInCode_80 : decode cX4_takeInCode 80 = .ok (.ireturn, 1) := by decide +kernel
theorem dX4_takeInCode_81 : decode cX4_takeInCode 81 = .ok (.aload_n 0, 1) := by decide +kernel
theorem dX4_takeInCode_82 : decode cX4_takeInCode 82 = .ok (.getfield 12, 3) := by decide +kernel
theorem dX4_takeInCode_85 : decode cX4_takeInCode 85 = .ok (.invokevirtual 101, 3) := by decide +kernel
theorem dX4_takeInCode_88 : decode cX4_takeInCode 88 = .ok (.ifCond .ne 6, 3) := by decide +kernel
theorem dX4_takeInCode_91 : decode cX4_takeInCode 91 = .ok (.bipush 6, 2) := by decide +kernel
theorem dX4_takeInCode_93 : decode cX4_takeInCode 93 = .ok (.ireturn, 1) := by decide +kernel
theorem dX4_takeInCode_94 : decode cX4_takeInCode 94 = .ok (.aload_n 0, 1) := by decide +kernel
theorem dX4_takeInCode_95 : decode cX4_takeInCode 95 = .ok (.getfield 12, 3) := by decide +kernel
theorem dX4_takeInCode_98 : decode cX4_takeInCode 98 = .ok (.invokevirtual 95, 3) := by decide +kernel
theorem dX4_takeInCode_101 : decode cX4_takeInCode 101 = .ok (.bipush 7, 2) := by decide +kernel
theorem dX4_takeInCode_103 : decode cX4_takeInCode 103 = .ok (.ireturn, 1) := by decide +kernel
theorem dX4_takeInCode_104 : decode cX4_takeInCode 104 = .ok (.iconst 0, 1) := by decide +kernel
theorem dX4_takeInCode_105 : decode cX4_takeInCode 105 = .ok (.ireturn, 1) := by decide +kernel
theorem dX4_paintName_0 : decode cX4_paintName 0 = .ok (.iload_n 2, 1) := by decide +kernel
theorem dX4_paintName_1 : decode cX4_paintName 1 = .ok (.iconst 1, 1) := by decide +kernel
theorem dX4_paintName_2 : decode cX4_paintName 2 = .ok (.iadd, 1) := by decide +kernel
theorem dX4_paintName_3 : decode cX4_paintName 3 = .ok (.istore 4, 2) := by decide +kernel
theorem dX4_paintName_5 : decode cX4_paintName 5 = .ok (.iload 4, 2) := by decide +kernel
theorem dX4_paintName_7 : decode cX4_paintName 7 = .ok (.aload_n 1, 1) := by decide +kernel
theorem dX4_paintName_8 : decode cX4_paintName 8 = .ok (.getfield 29, 3) := by decide +kernel
theorem dX4_paintName_11 : decode cX4_paintName 11 = .ok (.getfield 35, 3) := by decide +kernel
theorem dX4_paintName_14 : decode cX4_paintName 14 = .ok (.if_icmp .ge 24, 3) := by decide +kernel
theorem dX4_paintName_17 : decode cX4_paintName 17 = .ok (.aload_n 1, 1) := by decide +kernel
theorem dX4_paintName_18 : decode cX4_paintName 18 = .ok (.getfield 29, 3) := by decide +kernel
theorem dX4_paintName_21 : decode cX4_paintName 21 = .ok (.iload 4, 2) := by decide +kernel
theorem dX4_paintName_23 : decode cX4_paintName 23 = .ok (.invokevirtual 53, 3) := by decide +kernel
theorem dX4_paintName_26 : decode cX4_paintName 26 = .ok (.invokestatic 71, 3) := by decide +kernel
theorem dX4_paintName_29 : decode cX4_paintName 29 = .ok (.ifCond .eq 9, 3) := by decide +kernel
theorem dX4_paintName_32 : decode cX4_paintName 32 = .ok (.iinc 4 1, 3) := by decide +kernel
theorem dX4_paintName_35 : decode cX4_paintName 35 = .ok (.goto (-30), 3) := by decide +kernel
theorem dX4_paintName_38 : decode cX4_paintName 38 = .ok (.aload_n 3, 1) := by decide +kernel
theorem dX4_paintName_39 : decode cX4_paintName 39 = .ok (.aload_n 1, 1) := by decide +kernel
theorem dX4_paintName_40 : decode cX4_paintName 40 = .ok (.getfield 29, 3) := by decide +kernel
theorem dX4_paintName_43 : decode cX4_paintName 43 = .ok (.iload_n 2, 1) := by decide +kernel
theorem dX4_paintName_44 : decode cX4_paintName 44 = .ok (.iload 4, 2) := by decide +kernel
theorem dX4_paintName_46 : decode cX4_paintName 46 = .ok (.invokevirtual 105, 3) := by decide +kernel
theorem dX4_paintName_49 : decode cX4_paintName 49 = .ok (.istore 5, 2) := by decide +kernel
theorem dX4_paintName_51 : decode cX4_paintName 51 = .ok (.aload_n 1, 1) := by decide +kernel
theorem dX4_paintName_52 : decode cX4_paintName 52 = .ok (.iload_n 2, 1) := by decide +kernel
theorem dX4_paintName_53 : decode cX4_paintName 53 = .ok (.iload 4, 2) := by decide +kernel
theorem dX4_paintName_55 : decode cX4_paintName 55 = .ok (.iload 5, 2) := by decide +kernel
theorem dX4_paintName_57 : decode cX4_paintName 57 = .ok (.ifCond .eq 7, 3) := by decide +kernel
theorem dX4_paintName_60 : decode cX4_paintName 60 = .ok (.iconst 2, 1) := by decide +kernel
theorem dX4_paintName_61 : decode cX4_paintName 61 = .ok (.goto 4, 3) := by decide +kernel
theorem dX4_paintName_64 : decode cX4_paintName 64 = .ok (.iconst 1, 1) := by decide +kernel
theorem dX4_paintName_65 : decode cX4_paintName 65 = .ok (.iconst 0, 1) := by decide +kernel
theorem dX4_paintName_66 : decode cX4_paintName 66 = .ok (.invokevirtual 57, 3) := by decide +kernel
theorem dX4_paintName_69 : decode cX4_paintName 69 = .ok (.ireturn, 1) := by decide +kernel
theorem dX4_endOfFigures_0 : decode cX4_endOfFigures 0 = .ok (.iload_n 2, 1) := by decide +kernel
theorem dX4_endOfFigures_1 : decode cX4_endOfFigures 1 = .ok (.iconst 1, 1) := by decide +kernel
theorem dX4_endOfFigures_2 : decode cX4_endOfFigures 2 = .ok (.iadd, 1) := by decide +kernel
theorem dX4_endOfFigures_3 : decode cX4_endOfFigures 3 = .ok (.istore_n 3, 1) := by decide +kernel
theorem dX4_endOfFigures_4 : decode cX4_endOfFigures 4 = .ok (.iload_n 3, 1) := by decide +kernel
theorem dX4_endOfFigures_5 : decode cX4_endOfFigures 5 = .ok (.aload_n 1, 1) := by decide +kernel
theorem dX4_endOfFigures_6 : decode cX4_endOfFigures 6 = .ok (.getfield 35, 3) := by decide +kernel
theorem dX4_endOfFigures_9 : decode cX4_endOfFigures 9 = .ok (.if_icmp .ge 20, 3) := by decide +kernel
theorem dX4_endOfFigures_12 : decode cX4_endOfFigures 12 = .ok (.aload_n 1, 1) := by decide +kernel
theorem dX4_endOfFigures_13 : decode cX4_endOfFigures 13 = .ok (.iload_n 3, 1) := by decide +kernel
theorem dX4_endOfFigures_14 : decode cX4_endOfFigures 14 = .ok (.invokevirtual 53, 3) := by decide +kernel
theorem dX4_endOfFigures_17 : decode cX4_endOfFigures 17 = .ok (.invokestatic 78, 3) := by decide +kernel
theorem dX4_endOfFigures_20 : decode cX4_endOfFigures 20 = .ok (.ifCond .eq 9, 3) := by decide +kernel
theorem dX4_endOfFigures_23 : decode cX4_endOfFigures 23 = .ok (.iinc 3 1, 3) := by decide +kernel
theorem dX4_endOfFigures_26 : decode cX4_endOfFigures 26 = .ok (.goto (-22), 3) := by decide +kernel
theorem dX4_endOfFigures_29 : decode cX4_endOfFigures 29 = .ok (.iload_n 3, 1) := by decide +kernel
theorem dX4_endOfFigures_30 : decode cX4_endOfFigures 30 = .ok (.ireturn, 1) := by decide +kernel
theorem dX4_beginsMark_0 : decode cX4_beginsMark 0 = .ok (.aload_n 1, 1) := by decide +kernel
theorem dX4_beginsMark_1 : decode cX4_beginsMark 1 = .ok (.iload_n 2, 1) := by decide +kernel
theorem dX4_beginsMark_2 : decode cX4_beginsMark 2 = .ok (.invokevirtual 53, 3) := by decide +kernel
theorem dX4_beginsMark_5 : decode cX4_beginsMark 5 = .ok (.bipush 60, 2) := by decide +kernel
theorem dX4_beginsMark_7 : decode cX4_beginsMark 7 = .ok (.if_icmp .ne 39, 3) := by decide +kernel
theorem dX4_beginsMark_10 : decode cX4_beginsMark 10 = .ok (.aload_n 1, 1) := by decide +kernel
theorem dX4_beginsMark_11 : decode cX4_beginsMark 11 = .ok (.iload_n 2, 1) := by decide +kernel
theorem dX4_beginsMark_12 : decode cX4_beginsMark 12 = .ok (.iconst 1, 1) := by decide +kernel
theorem dX4_beginsMark_13 : decode cX4_beginsMark 13 = .ok (.iadd, 1) := by decide +kernel
theorem dX4_beginsMark_14 : decode cX4_beginsMark 14 = .ok (.invokevirtual 53, 3) := by decide +kernel
theorem dX4_beginsMark_17 : decode cX4_beginsMark 17 = .ok (.invokestatic 111, 3) := by decide +kernel
theorem dX4_beginsMark_20 : decode cX4_beginsMark 20 = .ok (.ifCond .eq 26, 3) := by decide +kernel
theorem dX4_beginsMark_23 : decode cX4_beginsMark 23 = .ok (.aload_n 0, 1) := by decide +kernel
theorem dX4_beginsMark_24 : decode cX4_beginsMark 24 = .ok (.getfield 12, 3) := by decide +kernel
theorem dX4_beginsMark_27 : decode cX4_beginsMark 27 = .ok (.getfield 114, 3) := by decide +kernel
theorem dX4_beginsMark_30 : decode cX4_beginsMark 30 = .ok (.iconst 1, 1) := by decide +kernel
theorem dX4_beginsMark_31 : decode cX4_beginsMark 31 = .ok (.if_icmp .ne 15, 3) := by decide +kernel
theorem dX4_beginsMark_34 : decode cX4_beginsMark 34 = .ok (.aload_n 0, 1) := by decide +kernel
theorem dX4_beginsMark_35 : decode cX4_beginsMark 35 = .ok (.getfield 18, 3) := by decide +kernel
theorem dX4_beginsMark_38 : decode cX4_beginsMark 38 = .ok (.iconst (-1), 1) := by decide +kernel
theorem dX4_beginsMark_39 : decode cX4_beginsMark 39 = .ok (.if_icmp .ne 7, 3) := by decide +kernel
theorem dX4_beginsMark_42 : decode cX4_beginsMark 42 = .ok (.iconst 1, 1) := by decide +kernel
theorem dX4_beginsMark_43 : decode cX4_beginsMark 43 = .ok (.goto 4, 3) := by decide +kernel
theorem dX4_beginsMark_46 : decode cX4_beginsMark 46 = .ok (.iconst 0, 1) := by decide +kernel
theorem dX4_beginsMark_47 : decode cX4_beginsMark 47 = .ok (.ireturn, 1) := by decide +kernel
theorem dX5_init_0 : decode cX5_init 0 = .ok (.aload_n 0, 1) := by decide +kernel
theorem dX5_init_1 : decode cX5_init 1 = .ok (.invokespecial 3, 3) := by decide +kernel
theorem dX5_init_4 : decode cX5_init 4 = .ok (.aload_n 0, 1) := by decide +kernel
theorem dX5_init_5 : decode cX5_init 5 = .ok (.iconst 0, 1) := by decide +kernel
theorem dX5_init_6 : decode cX5_init 6 = .ok (.iload_n 1, 1) := by decide +kernel
theorem dX5_init_7 : decode cX5_init 7 = .ok (.invokestatic 9, 3) := by decide +kernel
theorem dX5_init_10 : decode cX5_init 10 = .ok (.newarray .int, 2) := by decide +kernel
theorem dX5_init_12 : decode cX5_init 12 = .ok (.putfield 15, 3) := by decide +kernel
theorem dX5_init_15 : decode cX5_init 15 = .ok (.aload_n 0, 1) := by decide +kernel
theorem dX5_init_16 : decode cX5_init 16 = .ok (.iconst 0, 1) := by decide +kernel
theorem dX5_init_17 : decode cX5_init 17 = .ok (.putfield 21, 3) := by decide +kernel
theorem dX5_init_20 : decode cX5_init 20 = .ok (.return_, 1) := by decide +kernel
theorem dX5_signAt_0 : decode cX5_signAt 0 = .ok (.iload_n 1, 1) := by decide +kernel
theorem dX5_signAt_1 : decode cX5_signAt 1 = .ok (.ifCond .lt 20, 3) := by decide +kernel
theorem dX5_signAt_4 : decode cX5_signAt 4 = .ok (.iload_n 1, 1) := by decide +kernel
theorem dX5_signAt_5 : decode cX5_signAt 5 = .ok (.aload_n 0, 1) := by decide +kernel
theorem dX5_signAt_6 : decode cX5_signAt 6 = .ok (.getfield 21, 3) := by decide +kernel
theorem dX5_signAt_9 : decode cX5_signAt 9 = .ok (.if_icmp .ge 12, 3) := by decide +kernel
theorem dX5_signAt_12 : decode cX5_signAt 12 = .ok (.aload_n 0, 1) := by decide +kernel
theorem dX5_signAt_13 : decode cX5_signAt 13 = .ok (.getfield 15, 3) := by decide +kernel
theorem dX5_signAt_16 : decode cX5_signAt 16 = .ok (.iload_n 1, 1) := by decide +kernel
theorem dX5_signAt_17 : decode cX5_signAt 17 = .ok (.iaload, 1) := by decide +kernel
theorem dX5_signAt_18 : decode cX5_signAt 18 = .ok (.goto 4, 3) := by decide +kernel
theorem dX5_signAt_21 : decode cX5_signAt 21 = .ok (.iconst (-1), 1) := by decide +kernel
theorem dX5_signAt_22 : decode cX5_signAt 22 = .ok (.ireturn, 1) := by decide +kernel
theorem dX5_copyFrom_0 : decode cX5_copyFrom 0 = .ok (.aload_n 0, 1) := by decide +kernel
theorem dX5_copyFrom_1 : decode cX5_copyFrom 1 = .ok (.aload_n 1, 1) := by decide +kernel
theorem dX5_copyFrom_2 : decode cX5_copyFrom 2 = .ok (.getfield 21, 3) := by decide +kernel
theorem dX5_copyFrom_5 : decode cX5_copyFrom 5 = .ok (.aload_n 0, 1) := by decide +kernel
theorem dX5_copyFrom_6 : decode cX5_copyFrom 6 = .ok (.getfield 15, 3) := by decide +kernel
theorem dX5_copyFrom_9 : decode cX5_copyFrom 9 = .ok (.arraylength, 1) := by decide +kernel
theorem dX5_copyFrom_10 : decode cX5_copyFrom 10 = .ok (.invokestatic 25, 3) := by decide +kernel
theorem dX5_copyFrom_13 : decode cX5_copyFrom 13 = .ok (.putfield 21, 3) := by decide +kernel
theorem dX5_copyFrom_16 : decode cX5_copyFrom 16 = .ok (.aload_n 1, 1) := by decide +kernel
theorem dX5_copyFrom_17 : decode cX5_copyFrom 17 = .ok (.getfield 15, 3) := by decide +kernel
theorem dX5_copyFrom_20 : decode cX5_copyFrom 20 = .ok (.iconst 0, 1) := by decide +kernel
theorem dX5_copyFrom_21 : decode cX5_copyFrom 21 = .ok (.aload_n 0, 1) := by decide +kernel
theorem dX5_copyFrom_22 : decode cX5_copyFrom 22 = .ok (.getfield 15, 3) := by decide +kernel
theorem dX5_copyFrom_25 : decode cX5_copyFrom 25 = .ok (.iconst 0, 1) := by decide +kernel
theorem dX5_copyFrom_26 : decode cX5_copyFrom 26 = .ok (.aload_n 0, 1) := by decide +kernel
theorem dX5_copyFrom_27 : decode cX5_copyFrom 27 = .ok (.getfield 21, 3) := by decide +kernel
theorem dX5_copyFrom_30 : decode cX5_copyFrom 30 = .ok (.invokestatic 28, 3) := by decide +kernel
theorem dX5_copyFrom_33 : decode cX5_copyFrom 33 = .ok (.return_, 1) := by decide +kernel
theorem dX5_isLike_0 : decode cX5_isLike 0 = .ok (.aload_n 0, 1) := by decide +kernel
theorem dX5_isLike_1 : decode cX5_isLike 1 = .ok (.aload_n 1, 1) := by decide +kernel
theorem dX5_isLike_2 : decode cX5_isLike 2 = .ok (.iconst 0, 1) := by decide +kernel
theorem dX5_isLike_3 : decode cX5_isLike 3 = .ok (.aload_n 0, 1) := by decide +kernel
theorem dX5_isLike_4 : decode cX5_isLike 4 = .ok (.getfield 21, 3) := by decide +kernel
theorem dX5_isLike_7 : decode cX5_isLike 7 = .ok (.invokevirtual 34, 3) := by decide +kernel
theorem dX5_isLike_10 : decode cX5_isLike 10 = .ok (.ireturn, 1) := by decide +kernel
theorem dX5_holds_0 : decode cX5_holds 0 = .ok (.iload_n 2, 1) := by decide +kernel
theorem dX5_holds_1 : decode cX5_holds 1 = .ok (.ifCond .lt 21, 3) := by decide +kernel
theorem dX5_holds_4 : decode cX5_holds 4 = .ok (.iload_n 3, 1) := by decide +kernel
theorem dX5_holds_5 : decode cX5_holds 5 = .ok (.aload_n 0, 1) := by decide +kernel
theorem dX5_holds_6 : decode cX5_holds 6 = .ok (.getfield 21, 3) := by decide +kernel
theorem dX5_holds_9 : decode cX5_holds 9 = .ok (.if_icmp .gt 13, 3) := by decide +kernel
theorem dX5_holds_12 : decode cX5_holds 12 = .ok (.iload_n 3, 1) := by decide +kernel
theorem dX5_holds_13 : decode cX5_holds 13 = .ok (.iload_n 2, 1) := by decide +kernel
theorem dX5_holds_14 : decode cX5_holds 14 = .ok (.isub, 1) := by decide +kernel
theorem dX5_holds_15 : decode cX5_holds 15 = .ok (.aload_n 1, 1) := by decide +kernel
theorem dX5_holds_16 : decode cX5_holds 16 = .ok (.getfield 21, 3) := by decide +kernel
theorem dX5_holds_19 : decode cX5_holds 19 = .ok (.if_icmp .eq 5, 3) := by decide +kernel
theorem dX5_holds_22 : decode cX5_holds 22 = .ok (.iconst 0, 1) := by decide +kernel
theorem dX5_holds_23 : decode cX5_holds 23 = .ok (.ireturn, 1) := by decide +kernel
theorem dX5_holds_24 : decode cX5_holds 24 = .ok (.iconst 0, 1) := by decide +kernel
theorem dX5_holds_25 : decode cX5_holds 25 = .ok (.istore 4, 2) := by decide +kernel
theorem dX5_holds_27 : decode cX5_holds 27 = .ok (.iload 4, 2) := by decide +kernel
theorem dX5_holds_29 : decode cX5_holds 29 = .ok (.aload_n 1, 1) := by decide +kernel
theorem dX5_holds_30 : decode cX5_holds 30 = .ok (.getfield 21, 3) := by decide +kernel
theorem dX5_holds_33 : decode cX5_holds 33 = .ok (.if_icmp .ge 30, 3) := by decide +kernel
theorem dX5_holds_36 : decode cX5_holds 36 = .ok (.aload_n 0, 1) := by decide +kernel
theorem dX5_holds_37 : decode cX5_holds 37 = .ok (.getfield 15, 3) := by decide +kernel
theorem dX5_holds_40 : decode cX5_holds 40 = .ok (.iload_n 2, 1) := by decide +kernel
theorem dX5_holds_41 : decode cX5_holds 41 = .ok (.iload 4, 2) := by decide +kernel
theorem dX5_holds_43 : decode cX5_holds 43 = .ok (.iadd, 1) := by decide +kernel
theorem dX5_holds_44 : decode cX5_holds 44 = .ok (.iaload, 1) := by decide +kernel
theorem dX5_holds_45 : decode cX5_holds 45 = .ok (.aload_n 1, 1) := by decide +kernel
theorem dX5_holds_46 : decode cX5_holds 46 = .ok (.getfield 15, 3) := by decide +kernel
theorem dX5_holds_49 : decode cX5_holds 49 = .ok (.iload 4, 2) := by decide +kernel
theorem dX5_holds_51 : decode cX5_holds 51 = .ok (.iaload, 1) := by decide +kernel
theorem dX5_holds_52 : decode cX5_holds 52 = .ok (.if_icmp .eq 5, 3) := by decide +kernel
theorem dX5_holds_55 : decode cX5_holds 55 = .ok (.iconst 0, 1) := by decide +kernel
theorem dX5_holds_56 : decode cX5_holds 56 = .ok (.ireturn, 1) := by decide +kernel
theorem dX5_holds_57 : decode cX5_holds 57 = .ok (.iinc 4 1, 3) := by decide +kernel
theorem dX5_holds_60 : decode cX5_holds 60 = .ok (.goto (-33), 3) := by decide +kernel
theorem dX5_holds_63 : decode cX5_holds 63 = .ok (.iconst 1, 1) := by decide +kernel
theorem dX5_holds_64 : decode cX5_holds 64 = .ok (.ireturn, 1) := by decide +kernel
theorem dX5_put_0 : decode cX5_put 0 = .ok (.iload_n 1, 1) := by decide +kernel
theorem dX5_put_1 : decode cX5_put 1 = .ok (.ifCond .lt 23, 3) := by decide +kernel
theorem dX5_put_4 : decode cX5_put 4 = .ok (.iload_n 1, 1) := by decide +kernel
theorem dX5_put_5 : decode cX5_put 5 = .ok (.aload_n 0, 1) := by decide +kernel
theorem dX5_put_6 : decode cX5_put 6 = .ok (.getfield 21, 3) := by decide +kernel
theorem dX5_put_9 : decode cX5_put 9 = .ok (.if_icmp .gt 15, 3) := by decide +kernel
theorem dX5_put_12 : decode cX5_put 12 = .ok (.aload_n 0, 1) := by decide +kernel
theorem dX5_put_13 : decode cX5_put 13 = .ok (.getfield 21, 3) := by decide +kernel
theorem dX5_put_16 : decode cX5_put 16 = .ok (.aload_n 0, 1) := by decide +kernel
theorem dX5_put_17 : decode cX5_put 17 = .ok (.getfield 15, 3) := by decide +kernel
theorem dX5_put_20 : decode cX5_put 20 = .ok (.arraylength, 1) := by decide +kernel
theorem dX5_put_21 : decode cX5_put 21 = .ok (.if_icmp .lt 4, 3) := by decide +kernel
theorem dX5_put_24 : decode cX5_put 24 = .ok (.return_, 1) := by decide +kernel
theorem dX5_put_25 : decode cX5_put 25 = .ok (.aload_n 0, 1) := by decide +kernel
theorem dX5_put_26 : decode cX5_put 26 = .ok (.getfield 15, 3) := by decide +kernel
theorem dX5_put_29 : decode cX5_put 29 = .ok (.iload_n 1, 1) := by decide +kernel
theorem dX5_put_30 : decode cX5_put 30 = .ok (.aload_n 0, 1) := by decide +kernel
theorem dX5_put_31 : decode cX5_put 31 = .ok (.getfield 15, 3) := by decide +kernel
theorem dX5_put_34 : decode cX5_put 34 = .ok (.iload_n 1, 1) := by decide +kernel
theorem dX5_put_35 : decode cX5_put 35 = .ok (.iconst 1, 1) := by decide +kernel
theorem dX5_put_36 : decode cX5_put 36 = .ok (.iadd, 1) := by decide +kernel
theorem dX5_put_37 : decode cX5_put 37 = .ok (.aload_n 0, 1) := by decide +kernel
theorem dX5_put_38 : decode cX5_put 38 = .ok (.getfield 21, 3) := by decide +kernel
theorem dX5_put_41 : decode cX5_put 41 = .ok (.iload_n 1, 1) := by decide +kernel
theorem dX5_put_42 : decode cX5_put 42 = .ok (.isub, 1) := by decide +kernel
theorem dX5_put_43 : decode cX5_put 43 = .ok (.invokestatic 28, 3) := by decide +kernel
theorem dX5_put_46 : decode cX5_put 46 = .ok (.aload_n 0, 1) := by decide +kernel
theorem dX5_put_47 : decode cX5_put 47 = .ok (.getfield 15, 3) := by decide +kernel
theorem dX5_put_50 : decode cX5_put 50 = .ok (.iload_n 1, 1) := by decide +kernel
theorem dX5_put_51 : decode cX5_put 51 = .ok (.iload_n 2, 1) := by decide +kernel
theorem dX5_put_52 : decode cX5_put 52 = .ok (.iastore, 1) := by decide +kernel
theorem dX5_put_53 : decode cX5_put 53 = .ok (.aload_n 0, 1) := by decide +kernel
