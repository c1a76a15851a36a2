theorem dX5_put_54 : decode cX5_put 54 = .ok (.dup, 1) := by decide +kernel
theorem dX5_put_55 : decode cX5_put 55 = .ok (.getfield 21, 3) := by decide +kernel
theorem dX5_put_58 : decode cX5_put 58 = .ok (.iconst 1, 1) := by decide +kernel
theorem dX5_put_59 : decode cX5_put 59 = .ok (.iadd, 1) := by decide +kernel
theorem dX5_put_60 : decode cX5_put 60 = .ok (.putfield 21, 3) := by decide +kernel
theorem dX5_put_63 : decode cX5_put 63 = .ok (.return_, 1) := by decide +kernel
theorem dX5_erase_0 : decode cX5_erase 0 = .ok (.iload_n 1, 1) := by decide +kernel
theorem dX5_erase_1 : decode cX5_erase 1 = .ok (.ifCond .lt 11, 3) := by decide +kernel
theorem dX5_erase_4 : decode cX5_erase 4 = .ok (.iload_n 1, 1) := by decide +kernel
theorem dX5_erase_5 : decode cX5_erase 5 = .ok (.aload_n 0, 1) := by decide +kernel
theorem dX5_erase_6 : decode cX5_erase 6 = .ok (.getfield 21, 3) := by decide +kernel
theorem dX5_erase_9 : decode cX5_erase 9 = .ok (.if_icmp .lt 4, 3) := by decide +kernel
theorem dX5_erase_12 : decode cX5_erase 12 = .ok (.return_, 1) := by decide +kernel
theorem dX5_erase_13 : decode cX5_erase 13 = .ok (.aload_n 0, 1) := by decide +kernel
theorem dX5_erase_14 : decode cX5_erase 14 = .ok (.getfield 15, 3) := by decide +kernel
theorem dX5_erase_17 : decode cX5_erase 17 = .ok (.iload_n 1, 1) := by decide +kernel
theorem dX5_erase_18 : decode cX5_erase 18 = .ok (.iconst 1, 1) := by decide +kernel
theorem dX5_erase_19 : decode cX5_erase 19 = .ok (.iadd, 1) := by decide +kernel
theorem dX5_erase_20 : decode cX5_erase 20 = .ok (.aload_n 0, 1) := by decide +kernel
theorem dX5_erase_21 : decode cX5_erase 21 = .ok (.getfield 15, 3) := by decide +kernel
theorem dX5_erase_24 : decode cX5_erase 24 = .ok (.iload_n 1, 1) := by decide +kernel
theorem dX5_erase_25 : decode cX5_erase 25 = .ok (.aload_n 0, 1) := by decide +kernel
theorem dX5_erase_26 : decode cX5_erase 26 = .ok (.getfield 21, 3) := by decide +kernel
theorem dX5_erase_29 : decode cX5_erase 29 = .ok (.iload_n 1, 1) := by decide +kernel
theorem dX5_erase_30 : decode cX5_erase 30 = .ok (.isub, 1) := by decide +kernel
theorem dX5_erase_31 : decode cX5_erase 31 = .ok (.iconst 1, 1) := by decide +kernel
theorem dX5_erase_32 : decode cX5_erase 32 = .ok (.isub, 1) := by decide +kernel
theorem dX5_erase_33 : decode cX5_erase 33 = .ok (.invokestatic 28, 3) := by decide +kernel
theorem dX5_erase_36 : decode cX5_erase 36 = .ok (.aload_n 0, 1) := by decide +kernel
theorem dX5_erase_37 : decode cX5_erase 37 = .ok (.dup, 1) := by decide +kernel
theorem dX5_erase_38 : decode cX5_erase 38 = .ok (.getfield 21, 3) := by decide +kernel
theorem dX5_erase_41 : decode cX5_erase 41 = .ok (.iconst 1, 1) := by decide +kernel
theorem dX5_erase_42 : decode cX5_erase 42 = .ok (.isub, 1) := by decide +kernel
theorem dX5_erase_43 : decode cX5_erase 43 = .ok (.putfield 21, 3) := by decide +kernel
theorem dX5_erase_46 : decode cX5_erase 46 = .ok (.return_, 1) := by decide +kernel
theorem dX5_moveTail_0 : decode cX5_moveTail 0 = .ok (.iload_n 1, 1) := by decide +kernel
theorem dX5_moveTail_1 : decode cX5_moveTail 1 = .ok (.ifCond .lt 25, 3) := by decide +kernel
theorem dX5_moveTail_4 : decode cX5_moveTail 4 = .ok (.iload_n 1, 1) := by decide +kernel
theorem dX5_moveTail_5 : decode cX5_moveTail 5 = .ok (.aload_n 0, 1) := by decide +kernel
theorem dX5_moveTail_6 : decode cX5_moveTail 6 = .ok (.getfield 21, 3) := by decide +kernel
theorem dX5_moveTail_9 : decode cX5_moveTail 9 = .ok (.if_icmp .gt 17, 3) := by decide +kernel
theorem dX5_moveTail_12 : decode cX5_moveTail 12 = .ok (.aload_n 0, 1) := by decide +kernel
theorem dX5_moveTail_13 : decode cX5_moveTail 13 = .ok (.getfield 21, 3) := by decide +kernel
theorem dX5_moveTail_16 : decode cX5_moveTail 16 = .ok (.iload_n 1, 1) := by decide +kernel
theorem dX5_moveTail_17 : decode cX5_moveTail 17 = .ok (.isub, 1) := by decide +kernel
theorem dX5_moveTail_18 : decode cX5_moveTail 18 = .ok (.aload_n 2, 1) := by decide +kernel
theorem dX5_moveTail_19 : decode cX5_moveTail 19 = .ok (.getfield 15, 3) := by decide +kernel
theorem dX5_moveTail_22 : decode cX5_moveTail 22 = .ok (.arraylength, 1) := by decide +kernel
theorem dX5_moveTail_23 : decode cX5_moveTail 23 = .ok (.if_icmp .le 4, 3) := by decide +kernel
theorem dX5_moveTail_26 : decode cX5_moveTail 26 = .ok (.return_, 1) := by decide +kernel
theorem dX5_moveTail_27 : decode cX5_moveTail 27 = .ok (.aload_n 0, 1) := by decide +kernel
theorem dX5_moveTail_28 : decode cX5_moveTail 28 = .ok (.getfield 15, 3) := by decide +kernel
theorem dX5_moveTail_31 : decode cX5_moveTail 31 = .ok (.iload_n 1, 1) := by decide +kernel
theorem dX5_moveTail_32 : decode cX5_moveTail 32 = .ok (.aload_n 2, 1) := by decide +kernel
theorem dX5_moveTail_33 : decode cX5_moveTail 33 = .ok (.getfield 15, 3) := by decide +kernel
theorem dX5_moveTail_36 : decode cX5_moveTail 36 = .ok (.iconst 0, 1) := by decide +kernel
theorem dX5_moveTail_37 : decode cX5_moveTail 37 = .ok (.aload_n 0, 1) := by decide +kernel
theorem dX5_moveTail_38 : decode cX5_moveTail 38 = .ok (.getfield 21, 3) := by decide +kernel
theorem dX5_moveTail_41 : decode cX5_moveTail 41 = .ok (.iload_n 1, 1) := by decide +kernel
theorem dX5_moveTail_42 : decode cX5_moveTail 42 = .ok (.isub, 1) := by decide +kernel
theorem dX5_moveTail_43 : decode cX5_moveTail 43 = .ok (.invokestatic 28, 3) := by decide +kernel
theorem dX5_moveTail_46 : decode cX5_moveTail 46 = .ok (.aload_n 2, 1) := by decide +kernel
theorem dX5_moveTail_47 : decode cX5_moveTail 47 = .ok (.aload_n 0, 1) := by decide +kernel
theorem dX5_moveTail_48 : decode cX5_moveTail 48 = .ok (.getfield 21, 3) := by decide +kernel
theorem dX5_moveTail_51 : decode cX5_moveTail 51 = .ok (.iload_n 1, 1) := by decide +kernel
theorem dX5_moveTail_52 : decode cX5_moveTail 52 = .ok (.isub, 1) := by decide +kernel
theorem dX5_moveTail_53 : decode cX5_moveTail 53 = .ok (.putfield 21, 3) := by decide +kernel
theorem dX5_moveTail_56 : decode cX5_moveTail 56 = .ok (.aload_n 0, 1) := by decide +kernel
theorem dX5_moveTail_57 : decode cX5_moveTail 57 = .ok (.iload_n 1, 1) := by decide +kernel
theorem dX5_moveTail_58 : decode cX5_moveTail 58 = .ok (.putfield 21, 3) := by decide +kernel
theorem dX5_moveTail_61 : decode cX5_moveTail 61 = .ok (.return_, 1) := by decide +kernel
theorem dX6_init_0 : decode cX6_init 0 = .ok (.aload_n 0, 1) := by decide +kernel
theorem dX6_init_1 : decode cX6_init 1 = .ok (.invokespecial 3, 3) := by decide +kernel
theorem dX6_init_4 : decode cX6_init 4 = .ok (.aload_n 0, 1) := by decide +kernel
theorem dX6_init_5 : decode cX6_init 5 = .ok (.bipush 24, 2) := by decide +kernel
theorem dX6_init_7 : decode cX6_init 7 = .ok (.newarray .int, 2) := by decide +kernel
theorem dX6_init_9 : decode cX6_init 9 = .ok (.putfield 9, 3) := by decide +kernel
theorem dX6_init_12 : decode cX6_init 12 = .ok (.aload_n 0, 1) := by decide +kernel
theorem dX6_init_13 : decode cX6_init 13 = .ok (.bipush 24, 2) := by decide +kernel
theorem dX6_init_15 : decode cX6_init 15 = .ok (.newarray .int, 2) := by decide +kernel
theorem dX6_init_17 : decode cX6_init 17 = .ok (.putfield 15, 3) := by decide +kernel
theorem dX6_init_20 : decode cX6_init 20 = .ok (.aload_n 0, 1) := by decide +kernel
theorem dX6_init_21 : decode cX6_init 21 = .ok (.iconst 0, 1) := by decide +kernel
theorem dX6_init_22 : decode cX6_init 22 = .ok (.putfield 18, 3) := by decide +kernel
theorem dX6_init_25 : decode cX6_init 25 = .ok (.return_, 1) := by decide +kernel
theorem dX6_copyFrom_0 : decode cX6_copyFrom 0 = .ok (.aload_n 1, 1) := by decide +kernel
theorem dX6_copyFrom_1 : decode cX6_copyFrom 1 = .ok (.getfield 9, 3) := by decide +kernel
theorem dX6_copyFrom_4 : decode cX6_copyFrom 4 = .ok (.iconst 0, 1) := by decide +kernel
theorem dX6_copyFrom_5 : decode cX6_copyFrom 5 = .ok (.aload_n 0, 1) := by decide +kernel
theorem dX6_copyFrom_6 : decode cX6_copyFrom 6 = .ok (.getfield 9, 3) := by decide +kernel
theorem dX6_copyFrom_9 : decode cX6_copyFrom 9 = .ok (.iconst 0, 1) := by decide +kernel
theorem dX6_copyFrom_10 : decode cX6_copyFrom 10 = .ok (.bipush 24, 2) := by decide +kernel
theorem dX6_copyFrom_12 : decode cX6_copyFrom 12 = .ok (.invokestatic 22, 3) := by decide +kernel
theorem dX6_copyFrom_15 : decode cX6_copyFrom 15 = .ok (.aload_n 1, 1) := by decide +kernel
theorem dX6_copyFrom_16 : decode cX6_copyFrom 16 = .ok (.getfield 15, 3) := by decide +kernel
theorem dX6_copyFrom_19 : decode cX6_copyFrom 19 = .ok (.iconst 0, 1) := by decide +kernel
theorem dX6_copyFrom_20 : decode cX6_copyFrom 20 = .ok (.aload_n 0, 1) := by decide +kernel
theorem dX6_copyFrom_21 : decode cX6_copyFrom 21 = .ok (.getfield 15, 3) := by decide +kernel
theorem dX6_copyFrom_24 : decode cX6_copyFrom 24 = .ok (.iconst 0, 1) := by decide +kernel
theorem dX6_copyFrom_25 : decode cX6_copyFrom 25 = .ok (.bipush 24, 2) := by decide +kernel
theorem dX6_copyFrom_27 : decode cX6_copyFrom 27 = .ok (.invokestatic 22, 3) := by decide +kernel
theorem dX6_copyFrom_30 : decode cX6_copyFrom 30 = .ok (.aload_n 0, 1) := by decide +kernel
theorem dX6_copyFrom_31 : decode cX6_copyFrom 31 = .ok (.aload_n 1, 1) := by decide +kernel
theorem dX6_copyFrom_32 : decode cX6_copyFrom 32 = .ok (.getfield 18, 3) := by decide +kernel
theorem dX6_copyFrom_35 : decode cX6_copyFrom 35 = .ok (.putfield 18, 3) := by decide +kernel
theorem dX6_copyFrom_38 : decode cX6_copyFrom 38 = .ok (.return_, 1) := by decide +kernel
theorem dX6_add_0 : decode cX6_add 0 = .ok (.iload_n 1, 1) := by decide +kernel
theorem dX6_add_1 : decode cX6_add 1 = .ok (.iconst (-1), 1) := by decide +kernel
theorem dX6_add_2 : decode cX6_add 2 = .ok (.if_icmp .ne 7, 3) := by decide +kernel
theorem dX6_add_5 : decode cX6_add 5 = .ok (.iconst 0, 1) := by decide +kernel
theorem dX6_add_6 : decode cX6_add 6 = .ok (.goto 4, 3) := by decide +kernel
theorem dX6_add_9 : decode cX6_add 9 = .ok (.iconst 2, 1) := by decide +kernel
theorem dX6_add_10 : decode cX6_add 10 = .ok (.iload_n 2, 1) := by decide +kernel
theorem dX6_add_11 : decode cX6_add 11 = .ok (.iconst (-1), 1) := by decide +kernel
theorem dX6_add_12 : decode cX6_add 12 = .ok (.if_icmp .ne 7, 3) := by decide +kernel
theorem dX6_add_15 : decode cX6_add 15 = .ok (.iconst 0, 1) := by decide +kernel
theorem dX6_add_16 : decode cX6_add 16 = .ok (.goto 4, 3) := by decide +kernel
theorem dX6_add_19 : decode cX6_add 19 = .ok (.iconst 1, 1) := by decide +kernel
theorem dX6_add_20 : decode cX6_add 20 = .ok (.iadd, 1) := by decide +kernel
theorem dX6_add_21 : decode cX6_add 21 = .ok (.istore 4, 2) := by decide +kernel
theorem dX6_add_23 : decode cX6_add 23 = .ok (.iconst 0, 1) := by decide +kernel
theorem dX6_add_24 : decode cX6_add 24 = .ok (.istore 5, 2) := by decide +kernel
theorem dX6_add_26 : decode cX6_add 26 = .ok (.iload 5, 2) := by decide +kernel
theorem dX6_add_28 : decode cX6_add 28 = .ok (.bipush 8, 2) := by decide +kernel
theorem dX6_add_30 : decode cX6_add 30 = .ok (.if_icmp .ge 102, 3) := by decide +kernel
theorem dX6_add_33 : decode cX6_add 33 = .ok (.iconst 0, 1) := by decide +kernel
theorem dX6_add_34 : decode cX6_add 34 = .ok (.istore 6, 2) := by decide +kernel
theorem dX6_add_36 : decode cX6_add 36 = .ok (.iload 6, 2) := by decide +kernel
theorem dX6_add_38 : decode cX6_add 38 = .ok (.iconst 3, 1) := by decide +kernel
theorem dX6_add_39 : decode cX6_add 39 = .ok (.if_icmp .ge 87, 3) := by decide +kernel
theorem dX6_add_42 : decode cX6_add 42 = .ok (.iload_n 1, 1) := by decide +kernel
theorem dX6_add_43 : decode cX6_add 43 = .ok (.iconst (-1), 1) := by decide +kernel
theorem dX6_add_44 : decode cX6_add 44 = .ok (.if_icmp .eq 9, 3) := by decide +kernel
theorem dX6_add_47 : decode cX6_add 47 = .ok (.iload_n 1, 1) := by decide +kernel
theorem dX6_add_48 : decode cX6_add 48 = .ok (.iload 5, 2) := by decide +kernel
theorem dX6_add_50 : decode cX6_add 50 = .ok (.if_icmp .ne 18, 3) := by decide +kernel
theorem dX6_add_53 : decode cX6_add 53 = .ok (.iload_n 2, 1) := by decide +kernel
theorem dX6_add_54 : decode cX6_add 54 = .ok (.iconst (-1), 1) := by decide +kernel
theorem dX6_add_55 : decode cX6_add 55 = .ok (.if_icmp .eq 9, 3) := by decide +kernel
theorem dX6_add_58 : decode cX6_add 58 = .ok (.iload_n 2, 1) := by decide +kernel
theorem dX6_add_59 : decode cX6_add 59 = .ok (.iload 6, 2) := by decide +kernel
theorem dX6_add_61 : decode cX6_add 61 = .ok (.if_icmp .ne 7, 3) := by decide +kernel
theorem dX6_add_64 : decode cX6_add 64 = .ok (.iconst 1, 1) := by decide +kernel
theorem dX6_add_65 : decode cX6_add 65 = .ok (.goto 4, 3) := by decide +kernel
theorem dX6_add_68 : decode cX6_add 68 = .ok (.iconst 0, 1) := by decide +kernel
theorem dX6_add_69 : decode cX6_add 69 = .ok (.istore 7, 2) := by decide +kernel
theorem dX6_add_71 : decode cX6_add 71 = .ok (.iload 7, 2) := by decide +kernel
theorem dX6_add_73 : decode cX6_add 73 = .ok (.ifCond .eq 47, 3) := by decide +kernel
theorem dX6_add_76 : decode cX6_add 76 = .ok (.iload 4, 2) := by decide +kernel
theorem dX6_add_78 : decode cX6_add 78 = .ok (.aload_n 0, 1) := by decide +kernel
theorem dX6_add_79 : decode cX6_add 79 = .ok (.getfield 15, 3) := by decide +kernel
theorem dX6_add_82 : decode cX6_add 82 = .ok (.iload 5, 2) := by decide +kernel
theorem dX6_add_84 : decode cX6_add 84 = .ok (.iconst 3, 1) := by decide +kernel
theorem dX6_add_85 : decode cX6_add 85 = .ok (.imul, 1) := by decide +kernel
theorem dX6_add_86 : decode cX6_add 86 = .ok (.iload 6, 2) := by decide +kernel
theorem dX6_add_88 : decode cX6_add 88 = .ok (.iadd, 1) := by decide +kernel
theorem dX6_add_89 : decode cX6_add 89 = .ok (.iaload, 1) := by decide +kernel
theorem dX6_add_90 : decode cX6_add 90 = .ok (.if_icmp .lt 30, 3) := by decide +kernel
theorem dX6_add_93 : decode cX6_add 93 = .ok (.aload_n 0, 1) := by decide +kernel
theorem dX6_add_94 : decode cX6_add 94 = .ok (.getfield 9, 3) := by decide +kernel
theorem dX6_add_97 : decode cX6_add 97 = .ok (.iload 5, 2) := by decide +kernel
theorem dX6_add_99 : decode cX6_add 99 = .ok (.iconst 3, 1) := by decide +kernel
theorem dX6_add_100 : decode cX6_add 100 = .ok (.imul, 1) := by decide +kernel
theorem dX6_add_101 : decode cX6_add 101 = .ok (.iload 6, 2) := by decide +kernel
theorem dX6_add_103 : decode cX6_add 103 = .ok (.iadd, 1) := by decide +kernel
theorem dX6_add_104 : decode cX6_add 104 = .ok (.iload_n 3, 1) := by decide +kernel
theorem dX6_add_105 : decode cX6_add 105 = .ok (.iastore, 1) := by decide +kernel
theorem dX6_add_106 : decode cX6_add 106 = .ok (.aload_n 0, 1) := by decide +kernel
theorem dX6_add_107 : decode cX6_add 107 = .ok (.getfield 15, 3) := by decide +kernel
theorem dX6_add_110 : decode cX6_add 110 = .ok (.iload 5, 2) := by decide +kernel
theorem dX6_add_112 : decode cX6_add 112 = .ok (.iconst 3, 1) := by decide +kernel
theorem dX6_add_113 : decode cX6_add 113 = .ok (.imul, 1) := by decide +kernel
theorem dX6_add_114 : decode cX6_add 114 = .ok (.iload 6, 2) := by decide +kernel
theorem dX6_add_116 : decode cX6_add 116 = .ok (.iadd, 1) := by decide +kernel
theorem dX6_add_117 : decode cX6_add 117 = .ok (.iload 4, 2) := by decide +kernel
theorem dX6_add_119 : decode cX6_add 119 = .ok (.iastore, 1) := by decide +kernel
theorem dX6_add_120 : decode cX6_add 120 = .ok (.iinc 6 1, 3) := by decide +kernel
theorem dX6_add_123 : decode cX6_add 123 = .ok (.goto (-87), 3) := by decide +kernel
theorem dX6_add_126 : decode cX6_add 126 = .ok (.iinc 5 1, 3) := by decide +kernel
theorem dX6_add_129 : decode cX6_add 129 = .ok (.goto (-103), 3) := by decide +kernel
theorem dX6_add_132 : decode cX6_add 132 = .ok (.aload_n 0, 1) := by decide +kernel
theorem dX6_add_133 : decode cX6_add 133 = .ok (.dup, 1) := by decide +kernel
theorem dX6_add_134 : decode cX6_add 134 = .ok (.getfield 18, 3) := by decide +kernel
theorem dX6_add_137 : decode cX6_add 137 = .ok (.iconst 1, 1) := by decide +kernel
theorem dX6_add_138 : decode cX6_add 138 = .ok (.iadd, 1) := by decide +kernel
theorem dX6_add_139 : decode cX6_add 139 = .ok (.putfield 18, 3) := by decide +kernel
theorem dX6_add_142 : decode cX6_add 142 = .ok (.return_, 1) := by decide +kernel
theorem dX6_shadeOf_0 : decode cX6_shadeOf 0 = .ok (.iload_n 1, 1) := by decide +kernel
theorem dX6_shadeOf_1 : decode cX6_shadeOf 1 = .ok (.iconst 3, 1) := by decide +kernel
theorem dX6_shadeOf_2 : decode cX6_shadeOf 2 = .ok (.imul, 1) := by decide +kernel
theorem dX6_shadeOf_3 : decode cX6_shadeOf 3 = .ok (.iload_n 2, 1) := by decide +kernel
theorem dX6_shadeOf_4 : decode cX6_shadeOf 4 = .ok (.iadd, 1) := by decide +kernel
theorem dX6_shadeOf_5 : decode cX6_shadeOf 5 = .ok (.istore_n 3, 1) := by decide +kernel
theorem dX6_shadeOf_6 : decode cX6_shadeOf 6 = .ok (.iload_n 3, 1) := by decide +kernel
theorem dX6_shadeOf_7 : decode cX6_shadeOf 7 = .ok (.ifCond .lt 21, 3) := by decide +kernel
theorem dX6_shadeOf_10 : decode cX6_shadeOf 10 = .ok (.iload_n 3, 1) := by decide +kernel
theorem dX6_shadeOf_11 : decode cX6_shadeOf 11 = .ok (.aload_n 0, 1) := by decide +kernel
theorem dX6_shadeOf_12 : decode cX6_shadeOf 12 = .ok (.getfield 9, 3) := by decide +kernel
theorem dX6_shadeOf_15 : decode cX6_shadeOf 15 = .ok (.arraylength, 1) := by decide +kernel
theorem dX6_shadeOf_16 : decode cX6_shadeOf 16 = .ok (.if_icmp .ge 12, 3) := by decide +kernel
theorem dX6_shadeOf_19 : decode cX6_shadeOf 19 = .ok (.aload_n 0, 1) := by decide +kernel
theorem dX6_shadeOf_20 : decode cX6_shadeOf 20 = .ok (.getfield 9, 3) := by decide +kernel
theorem dX6_shadeOf_23 : decode cX6_shadeOf 23 = .ok (.iload_n 3, 1) := by decide +kernel
theorem dX6_shadeOf_24 : decode cX6_shadeOf 24 = .ok (.iaload, 1) := by decide +kernel
theorem dX6_shadeOf_25 : decode cX6_shadeOf 25 = .ok (.goto 4, 3) := by decide +kernel
theorem dX6_shadeOf_28 : decode cX6_shadeOf 28 = .ok (.iconst 0, 1) := by decide +kernel
theorem dX6_shadeOf_29 : decode cX6_shadeOf 29 = .ok (.ireturn, 1) := by decide +kernel
theorem dX7_init_0 : decode cX7_init 0 = .ok (.aload_n 0, 1) := by decide +kernel
theorem dX7_init_1 : decode cX7_init 1 = .ok (.invokespecial 3, 3) := by decide +kernel
theorem dX7_init_4 : decode cX7_init 4 = .ok (.aload_n 0, 1) := by decide +kernel
theorem dX7_init_5 : decode cX7_init 5 = .ok (.bipush 6, 2) := by decide +kernel
theorem dX7_init_7 : decode cX7_init 7 = .ok (.newarray .int, 2) := by decide +kernel
theorem dX7_init_9 : decode cX7_init 9 = .ok (.putfield 9, 3) := by decide +kernel
theorem dX7_init_12 : decode cX7_init 12 = .ok (.aload_n 0, 1) := by decide +kernel
theorem dX7_init_13 : decode cX7_init 13 = .ok (.invokevirtual 15, 3) := by decide +kernel
theorem dX7_init_16 : decode cX7_init 16 = .ok (.return_, 1) := by decide +kernel
theorem dX7_begin_0 : decode cX7_begin 0 = .ok (.aload_n 0, 1) := by decide +kernel
theorem dX7_begin_1 : decode cX7_begin 1 = .ok (.getfield 9, 3) := by decide +kernel
theorem dX7_begin_4 : decode cX7_begin 4 = .ok (.iconst 0, 1) := by decide +kernel
theorem dX7_begin_5 : decode cX7_begin 5 = .ok (.bipush 123, 2) := by decide +kernel
theorem dX7_begin_7 : decode cX7_begin 7 = .ok (.iastore, 1) := by decide +kernel
theorem dX7_begin_8 : decode cX7_begin 8 = .ok (.aload_n 0, 1) := by decide +kernel
theorem dX7_begin_9 : decode cX7_begin 9 = .ok (.iconst 1, 1) := by decide +kernel
theorem dX7_begin_10 : decode cX7_begin 10 = .ok (.putfield 18, 3) := by decide +kernel
theorem dX7_begin_13 : decode cX7_begin 13 = .ok (.aload_n 0, 1) := by decide +kernel
theorem dX7_begin_14 : decode cX7_begin 14 = .ok (.iconst (-1), 1) := by decide +kernel
theorem dX7_begin_15 : decode cX7_begin 15 = .ok (.putfield 22, 3) := by decide +kernel
theorem dX7_begin_18 : decode cX7_begin 18 = .ok (.return_, 1) := by decide +kernel
theorem dX7_copyFrom_0 : decode cX7_copyFrom 0 = .ok (.aload_n 1, 1) := by decide +kernel
theorem dX7_copyFrom_1 : decode cX7_copyFrom 1 = .ok (.getfield 9, 3) := by decide +kernel
theorem dX7_copyFrom_4 : decode cX7_copyFrom 4 = .ok (.iconst 0, 1) := by decide +kernel
theorem dX7_copyFrom_5 : decode cX7_copyFrom 5 = .ok (.aload_n 0, 1) := by decide +kernel
theorem dX7_copyFrom_6 : decode cX7_copyFrom 6 = .ok (.getfield 9, 3) := by decide +kernel
theorem dX7_copyFrom_9 : decode cX7_copyFrom 9 = .ok (.iconst 0, 1) := by decide +kernel
theorem dX7_copyFrom_10 : decode cX7_copyFrom 10 = .ok (.bipush 6, 2) := by decide +kernel
theorem dX7_copyFrom_12 : decode cX7_copyFrom 12 = .ok (.invokestatic 25, 3) := by decide +kernel
theorem dX7_copyFrom_15 : decode cX7_copyFrom 15 = .ok (.aload_n 0, 1) := by decide +kernel
theorem dX7_copyFrom_16 : decode cX7_copyFrom 16 = .ok (.aload_n 1, 1) := by decide +kernel
theorem dX7_copyFrom_17 : decode cX7_copyFrom 17 = .ok (.getfield 18, 3) := by decide +kernel
theorem dX7_copyFrom_20 : decode cX7_copyFrom 20 = .ok (.putfield 18, 3) := by decide +kernel
theorem dX7_copyFrom_23 : decode cX7_copyFrom 23 = .ok (.aload_n 0, 1) := by decide +kernel
theorem dX7_copyFrom_24 : decode cX7_copyFrom 24 = .ok (.aload_n 1, 1) := by decide +kernel
theorem dX7_copyFrom_25 : decode cX7_copyFrom 25 = .ok (.getfield 22, 3) := by decide +kernel
theorem dX7_copyFrom_28 : decode cX7_copyFrom 28 = .ok (.putfield 22, 3) := by decide +kernel
theorem dX7_copyFrom_31 : decode cX7_copyFrom 31 = .ok (.return_, 1) := by decide +kernel
theorem dX7_isLike_0 : decode cX7_isLike 0 = .ok (.aload_n 0, 1) := by decide +kernel
theorem dX7_isLike_1 : decode cX7_isLike 1 = .ok (.getfield 18, 3) := by decide +kernel
theorem dX7_isLike_4 : decode cX7_isLike 4 = .ok (.aload_n 1, 1) := by decide +kernel
theorem dX7_isLike_5 : decode cX7_isLike 5 = .ok (.getfield 18, 3) := by decide +kernel
theorem dX7_isLike_8 : decode cX7_isLike 8 = .ok (.if_icmp .ne 14, 3) := by decide +kernel
theorem dX7_isLike_11 : decode cX7_isLike 11 = .ok (.aload_n 0, 1) := by decide +kernel
theorem dX7_isLike_12 : decode cX7_isLike 12 = .ok (.getfield 22, 3) := by decide +kernel
theorem dX7_isLike_15 : decode cX7_isLike 15 = .ok (.aload_n 1, 1) := by decide +kernel
theorem dX7_isLike_16 : decode cX7_isLike 16 = .ok (.getfield 22, 3) := by decide +kernel
theorem dX7_isLike_19 : decode cX7_isLike 19 = .ok (.if_icmp .eq 5, 3) := by decide +kernel
theorem dX7_isLike_22 : decode cX7_isLike 22 = .ok (.iconst 0, 1) := by decide +kernel
theorem dX7_isLike_23 : decode cX7_isLike 23 = .ok (.ireturn, 1) := by decide +kernel
theorem dX7_isLike_24 : decode cX7_isLike 24 = .ok (.iconst 0, 1) := by decide +kernel
theorem dX7_isLike_25 : decode cX7_isLike 25 = .ok (.istore_n 2, 1) := by decide +kernel
theorem dX7_isLike_26 : decode cX7_isLike 26 = .ok (.iload_n 2, 1) := by decide +kernel
theorem dX7_isLike_27 : decode cX7_isLike 27 = .ok (.aload_n 0, 1) := by decide +kernel
theorem dX7_isLike_28 : decode cX7_isLike 28 = .ok (.getfield 18, 3) := by decide +kernel
theorem dX7_isLike_31 : decode cX7_isLike 31 = .ok (.if_icmp .ge 32, 3) := by decide +kernel
theorem dX7_isLike_34 : decode cX7_isLike 34 = .ok (.iload_n 2, 1) := by decide +kernel
theorem dX7_isLike_35 : decode cX7_isLike 35 = .ok (.bipush 6, 2) := by decide +kernel
theorem dX7_isLike_37 : decode cX7_isLike 37 = .ok (.if_icmp .ge 26, 3) := by decide +kernel
theorem dX7_isLike_40 : decode cX7_isLike 40 = .ok (.aload_n 0, 1) := by decide +kernel
theorem dX7_isLike_41 : decode cX7_isLike 41 = .ok (.getfield 9, 3) := by decide +kernel
theorem dX7_isLike_44 : decode cX7_isLike 44 = .ok (.iload_n 2, 1) := by decide +kernel
theorem dX7_isLike_45 : decode cX7_isLike 45 = .ok (.iaload, 1) := by decide +kernel
theorem dX7_isLike_46 : decode cX7_isLike 46 = .ok (.aload_n 1, 1) := by decide +kernel
theorem dX7_isLike_47 : decode cX7_isLike 47 = .ok (.getfield 9, 3) := by decide +kernel
theorem dX7_isLike_50 : decode cX7_isLike 50 = .ok (.iload_n 2, 1) := by decide +kernel
theorem dX7_isLike_51 : decode cX7_isLike 51 = .ok (.iaload, 1) := by decide +kernel
theorem dX7_isLike_52 : decode cX7_isLike 52 = .ok (.if_icmp .eq 5, 3) := by decide +kernel
theorem dX7_isLike_55 : decode cX7_isLike 55 = .ok (.iconst 0, 1) := by decide +kernel
theorem dX7_isLike_56 : decode cX7_isLike 56 = .ok (.ireturn, 1) := by decide +kernel
theorem dX7_isLike_57 : decode cX7_isLike 57 = .ok (.iinc 2 1, 3) := by decide +kernel
theorem dX7_isLike_60 : decode cX7_isLike 60 = .ok (.goto (-34), 3) := by decide +kernel
theorem dX7_isLike_63 : decode cX7_isLike 63 = .ok (.iconst 1, 1) := by decide +kernel
theorem dX7_isLike_64 : decode cX7_isLike 64 = .ok (.ireturn, 1) := by decide +kernel
theorem dX7_opener_0 : decode cX7_opener 0 = .ok (.aload_n 0, 1) := by decide +kernel
theorem dX7_opener_1 : decode cX7_opener 1 = .ok (.getfield 18, 3) := by decide +kernel
theorem dX7_opener_4 : decode cX7_opener 4 = .ok (.iconst 1, 1) := by decide +kernel
theorem dX7_opener_5 : decode cX7_opener 5 = .ok (.isub, 1) := by decide +kernel
theorem dX7_opener_6 : decode cX7_opener 6 = .ok (.iload_n 1, 1) := by decide +kernel
theorem dX7_opener_7 : decode cX7_opener 7 = .ok (.isub, 1) := by decide +kernel
theorem dX7_opener_8 : decode cX7_opener 8 = .ok (.istore_n 2, 1) := by decide +kernel
theorem dX7_opener_9 : decode cX7_opener 9 = .ok (.iload_n 2, 1) := by decide +kernel
theorem dX7_opener_10 : decode cX7_opener 10 = .ok (.ifCond .lt 18, 3) := by decide +kernel
theorem dX7_opener_13 : decode cX7_opener 13 = .ok (.iload_n 2, 1) := by decide +kernel
theorem dX7_opener_14 : decode cX7_opener 14 = .ok (.bipush 6, 2) := by decide +kernel
theorem dX7_opener_16 : decode cX7_opener 16 = .ok (.if_icmp .ge 12, 3) := by decide +kernel
theorem dX7_opener_19 : decode cX7_opener 19 = .ok (.aload_n 0, 1) := by decide +kernel
theorem dX7_opener_20 : decode cX7_opener 20 = .ok (.getfield 9, 3) := by decide +kernel
theorem dX7_opener_23 : decode cX7_opener 23 = .ok (.iload_n 2, 1) := by decide +kernel
theorem dX7_opener_24 : decode cX7_opener 24 = .ok (.iaload, 1) := by decide +kernel
theorem dX7_opener_25 : decode cX7_opener 25 = .ok (.goto 4, 3) := by decide +kernel
theorem dX7_opener_28 : decode cX7_opener 28 = .ok (.iconst (-1), 1) := by decide +kernel
theorem dX7_opener_29 : decode cX7_opener 29 = .ok (.ireturn, 1) := by decide +kernel
theorem dX7_mode_0 : decode cX7_mode 0 = .ok (.aload_n 0, 1) := by decide +kernel
theorem dX7_mode_1 : decode cX7_mode 1 = .ok (.iconst 0, 1) := by decide +kernel
theorem dX7_mode_2 : decode cX7_mode 2 = .ok (.invokevirtual 31, 3) := by decide +kernel
theorem dX7_mode_5 : decode cX7_mode 5 = .ok (.istore_n 1, 1) := by decide +kernel
theorem dX7_mode_6 : decode cX7_mode 6 = .ok (.iload_n 1, 1) := by decide +kernel
theorem dX7_mode_7 : decode cX7_mode 7 = .ok (.invokestatic 35, 3) := by decide +kernel
theorem dX7_mode_10 : decode cX7_mode 10 = .ok (.ifCond .eq 5, 3) := by decide +kernel
theorem dX7_mode_13 : decode cX7_mode 13 = .ok (.iconst 1, 1) := by decide +kernel
theorem dX7_mode_14 : decode cX7_mode 14 = .ok (.ireturn, 1) := by decide +kernel
theorem dX7_mode_15 : decode cX7_mode 15 = .ok (.iload_n 1, 1) := by decide +kernel
theorem dX7_mode_16 : decode cX7_mode 16 = .ok (.bipush 91, 2) := by decide +kernel
theorem dX7_mode_18 : decode cX7_mode 18 = .ok (.if_icmp .ne 7, 3) := by decide +kernel
theorem dX7_mode_21 : decode cX7_mode 21 = .ok (.iconst 2, 1) := by decide +kernel
theorem dX7_mode_22 : decode cX7_mode 22 = .ok (.goto 4, 3) := by decide +kernel
theorem dX7_mode_25 : decode cX7_mode 25 = .ok (.iconst 0, 1) := by decide +kernel
theorem dX7_mode_26 : decode cX7_mode 26 = .ok (.ireturn, 1) := by decide +kernel
theorem dX7_quote_0 : decode cX7_quote 0 = .ok (.aload_n 0, 1) := by decide +kernel
theorem dX7_quote_1 : decode cX7_quote 1 = .ok (.iconst 0, 1) := by decide +kernel
theorem dX7_quote_2 : decode cX7_quote 2 = .ok (.invokevirtual 31, 3) := by decide +kernel
theorem dX7_quote_5 : decode cX7_quote 5 = .ok (.istore_n 1, 1) := by decide +kernel
theorem dX7_quote_6 : decode cX7_quote 6 = .ok (.iload_n 1, 1) := by decide +kernel
theorem dX7_quote_7 : decode cX7_quote 7 = .ok (.invokestatic 35, 3) := by decide +kernel
theorem dX7_quote_10 : decode cX7_quote 10 = .ok (.ifCond .eq 7, 3) := by decide +kernel
theorem dX7_quote_13 : decode cX7_quote 13 = .ok (.iload_n 1, 1) := by decide +kernel
theorem dX7_quote_14 : decode cX7_quote 14 = .ok (.goto 4, 3) := by decide +kernel
theorem dX7_quote_17 : decode cX7_quote 17 = .ok (.iconst (-1), 1) := by decide +kernel
theorem dX7_quote_18 : decode cX7_quote 18 = .ok (.ireturn, 1) := by decide +kernel
theorem dX7_liesInString_0 : decode cX7_liesInString 0 = .ok (.aload_n 0, 1) := by decide +kernel
theorem dX7_liesInString_1 : decode cX7_liesInString 1 = .ok (.iconst 1, 1) := by decide +kernel
theorem dX7_liesInString_2 : decode cX7_liesInString 2 = .ok (.invokevirtual 31, 3) := by decide +kernel
theorem dX7_liesInString_5 : decode cX7_liesInString 5 = .ok (.invokestatic 35, 3) := by decide +kernel
theorem dX7_liesInString_8 : decode cX7_liesInString 8 = .ok (.ireturn, 1) := by decide +kernel
theorem dX7_open_0 : decode cX7_open 0 = .ok (.aload_n 0, 1) := by decide +kernel
theorem dX7_open_1 : decode cX7_open 1 = .ok (.getfield 18, 3) := by decide +kernel
theorem dX7_open_4 : decode cX7_open 4 = .ok (.iconst 1, 1) := by decide +kernel
theorem dX7_open_5 : decode cX7_open 5 = .ok (.if_icmp .lt 12, 3) := by decide +kernel
theorem dX7_open_8 : decode cX7_open 8 = .ok (.aload_n 0, 1) := by decide +kernel
theorem dX7_open_9 : decode cX7_open 9 = .ok (.getfield 18, 3) := by decide +kernel
theorem dX7_open_12 : decode cX7_open 12 = .ok (.bipush 6, 2) := by decide +kernel
theorem dX7_open_14 : decode cX7_open 14 = .ok (.if_icmp .lt 5, 3) := by decide +kernel
theorem dX7_open_17 : decode cX7_open 17 = .ok (.iconst 0, 1) := by decide +kernel
theorem dX7_open_18 : decode cX7_open 18 = .ok (.ireturn, 1) := by decide +kernel
theorem dX7_open_19 : decode cX7_open 19 = .ok (.aload_n 0, 1) := by decide +kernel
theorem dX7_open_20 : decode cX7_open 20 = .ok (.getfield 9, 3) := by decide +kernel
theorem dX7_open_23 : decode cX7_open 23 = .ok (.aload_n 0, 1) := by decide +kernel
theorem dX7_open_24 : decode cX7_open 24 = .ok (.getfield 18, 3) := by decide +kernel
theorem dX7_open_27 : decode cX7_open 27 = .ok (.iload_n 1, 1) := by decide +kernel
theorem dX7_open_28 : decode cX7_open 28 = .ok (.iastore, 1) := by decide +kernel
theorem dX7_open_29 : decode cX7_open 29 = .ok (.aload_n 0, 1) := by decide +kernel
theorem dX7_open_30 : decode cX7_open 30 = .ok (.dup, 1) := by decide +kernel
theorem dX7_open_31 : decode cX7_open 31 = .ok (.getfield 18, 3) := by decide +kernel
theorem dX7_open_34 : decode cX7_open 34 = .ok (.iconst 1, 1) := by decide +kernel
theorem dX7_open_35 : decode cX7_open 35 = .ok (.iadd, 1) := by decide +kernel
theorem dX7_open_36 : decode cX7_open 36 = .ok (.putfield 18, 3) := by decide +kernel
theorem dX7_open_39 : decode cX7_open 39 = .ok (.iconst 1, 1) := by decide +kernel
theorem dX7_open_40 : decode cX7_open 40 = .ok (.ireturn, 1) := by decide +kernel
theorem dX7_close_0 : decode cX7_close 0 = .ok (.aload_n 0, 1) := by decide +kernel
theorem dX7_close_1 : decode cX7_close 1 = .ok (.getfield 18, 3) := by decide +kernel
theorem dX7_close_4 : decode cX7_close 4 = .ok (.iconst 1, 1) := by decide +kernel
theorem dX7_close_5 : decode cX7_close 5 = .ok (.if_icmp .le 13, 3) := by decide +kernel
theorem dX7_close_8 : decode cX7_close 8 = .ok (.aload_n 0, 1) := by decide +kernel
theorem dX7_close_9 : decode cX7_close 9 = .ok (.dup, 1) := by decide +kernel
theorem dX7_close_10 : decode cX7_close 10 = .ok (.getfield 18, 3) := by decide +kernel
theorem dX7_close_13 : decode cX7_close 13 = .ok (.iconst 1, 1) := by decide +kernel
theorem dX7_close_14 : decode cX7_close 14 = .ok (.isub, 1) := by decide +kernel
theorem dX7_close_15 : decode cX7_close 15 = .ok (.putfield 18, 3) := by decide +kernel
theorem dX7_close_18 : decode cX7_close 18 = .ok (.return_, 1) := by decide +kernel
theorem dX7_closeLineStrings_0 : decode cX7_closeLineStrings 0 = .ok (.iconst 1, 1) := by decide +kernel
theorem dX7_closeLineStrings_1 : decode cX7_closeLineStrings 1 = .ok (.istore_n 1, 1) := by decide +kernel
theorem dX7_closeLineStrings_2 : decode cX7_closeLineStrings 2 = .ok (.iload_n 1, 1) := by decide +kernel
theorem dX7_closeLineStrings_3 : decode cX7_closeLineStrings 3 = .ok (.aload_n 0, 1) := by decide +kernel
theorem dX7_closeLineStrings_4 : decode cX7_closeLineStrings 4 = .ok (.getfield 18, 3) := by decide +kernel
theorem dX7_closeLineStrings_7 : decode cX7_closeLineStrings 7 = .ok (.if_icmp .ge 31, 3) := by decide +kernel
theorem dX7_closeLineStrings_10 : decode cX7_closeLineStrings 10 = .ok (.iload_n 1, 1) := by decide +kernel
theorem dX7_closeLineStrings_11 : decode cX7_closeLineStrings 11 = .ok (.bipush 6, 2) := by decide +kernel
theorem dX7_closeLineStrings_13 : decode cX7_closeLineStrings 13 = .ok (.if_icmp .ge 25, 3) := by decide +kernel
theorem dX7_closeLineStrings_16 : decode cX7_closeLineStrings 16 = .ok (.aload_n 0, 1) := by decide +kernel
theorem dX7_closeLineStrings_17 : decode cX7_closeLineStrings 17 = .ok (.getfield 9, 3) := by decide +kernel
theorem dX7_closeLineStrings_20 : decode cX7_closeLineStrings 20 = .ok (.iload_n 1, 1) := by decide +kernel
theorem dX7_closeLineStrings_21 : decode cX7_closeLineStrings 21 = .ok (.iaload, 1) := by decide +kernel
theorem dX7_closeLineStrings_22 : decode cX7_closeLineStrings 22 = .ok (.bipush 39, 2) := by decide +kernel
theorem dX7_closeLineStrings_24 : decode cX7_closeLineStrings 24 = .ok (.if_icmp .ne 8, 3) := by decide +kernel
theorem dX7_closeLineStrings_27 : decode cX7_closeLineStrings 27 = .ok (.aload_n 0, 1) := by decide +kernel
theorem dX7_closeLineStrings_28 : decode cX7_closeLineStrings 28 = .ok (.iload_n 1, 1) := by decide +kernel
theorem dX7_closeLineStrings_29 : decode cX7_closeLineStrings 29 = .ok (.putfield 18, 3) := by decide +kernel
theorem dX7_closeLineStrings_32 : decode cX7_closeLineStrings 32 = .ok (.iinc 1 1, 3) := by decide +kernel
theorem dX7_closeLineStrings_35 : decode cX7_closeLineStrings 35 = .ok (.goto (-33), 3) := by decide +kernel
theorem dX7_closeLineStrings_38 : decode cX7_closeLineStrings 38 = .ok (.return_, 1) := by decide +kernel
theorem dX8_init_0 : decode cX8_init 0 = .ok (.aload_n 0, 1) := by decide +kernel
theorem dX8_init_1 : decode cX8_init 1 = .ok (.invokespecial 3, 3) := by decide +kernel
theorem dX8_init_4 : decode cX8_init 4 = .ok (.aload_n 0, 1) := by decide +kernel
theorem dX8_init_5 : decode cX8_init 5 = .ok (.iconst 4, 1) := by decide +kernel
theorem dX8_init_6 : decode cX8_init 6 = .ok (.anewarray 9, 3) := by decide +kernel
theorem dX8_init_9 : decode cX8_init 9 = .ok (.putfield 11, 3) := by decide +kernel
theorem dX8_init_12 : decode cX8_init 12 = .ok (.iconst 0, 1) := by decide +kernel
theorem dX8_init_13 : decode cX8_init 13 = .ok (.istore_n 1, 1) := by decide +kernel
theorem dX8_init_14 : decode cX8_init 14 = .ok (.iload_n 1, 1) := by decide +kernel
theorem dX8_init_15 : decode cX8_init 15 = .ok (.iconst 4, 1) := by decide +kernel
theorem dX8_init_16 : decode cX8_init 16 = .ok (.if_icmp .ge 23, 3) := by decide +kernel
theorem dX8_init_19 : decode cX8_init 19 = .ok (.aload_n 0, 1) := by decide +kernel
theorem dX8_init_20 : decode cX8_init 20 = .ok (.getfield 11, 3) := by decide +kernel
theorem dX8_init_23 : decode cX8_init 23 = .ok (.iload_n 1, 1) := by decide +kernel
theorem dX8_init_24 : decode cX8_init 24 = .ok (.new 9, 3) := by decide +kernel
theorem dX8_init_27 : decode cX8_init 27 = .ok (.dup, 1) := by decide +kernel
theorem dX8_init_28 : decode cX8_init 28 = .ok (.iconst 5, 1) := by decide +kernel
theorem dX8_init_29 : decode cX8_init 29 = .ok (.invokespecial 17, 3) := by decide +kernel
theorem dX8_init_32 : decode cX8_init 32 = .ok (.aastore, 1) := by decide +kernel
theorem dX8_init_33 : decode cX8_init 33 = .ok (.iinc 1 1, 3) := by decide +kernel
theorem dX8_init_36 : decode cX8_init 36 = .ok (.goto (-22), 3) := by decide +kernel
theorem dX8_init_39 : decode cX8_init 39 = .ok (.aload_n 0, 1) := by decide +kernel
theorem dX8_init_40 : decode cX8_init 40 = .ok (.iconst 0, 1) := by decide +kernel
theorem dX8_init_41 : decode cX8_init 41 = .ok (.putfield 20, 3) := by decide +kernel
theorem dX8_init_44 : decode cX8_init 44 = .ok (.return_, 1) := by decide +kernel
theorem dX8_copyFrom_0 : decode cX8_copyFrom 0 = .ok (.aload_n 0, 1) := by decide +kernel
theorem dX8_copyFrom_1 : decode cX8_copyFrom 1 = .ok (.aload_n 1, 1) := by decide +kernel
theorem dX8_copyFrom_2 : decode cX8_copyFrom 2 = .ok (.getfield 20, 3) := by decide +kernel
theorem dX8_copyFrom_5 : decode cX8_copyFrom 5 = .ok (.putfield 20, 3) := by decide +kernel
theorem dX8_copyFrom_8 : decode cX8_copyFrom 8 = .ok (.iconst 0, 1) := by decide +kernel
theorem dX8_copyFrom_9 : decode cX8_copyFrom 9 = .ok (.istore_n 2, 1) := by decide +kernel
theorem dX8_copyFrom_10 : decode cX8_copyFrom 10 = .ok (.iload_n 2, 1) := by decide +kernel
theorem dX8_copyFrom_11 : decode cX8_copyFrom 11 = .ok (.aload_n 0, 1) := by decide +kernel
theorem dX8_copyFrom_12 : decode cX8_copyFrom 12 = .ok (.getfield 20, 3) := by decide +kernel
theorem dX8_copyFrom_15 : decode cX8_copyFrom 15 = .ok (.if_icmp .ge 24, 3) := by decide +kernel
theorem dX8_copyFrom_18 : decode cX8_copyFrom 18 = .ok (.aload_n 0, 1) := by decide +kernel
theorem dX8_copyFrom_19 : decode cX8_copyFrom 19 = .ok (.getfield 11, 3) := by decide +kernel
theorem dX8_copyFrom_22 : decode cX8_copyFrom 22 = .ok (.iload_n 2, 1) := by decide +kernel
theorem dX8_copyFrom_23 : decode cX8_copyFrom 23 = .ok (.aaload, 1) := by decide +kernel
theorem dX8_copyFrom_24 : decode cX8_copyFrom 24 = .ok (.aload_n 1, 1) := by decide +kernel
theorem dX8_copyFrom_25 : decode cX8_copyFrom 25 = .ok (.getfield 11, 3) := by decide +kernel
theorem dX8_copyFrom_28 : decode cX8_copyFrom 28 = .ok (.iload_n 2, 1) := by decide +kernel
theorem dX8_copyFrom_29 : decode cX8_copyFrom 29 = .ok (.aaload, 1) := by decide +kernel
theorem dX8_copyFrom_30 : decode cX8_copyFrom 30 = .ok (.invokevirtual 24, 3) := by decide +kernel
theorem dX8_copyFrom_33 : decode cX8_copyFrom 33 = .ok (.iinc 2 1, 3) := by decide +kernel
theorem dX8_copyFrom_36 : decode cX8_copyFrom 36 = .ok (.goto (-26), 3) := by decide +kernel
theorem dX8_copyFrom_39 : decode cX8_copyFrom 39 = .ok (.return_, 1) := by decide +kernel
theorem dX8_has_0 : decode cX8_has 0 = .ok (.iconst 0, 1) := by decide +kernel
theorem dX8_has_1 : decode cX8_has 1 = .ok (.istore 4, 2) := by decide +kernel
theorem dX8_has_3 : decode cX8_has 3 = .ok (.iload 4, 2) := by decide +kernel
theorem dX8_has_5 : decode cX8_has 5 = .ok (.aload_n 0, 1) := by decide +kernel
theorem dX8_has_6 : decode cX8_has 6 = .ok (.getfield 20, 3) := by decide +kernel
theorem dX8_has_9 : decode cX8_has 9 = .ok (.if_icmp .ge 27, 3) := by decide +kernel
theorem dX8_has_12 : decode cX8_has 12 = .ok (.aload_n 1, 1) := by decide +kernel
theorem dX8_has_13 : decode cX8_has 13 = .ok (.aload_n 0, 1) := by decide +kernel
theorem dX8_has_14 : decode cX8_has 14 = .ok (.getfield 11, 3) := by decide +kernel
theorem dX8_has_17 : decode cX8_has 17 = .ok (.iload 4, 2) := by decide +kernel
theorem dX8_has_19 : decode cX8_has 19 = .ok (.aaload, 1) := by decide +kernel
theorem dX8_has_20 : decode cX8_has 20 = .ok (.iload_n 2, 1) := by decide +kernel
theorem dX8_has_21 : decode cX8_has 21 = .ok (.iload_n 3, 1) := by decide +kernel
theorem dX8_has_22 : decode cX8_has 22 = .ok (.invokevirtual 28, 3) := by decide +kernel
theorem dX8_has_25 : decode cX8_has 25 = .ok (.ifCond .eq 5, 3) := by decide +kernel
theorem dX8_has_28 : decode cX8_has 28 = .ok (.iconst 1, 1) := by decide +kernel
theorem dX8_has_29 : decode cX8_has 29 = .ok (.ireturn, 1) := by decide +kernel
theorem dX8_has_30 : decode cX8_has 30 = .ok (.iinc 4 1, 3) := by decide +kernel
theorem dX8_has_33 : decode cX8_has 33 = .ok (.goto (-30), 3) := by decide +kernel
theorem dX8_has_36 : decode cX8_has 36 = .ok (.iconst 0, 1) := by decide +kernel
theorem dX8_has_37 : decode cX8_has 37 = .ok (.ireturn, 1) := by decide +kernel
theorem dX8_add_0 : decode cX8_add 0 = .ok (.aload_n 0, 1) := by decide +kernel
theorem dX8_add_1 : decode cX8_add 1 = .ok (.getfield 20, 3) := by decide +kernel
theorem dX8_add_4 : decode cX8_add 4 = .ok (.iconst 4, 1) := by decide +kernel
theorem dX8_add_5 : decode cX8_add 5 = .ok (.if_icmp .ge 26, 3) := by decide +kernel
theorem dX8_add_8 : decode cX8_add 8 = .ok (.aload_n 0, 1) := by decide +kernel
theorem dX8_add_9 : decode cX8_add 9 = .ok (.getfield 11, 3) := by decide +kernel
theorem dX8_add_12 : decode cX8_add 12 = .ok (.aload_n 0, 1) := by decide +kernel
theorem dX8_add_13 : decode cX8_add 13 = .ok (.getfield 20, 3) := by decide +kernel
theorem dX8_add_16 : decode cX8_add 16 = .ok (.aaload, 1) := by decide +kernel
theorem dX8_add_17 : decode cX8_add 17 = .ok (.aload_n 1, 1) := by decide +kernel
theorem dX8_add_18 : decode cX8_add 18 = .ok (.invokevirtual 24, 3) := by decide +kernel
theorem dX8_add_21 : decode cX8_add 21 = .ok (.aload_n 0, 1) := by decide +kernel
theorem dX8_add_22 : decode cX8_add 22 = .ok (.dup, 1) := by decide +kernel
theorem dX8_add_23 : decode cX8_add 23 = .ok (.getfield 20, 3) := by decide +kernel
theorem dX8_add_26 : decode cX8_add 26 = .ok (.iconst 1, 1) := by decide +kernel
theorem dX8_add_27 : decode cX8_add 27 = .ok (.iadd, 1) := by decide +kernel
theorem dX8_add_28 : decode cX8_add 28 = .ok (.putfield 20, 3) := by decide +kernel
theorem dX8_add_31 : decode cX8_add 31 = .ok (.return_, 1) := by decide +kernel
theorem dX8_removeWith_0 : decode cX8_removeWith 0 = .ok (.iconst 0, 1) := by decide +kernel
theorem dX8_removeWith_1 : decode cX8_removeWith 1 = .ok (.istore_n 2, 1) := by decide +kernel
theorem dX8_removeWith_2 : decode cX8_removeWith 2 = .ok (.iconst 0, 1) := by decide +kernel
theorem dX8_removeWith_3 : decode cX8_removeWith 3 = .ok (.istore_n 3, 1) := by decide +kernel
theorem dX8_removeWith_4 : decode cX8_removeWith 4 = .ok (.iload_n 3, 1) := by decide +kernel
theorem dX8_removeWith_5 : decode cX8_removeWith 5 = .ok (.aload_n 0, 1) := by decide +kernel
theorem dX8_removeWith_6 : decode cX8_removeWith 6 = .ok (.getfield 20, 3) := by decide +kernel
theorem dX8_removeWith_9 : decode cX8_removeWith 9 = .ok (.if_icmp .ge 41, 3) := by decide +kernel
theorem dX8_removeWith_12 : decode cX8_removeWith 12 = .ok (.aload_n 0, 1) := by decide +kernel
theorem dX8_removeWith_13 : decode cX8_removeWith 13 = .ok (.getfield 11, 3) := by decide +kernel
theorem dX8_removeWith_16 : decode cX8_removeWith 16 = .ok (.iload_n 3, 1) := by decide +kernel
theorem dX8_removeWith_17 : decode cX8_removeWith 17 = .ok (.aaload, 1) := by decide +kernel
theorem dX8_removeWith_18 : decode cX8_removeWith 18 = .ok (.iconst 0, 1) := by decide +kernel
theorem dX8_removeWith_19 : decode cX8_removeWith 19 = .ok (.invokevirtual 32, 3) := by decide +kernel
theorem dX8_removeWith_22 : decode cX8_removeWith 22 = .ok (.iload_n 1, 1) := by decide +kernel
theorem dX8_removeWith_23 : decode cX8_removeWith 23 = .ok (.if_icmp .eq 21, 3) := by decide +kernel
theorem dX8_removeWith_26 : decode cX8_removeWith 26 = .ok (.aload_n 0, 1) := by decide +kernel
theorem dX8_removeWith_27 : decode cX8_removeWith 27 = .ok (.getfield 11, 3) := by decide +kernel
theorem dX8_removeWith_30 : decode cX8_removeWith 30 = .ok (.iload_n 2, 1) := by decide +kernel
theorem dX8_removeWith_31 : decode cX8_removeWith 31 = .ok (.aaload, 1) := by decide +kernel
theorem dX8_removeWith_32 : decode cX8_removeWith 32 = .ok (.aload_n 0, 1) := by decide +kernel
theorem dX8_removeWith_33 : decode cX8_removeWith 33 = .ok (.getfield 11, 3) := by decide +kernel
theorem dX8_removeWith_36 : decode cX8_removeWith 36 = .ok (.iload_n 3, 1) := by decide +kernel
theorem dX8_removeWith_37 : decode cX8_removeWith 37 = .ok (.aaload, 1) := by decide +kernel
theorem dX8_removeWith_38 : decode cX8_removeWith 38 = .ok (.invokevirtual 24, 3) := by decide +kernel
theorem dX8_removeWith_41 : decode cX8_removeWith 41 = .ok (.iinc 2 1, 3) := by decide +kernel
theorem dX8_removeWith_44 : decode cX8_removeWith 44 = .ok (.iinc 3 1, 3) := by decide +kernel
theorem dX8_removeWith_47 : decode cX8_removeWith 47 = .ok (.goto (-43), 3) := by decide +kernel
theorem dX8_removeWith_50 : decode cX8_removeWith 50 = .ok (.aload_n 0, 1) := by decide +kernel
theorem dX8_removeWith_51 : decode cX8_removeWith 51 = .ok (.getfield 20, 3) := by decide +kernel
theorem dX8_removeWith_54 : decode cX8_removeWith 54 = .ok (.iload_n 2, 1) := by decide +kernel
theorem dX8_removeWith_55 : decode cX8_removeWith 55 = .ok (.isub, 1) := by decide +kernel
theorem dX8_removeWith_56 : decode cX8_removeWith 56 = .ok (.istore_n 3, 1) := by decide +kernel
theorem dX8_removeWith_57 : decode cX8_removeWith 57 = .ok (.aload_n 0, 1) := by decide +kernel
theorem dX8_removeWith_58 : decode cX8_removeWith 58 = .ok (.iload_n 2, 1) := by decide +kernel
theorem dX8_removeWith_59 : decode cX8_removeWith 59 = .ok (.putfield 20, 3) := by decide +kernel
theorem dX8_removeWith_62 : decode cX8_removeWith 62 = .ok (.iload_n 3, 1) := by decide +kernel
theorem dX8_removeWith_63 : decode cX8_removeWith 63 = .ok (.ireturn, 1) := by decide +kernel
theorem dX9_init_0 : decode cX9_init 0 = .ok (.aload_n 0, 1) := by decide +kernel
theorem dX9_init_1 : decode cX9_init 1 = .ok (.invokespecial 1, 3) := by decide +kernel
theorem dX9_init_4 : decode cX9_init 4 = .ok (.aload_n 0, 1) := by decide +kernel
theorem dX9_init_5 : decode cX9_init 5 = .ok (.new 7, 3) := by decide +kernel
theorem dX9_init_8 : decode cX9_init 8 = .ok (.dup, 1) := by decide +kernel
theorem dX9_init_9 : decode cX9_init 9 = .ok (.bipush 30, 2) := by decide +kernel
theorem dX9_init_11 : decode cX9_init 11 = .ok (.invokespecial 11, 3) := by decide +kernel
theorem dX9_init_14 : decode cX9_init 14 = .ok (.putfield 14, 3) := by decide +kernel
theorem dX9_init_17 : decode cX9_init 17 = .ok (.aload_n 0, 1) := by decide +kernel
theorem dX9_init_18 : decode cX9_init 18 = .ok (.new 18, 3) := by decide +kernel
theorem dX9_init_21 : decode cX9_init 21 = .ok (.dup, 1) := by decide +kernel
theorem dX9_init_22 : decode cX9_init 22 = .ok (.invokespecial 20, 3) := by decide +kernel
theorem dX9_init_25 : decode cX9_init 25 = .ok (.putfield 21, 3) := by decide +kernel
theorem dX9_init_28 : decode cX9_init 28 = .ok (.aload_n 0, 1) := by decide +kernel
theorem dX9_init_29 : decode cX9_init 29 = .ok (.new 25, 3) := by decide +kernel
theorem dX9_init_32 : decode cX9_init 32 = .ok (.dup, 1) := by decide +kernel
theorem dX9_init_33 : decode cX9_init 33 = .ok (.invokespecial 27, 3) := by decide +kernel
theorem dX9_init_36 : decode cX9_init 36 = .ok (.putfield 28, 3) := by decide +kernel
theorem dX9_init_39 : decode cX9_init 39 = .ok (.aload_n 0, 1) := by decide +kernel
theorem dX9_init_40 : decode cX9_init 40 = .ok (.iconst 3, 1) := by decide +kernel
theorem dX9_init_41 : decode cX9_init 41 = .ok (.newarray .int, 2) := by decide +kernel
theorem dX9_init_43 : decode cX9_init 43 = .ok (.putfield 32, 3) := by decide +kernel
theorem dX9_init_46 : decode cX9_init 46 = .ok (.aload_n 0, 1) := by decide +kernel
theorem dX9_init_47 : decode cX9_init 47 = .ok (.iconst 0, 1) := by decide +kernel
theorem dX9_init_48 : decode cX9_init 48 = .ok (.putfield 36, 3) := by decide +kernel
theorem dX9_init_51 : decode cX9_init 51 = .ok (.return_, 1) := by decide +kernel
theorem dX9_type_0 : decode cX9_type 0 = .ok (.iload_n 1, 1) := by decide +kernel
theorem dX9_type_1 : decode cX9_type 1 = .ok (.invokestatic 40, 3) := by decide +kernel
theorem dX9_type_4 : decode cX9_type 4 = .ok (.ifCond .ne 10, 3) := by decide +kernel
theorem dX9_type_7 : decode cX9_type 7 = .ok (.aload_n 0, 1) := by decide +kernel
theorem dX9_type_8 : decode cX9_type 8 = .ok (.bipush (-2), 2) := by decide +kernel
theorem dX9_type_10 : decode cX9_type 10 = .ok (.invokevirtual 44, 3) := by decide +kernel
theorem dX9_type_13 : decode cX9_type 13 = .ok (.ireturn, 1) := by decide +kernel
theorem dX9_type_14 : decode cX9_type 14 = .ok (.aload_n 0, 1) := by decide +kernel
theorem dX9_type_15 : decode cX9_type 15 = .ok (.getfield 14, 3) := by decide +kernel
theorem dX9_type_18 : decode cX9_type 18 = .ok (.getfield 48, 3) := by decide +kernel
theorem dX9_type_21 : decode cX9_type 21 = .ok (.bipush 30, 2) := by decide +kernel
theorem dX9_type_23 : decode cX9_type 23 = .ok (.if_icmp .lt 10, 3) := by decide +kernel
theorem dX9_type_26 : decode cX9_type 26 = .ok (.aload_n 0, 1) := by decide +kernel
theorem dX9_type_27 : decode cX9_type 27 = .ok (.bipush (-4), 2) := by decide +kernel
theorem dX9_type_29 : decode cX9_type 29 = .ok (.invokevirtual 44, 3) := by decide +kernel
theorem dX9_type_32 : decode cX9_type 32 = .ok (.ireturn, 1) := by decide +kernel
theorem dX9_type_33 : decode cX9_type 33 = .ok (.aload_n 0, 1) := by decide +kernel
theorem dX9_type_34 : decode cX9_type 34 = .ok (.getfield 14, 3) := by decide +kernel
theorem dX9_type_37 : decode cX9_type 37 = .ok (.aload_n 0, 1) := by decide +kernel
theorem dX9_type_38 : decode cX9_type 38 = .ok (.getfield 14, 3) := by decide +kernel
theorem dX9_type_41 : decode cX9_type 41 = .ok (.getfield 48, 3) := by decide +kernel
theorem dX9_type_44 : decode cX9_type 44 = .ok (.iload_n 1, 1) := by decide +kernel
theorem dX9_type_45 : decode cX9_type 45 = .ok (.invokevirtual 51, 3) := by decide +kernel
theorem dX9_type_48 : decode cX9_type 48 = .ok (.aload_n 0, 1) := by decide +kernel
theorem dX9_type_49 : decode cX9_type 49 = .ok (.getfield 14, 3) := by decide +kernel
theorem dX9_type_52 : decode cX9_type 52 = .ok (.getfield 48, 3) := by decide +kernel
theorem dX9_type_55 : decode cX9_type 55 = .ok (.ireturn, 1) := by decide +kernel
theorem dX9_clear_0 : decode cX9_clear 0 = .ok (.aload_n 0, 1) := by decide +kernel
theorem dX9_clear_1 : decode cX9_clear 1 = .ok (.getfield 14, 3) := by decide +kernel
theorem dX9_clear_4 : decode cX9_clear 4 = .ok (.getfield 48, 3) := by decide +kernel
theorem dX9_clear_7 : decode cX9_clear 7 = .ok (.istore_n 1, 1) := by decide +kernel
theorem dX9_clear_8 : decode cX9_clear 8 = .ok (.aload_n 0, 1) := by decide +kernel
theorem dX9_clear_9 : decode cX9_clear 9 = .ok (.getfield 14, 3) := by decide +kernel
theorem dX9_clear_12 : decode cX9_clear 12 = .ok (.iconst 0, 1) := by decide +kernel
theorem dX9_clear_13 : decode cX9_clear 13 = .ok (.putfield 48, 3) := by decide +kernel
theorem dX9_clear_16 : decode cX9_clear 16 = .ok (.iload_n 1, 1) := by decide +kernel
theorem dX9_clear_17 : decode cX9_clear 17 = .ok (.ireturn, 1) := by decide +kernel
theorem dX9_inserts_0 : decode cX9_inserts 0 = .ok (.iload_n 1, 1) := by decide +kernel
theorem dX9_inserts_1 : decode cX9_inserts 1 = .ok (.ifCond .lt 14, 3) := by decide +kernel
theorem dX9_inserts_4 : decode cX9_inserts 4 = .ok (.iload_n 1, 1) := by decide +kernel
theorem dX9_inserts_5 : decode cX9_inserts 5 = .ok (.aload_n 0, 1) := by decide +kernel
theorem dX9_inserts_6 : decode cX9_inserts 6 = .ok (.getfield 21, 3) := by decide +kernel
theorem dX9_inserts_9 : decode cX9_inserts 9 = .ok (.getfield 55, 3) := by decide +kernel
theorem dX9_inserts_12 : decode cX9_inserts 12 = .ok (.if_icmp .le 10, 3) := by decide +kernel
theorem dX9_inserts_15 : decode cX9_inserts 15 = .ok (.aload_n 0, 1) := by decide +kernel
theorem dX9_inserts_16 : decode cX9_inserts 16 = .ok (.bipush (-2), 2) := by decide +kernel
theorem dX9_inserts_18 : decode cX9_inserts 18 = .ok (.invokevirtual 44, 3) := by decide +kernel
theorem dX9_inserts_21 : decode cX9_inserts 21 = .ok (.ireturn, 1) := by decide +kernel
theorem dX9_inserts_22 : decode cX9_inserts 22 = .ok (.aload_n 0, 1) := by decide +kernel
theorem dX9_inserts_23 : decode cX9_inserts 23 = .ok (.getfield 21, 3) := by decide +kernel
theorem dX9_inserts_26 : decode cX9_inserts 26 = .ok (.getfield 55, 3) := by decide +kernel
theorem dX9_inserts_29 : decode cX9_inserts 29 = .ok (.bipush 10, 2) := by decide +kernel
theorem dX9_inserts_31 : decode cX9_inserts 31 = .ok (.if_icmp .lt 10, 3) := by decide +kernel
theorem dX9_inserts_34 : decode cX9_inserts 34 = .ok (.aload_n 0, 1) := by decide +kernel
theorem dX9_inserts_35 : decode cX9_inserts 35 = .ok (.bipush (-4), 2) := by decide +kernel
theorem dX9_inserts_37 : decode cX9_inserts 37 = .ok (.invokevirtual 44, 3) := by decide +kernel
theorem dX9_inserts_40 : decode cX9_inserts 40 = .ok (.ireturn, 1) := by decide +kernel
theorem dX9_inserts_41 : decode cX9_inserts 41 = .ok (.aload_n 0, 1) := by decide +kernel
theorem dX9_inserts_42 : decode cX9_inserts 42 = .ok (.getfield 28, 3) := by decide +kernel
theorem dX9_inserts_45 : decode cX9_inserts 45 = .ok (.aload_n 0, 1) := by decide +kernel
theorem dX9_inserts_46 : decode cX9_inserts 46 = .ok (.getfield 21, 3) := by decide +kernel
theorem dX9_inserts_49 : decode cX9_inserts 49 = .ok (.invokevirtual 58, 3) := by decide +kernel
theorem dX9_inserts_52 : decode cX9_inserts 52 = .ok (.aload_n 0, 1) := by decide +kernel
theorem dX9_inserts_53 : decode cX9_inserts 53 = .ok (.getfield 21, 3) := by decide +kernel
theorem dX9_inserts_56 : decode cX9_inserts 56 = .ok (.iload_n 1, 1) := by decide +kernel
theorem dX9_inserts_57 : decode cX9_inserts 57 = .ok (.invokevirtual 62, 3) := by decide +kernel
theorem dX9_inserts_60 : decode cX9_inserts 60 = .ok (.aload_n 0, 1) := by decide +kernel
theorem dX9_inserts_61 : decode cX9_inserts 61 = .ok (.getfield 21, 3) := by decide +kernel
theorem dX9_inserts_64 : decode cX9_inserts 64 = .ok (.getfield 65, 3) := by decide +kernel
theorem dX9_inserts_67 : decode cX9_inserts 67 = .ok (.iload_n 1, 1) := by decide +kernel
theorem dX9_inserts_68 : decode cX9_inserts 68 = .ok (.aaload, 1) := by decide +kernel
theorem dX9_inserts_69 : decode cX9_inserts 69 = .ok (.getfield 69, 3) := by decide +kernel
theorem dX9_inserts_72 : decode cX9_inserts 72 = .ok (.aload_n 0, 1) := by decide +kernel
theorem dX9_inserts_73 : decode cX9_inserts 73 = .ok (.getfield 14, 3) := by decide +kernel
theorem dX9_inserts_76 : decode cX9_inserts 76 = .ok (.invokevirtual 74, 3) := by decide +kernel
theorem dX9_inserts_79 : decode cX9_inserts 79 = .ok (.aload_n 0, 1) := by decide +kernel
theorem dX9_inserts_80 : decode cX9_inserts 80 = .ok (.aload_n 0, 1) := by decide +kernel
theorem dX9_inserts_81 : decode cX9_inserts 81 = .ok (.getfield 21, 3) := by decide +kernel
theorem dX9_inserts_84 : decode cX9_inserts 84 = .ok (.iload_n 1, 1) := by decide +kernel
theorem dX9_inserts_85 : decode cX9_inserts 85 = .ok (.iload_n 1, 1) := by decide +kernel
theorem dX9_inserts_86 : decode cX9_inserts 86 = .ok (.invokevirtual 78, 3) := by decide +kernel
theorem dX9_inserts_89 : decode cX9_inserts 89 = .ok (.putfield 36, 3) := by decide +kernel
theorem dX9_inserts_92 : decode cX9_inserts 92 = .ok (.aload_n 0, 1) := by decide +kernel
theorem dX9_inserts_93 : decode cX9_inserts 93 = .ok (.getfield 21, 3) := by decide +kernel
theorem dX9_inserts_96 : decode cX9_inserts 96 = .ok (.getfield 55, 3) := by decide +kernel
theorem dX9_inserts_99 : decode cX9_inserts 99 = .ok (.ireturn, 1) := by decide +kernel
theorem dX9_sets_0 : decode cX9_sets 0 = .ok (.aload_n 0, 1) := by decide +kernel
theorem dX9_sets_1 : decode cX9_sets 1 = .ok (.getfield 21, 3) := by decide +kernel
theorem dX9_sets_4 : decode cX9_sets 4 = .ok (.iload_n 1, 1) := by decide +kernel
theorem dX9_sets_5 : decode cX9_sets 5 = .ok (.invokevirtual 82, 3) := by decide +kernel
theorem dX9_sets_8 : decode cX9_sets 8 = .ok (.ifCond .ne 10, 3) := by decide +kernel
theorem dX9_sets_11 : decode cX9_sets 11 = .ok (.aload_n 0, 1) := by decide +kernel
theorem dX9_sets_12 : decode cX9_sets 12 = .ok (.bipush (-2), 2) := by decide +kernel
theorem dX9_sets_14 : decode cX9_sets 14 = .ok (.invokevirtual 44, 3) := by decide +kernel
theorem dX9_sets_17 : decode cX9_sets 17 = .ok (.ireturn, 1) := by decide +kernel
theorem dX9_sets_18 : decode cX9_sets 18 = .ok (.aload_n 0, 1) := by decide +kernel
theorem dX9_sets_19 : decode cX9_sets 19 = .ok (.getfield 28, 3) := by decide +kernel
theorem dX9_sets_22 : decode cX9_sets 22 = .ok (.aload_n 0, 1) := by decide +kernel
theorem dX9_sets_23 : decode cX9_sets 23 = .ok (.getfield 21, 3) := by decide +kernel
theorem dX9_sets_26 : decode cX9_sets 26 = .ok (.invokevirtual 58, 3) := by decide +kernel
theorem dX9_sets_29 : decode cX9_sets 29 = .ok (.aload_n 0, 1) := by decide +kernel
theorem dX9_sets_30 : decode cX9_sets 30 = .ok (.getfield 21, 3) := by decide +kernel
theorem dX9_sets_33 : decode cX9_sets 33 = .ok (.getfield 65, 3) := by decide +kernel
theorem dX9_sets_36 : decode cX9_sets 36 = .ok (.iload_n 1, 1) := by decide +kernel
theorem dX9_sets_37 : decode cX9_sets 37 = .ok (.aaload, 1) := by decide +kernel
theorem dX9_sets_38 : decode cX9_sets 38 = .ok (.getfield 69, 3) := by decide +kernel
theorem dX9_sets_41 : decode cX9_sets 41 = .ok (.astore_n 2, 1) := by decide +kernel
theorem dX9_sets_42 : decode cX9_sets 42 = .ok (.aload_n 2, 1) := by decide +kernel
theorem dX9_sets_43 : decode cX9_sets 43 = .ok (.getfield 48, 3) := by decide +kernel
theorem dX9_sets_46 : decode cX9_sets 46 = .ok (.istore_n 3, 1) := by decide +kernel
theorem dX9_sets_47 : decode cX9_sets 47 = .ok (.aload_n 2, 1) := by decide +kernel
theorem dX9_sets_48 : decode cX9_sets 48 = .ok (.aload_n 0, 1) := by decide +kernel
theorem dX9_sets_49 : decode cX9_sets 49 = .ok (.getfield 14, 3) := by decide +kernel
theorem dX9_sets_52 : decode cX9_sets 52 = .ok (.invokevirtual 85, 3) := by decide +kernel
theorem dX9_sets_55 : decode cX9_sets 55 = .ok (.ifCond .eq 11, 3) := by decide +kernel
theorem dX9_sets_58 : decode cX9_sets 58 = .ok (.aload_n 0, 1) := by decide +kernel
theorem dX9_sets_59 : decode cX9_sets 59 = .ok (.iconst 0, 1) := by decide +kernel
theorem dX9_sets_60 : decode cX9_sets 60 = .ok (.putfield 36, 3) := by decide +kernel
theorem dX9_sets_63 : decode cX9_sets 63 = .ok (.goto 24, 3) := by decide +kernel
theorem dX9_sets_66 : decode cX9_sets 66 = .ok (.aload_n 2, 1) := by decide +kernel
theorem dX9_sets_67 : decode cX9_sets 67 = .ok (.aload_n 0, 1) := by decide +kernel
theorem dX9_sets_68 : decode cX9_sets 68 = .ok (.getfield 14, 3) := by decide +kernel
theorem dX9_sets_71 : decode cX9_sets 71 = .ok (.invokevirtual 74, 3) := by decide +kernel
theorem dX9_sets_74 : decode cX9_sets 74 = .ok (.aload_n 0, 1) := by decide +kernel
theorem dX9_sets_75 : decode cX9_sets 75 = .ok (.aload_n 0, 1) := by decide +kernel
theorem dX9_sets_76 : decode cX9_sets 76 = .ok (.getfield 21, 3) := by decide +kernel
theorem dX9_sets_79 : decode cX9_sets 79 = .ok (.iload_n 1, 1) := by decide +kernel
theorem dX9_sets_80 : decode cX9_sets 80 = .ok (.iload_n 1, 1) := by decide +kernel
theorem dX9_sets_81 : decode cX9_sets 81 = .ok (.invokevirtual 78, 3) := by decide +kernel
theorem dX9_sets_84 : decode cX9_sets 84 = .ok (.putfield 36, 3) := by decide +kernel
theorem dX9_sets_87 : decode cX9_sets 87 = .ok (.iload_n 3, 1) := by decide +kernel
theorem dX9_sets_88 : decode cX9_sets 88 = .ok (.ireturn, 1) := by decide +kernel
theorem dX9_drops_0 : decode cX9_drops 0 = .ok (.aload_n 0, 1) := by decide +kernel
theorem dX9_drops_1 : decode cX9_drops 1 = .ok (.getfield 21, 3) := by decide +kernel
theorem dX9_drops_4 : decode cX9_drops 4 = .ok (.iload_n 1, 1) := by decide +kernel
theorem dX9_drops_5 : decode cX9_drops 5 = .ok (.invokevirtual 82, 3) := by decide +kernel
theorem dX9_drops_8 : decode cX9_drops 8 = .ok (.ifCond .ne 10, 3) := by decide +kernel
theorem dX9_drops_11 : decode cX9_drops 11 = .ok (.aload_n 0, 1) := by decide +kernel
theorem dX9_drops_12 : decode cX9_drops 12 = .ok (.bipush (-2), 2) := by decide +kernel
theorem dX9_drops_14 : decode cX9_drops 14 = .ok (.invokevirtual 44, 3) := by decide +kernel
theorem dX9_drops_17 : decode cX9_drops 17 = .ok (.ireturn, 1) := by decide +kernel
theorem dX9_drops_18 : decode cX9_drops 18 = .ok (.aload_n 0, 1) := by decide +kernel
theorem dX9_drops_19 : decode cX9_drops 19 = .ok (.getfield 28, 3) := by decide +kernel
theorem dX9_drops_22 : decode cX9_drops 22 = .ok (.aload_n 0, 1) := by decide +kernel
theorem dX9_drops_23 : decode cX9_drops 23 = .ok (.getfield 21, 3) := by decide +kernel
theorem dX9_drops_26 : decode cX9_drops 26 = .ok (.invokevirtual 58, 3) := by decide +kernel
theorem dX9_drops_29 : decode cX9_drops 29 = .ok (.aload_n 0, 1) := by decide +kernel
theorem dX9_drops_30 : decode cX9_drops 30 = .ok (.getfield 21, 3) := by decide +kernel
theorem dX9_drops_33 : decode cX9_drops 33 = .ok (.iload_n 1, 1) := by decide +kernel
theorem dX9_drops_34 : decode cX9_drops 34 = .ok (.invokevirtual 89, 3) := by decide +kernel
theorem dX9_drops_37 : decode cX9_drops 37 = .ok (.aload_n 0, 1) := by decide +kernel
theorem dX9_drops_38 : decode cX9_drops 38 = .ok (.aload_n 0, 1) := by decide +kernel
theorem dX9_drops_39 : decode cX9_drops 39 = .ok (.getfield 21, 3) := by decide +kernel
theorem dX9_drops_42 : decode cX9_drops 42 = .ok (.iload_n 1, 1) := by decide +kernel
theorem dX9_drops_43 : decode cX9_drops 43 = .ok (.iload_n 1, 1) := by decide +kernel
theorem dX9_drops_44 : decode cX9_drops 44 = .ok (.invokevirtual 78, 3) := by decide +kernel
theorem dX9_drops_47 : decode cX9_drops 47 = .ok (.putfield 36, 3) := by decide +kernel
theorem dX9_drops_50 : decode cX9_drops 50 = .ok (.aload_n 0, 1) := by decide +kernel
theorem dX9_drops_51 : decode cX9_drops 51 = .ok (.getfield 21, 3) := by decide +kernel
theorem dX9_drops_54 : decode cX9_drops 54 = .ok (.getfield 55, 3) := by decide +kernel
theorem dX9_drops_57 : decode cX9_drops 57 = .ok (.ireturn, 1) := by decide +kernel
theorem dX9_puts_0 : decode cX9_puts 0 = .ok (.aload_n 0, 1) := by decide +kernel
theorem dX9_puts_1 : decode cX9_puts 1 = .ok (.getfield 21, 3) := by decide +kernel
theorem dX9_puts_4 : decode cX9_puts 4 = .ok (.iload_n 1, 1) := by decide +kernel
theorem dX9_puts_5 : decode cX9_puts 5 = .ok (.invokevirtual 82, 3) := by decide +kernel
theorem dX9_puts_8 : decode cX9_puts 8 = .ok (.ifCond .eq 33, 3) := by decide +kernel
theorem dX9_puts_11 : decode cX9_puts 11 = .ok (.iload_n 2, 1) := by decide +kernel
theorem dX9_puts_12 : decode cX9_puts 12 = .ok (.ifCond .lt 29, 3) := by decide +kernel
theorem dX9_puts_15 : decode cX9_puts 15 = .ok (.iload_n 2, 1) := by decide +kernel
theorem dX9_puts_16 : decode cX9_puts 16 = .ok (.aload_n 0, 1) := by decide +kernel
theorem dX9_puts_17 : decode cX9_puts 17 = .ok (.getfield 21, 3) := by decide +kernel
theorem dX9_puts_20 : decode cX9_puts 20 = .ok (.getfield 65, 3) := by decide +kernel
theorem dX9_puts_23 : decode cX9_puts 23 = .ok (.iload_n 1, 1) := by decide +kernel
theorem dX9_puts_24 : decode cX9_puts 24 = .ok (.aaload, 1) := by decide +kernel
theorem dX9_puts_25 : decode cX9_puts 25 = .ok (.getfield 69, 3) := by decide +kernel
theorem dX9_puts_28 : decode cX9_puts 28 = .ok (.getfield 48, 3) := by decide +kernel
theorem dX9_puts_31 : decode cX9_puts 31 = .ok (.if_icmp .gt 10, 3) := by decide +kernel
theorem dX9_puts_34 : decode cX9_puts 34 = .ok (.iload_n 3, 1) := by decide +kernel
theorem dX9_puts_35 : decode cX9_puts 35 = .ok (.invokestatic 40, 3) := by decide +kernel
theorem dX9_puts_38 : decode cX9_puts 38 = .ok (.ifCond .ne 10, 3) := by decide +kernel
theorem dX9_puts_41 : decode cX9_puts 41 = .ok (.aload_n 0, 1) := by decide +kernel
theorem dX9_puts_42 : decode cX9_puts 42 = .ok (.bipush (-2), 2) := by decide +kernel
theorem dX9_puts_44 : decode cX9_puts 44 = .ok (.invokevirtual 44, 3) := by decide +kernel
theorem dX9_puts_47 : decode cX9_puts 47 = .ok (.ireturn, 1) := by decide +kernel
theorem dX9_puts_48 : decode cX9_puts 48 = .ok (.aload_n 0, 1) := by decide +kernel
theorem dX9_puts_49 : decode cX9_puts 49 = .ok (.getfield 21, 3) := by decide +kernel
theorem dX9_puts_52 : decode cX9_puts 52 = .ok (.getfield 65, 3) := by decide +kernel
theorem dX9_puts_55 : decode cX9_puts 55 = .ok (.iload_n 1, 1) := by decide +kernel
theorem dX9_puts_56 : decode cX9_puts 56 = .ok (.aaload, 1) := by decide +kernel
theorem dX9_puts_57 : decode cX9_puts 57 = .ok (.getfield 69, 3) := by decide +kernel
theorem dX9_puts_60 : decode cX9_puts 60 = .ok (.astore 4, 2) := by decide +kernel
theorem dX9_puts_62 : decode cX9_puts 62 = .ok (.aload 4, 2) := by decide +kernel
theorem dX9_puts_64 : decode cX9_puts 64 = .ok (.getfield 48, 3) := by decide +kernel
theorem dX9_puts_67 : decode cX9_puts 67 = .ok (.bipush 30, 2) := by decide +kernel
theorem dX9_puts_69 : decode cX9_puts 69 = .ok (.if_icmp .lt 10, 3) := by decide +kernel
theorem dX9_puts_72 : decode cX9_puts 72 = .ok (.aload_n 0, 1) := by decide +kernel
theorem dX9_puts_73 : decode cX9_puts 73 = .ok (.bipush (-4), 2) := by decide +kernel
theorem dX9_puts_75 : decode cX9_puts 75 = .ok (.invokevirtual 44, 3) := by decide +kernel
theorem dX9_puts_78 : decode cX9_puts 78 = .ok (.ireturn, 1) := by decide +kernel
theorem dX9_puts_79 : decode cX9_puts 79 = .ok (.aload_n 0, 1) := by decide +kernel
theorem dX9_puts_80 : decode cX9_puts 80 = .ok (.getfield 28, 3) := by decide +kernel
theorem dX9_puts_83 : decode cX9_puts 83 = .ok (.aload_n 0, 1) := by decide +kernel
theorem dX9_puts_84 : decode cX9_puts 84 = .ok (.getfield 21, 3) := by decide +kernel
theorem dX9_puts_87 : decode cX9_puts 87 = .ok (.invokevirtual 58, 3) := by decide +kernel
theorem dX9_puts_90 : decode cX9_puts 90 = .ok (.aload 4, 2) := by decide +kernel
theorem dX9_puts_92 : decode cX9_puts 92 = .ok (.iload_n 2, 1) := by decide +kernel
theorem dX9_puts_93 : decode cX9_puts 93 = .ok (.iload_n 3, 1) := by decide +kernel
theorem dX9_puts_94 : decode cX9_puts 94 = .ok (.invokevirtual 51, 3) := by decide +kernel
theorem dX9_puts_97 : decode cX9_puts 97 = .ok (.aload_n 0, 1) := by decide +kernel
theorem dX9_puts_98 : decode cX9_puts 98 = .ok (.aload_n 0, 1) := by decide +kernel
theorem dX9_puts_99 : decode cX9_puts 99 = .ok (.getfield 21, 3) := by decide +kernel
theorem dX9_puts_102 : decode cX9_puts 102 = .ok (.iload_n 1, 1) := by decide +kernel
theorem dX9_puts_103 : decode cX9_puts 103 = .ok (.iload_n 1, 1) := by decide +kernel
theorem dX9_puts_104 : decode cX9_puts 104 = .ok (.invokevirtual 78, 3) := by decide +kernel
theorem dX9_puts_107 : decode cX9_puts 107 = .ok (.putfield 36, 3) := by decide +kernel
theorem dX9_puts_110 : decode cX9_puts 110 = .ok (.aload 4, 2) := by decide +kernel
theorem dX9_puts_112 : decode cX9_puts 112 = .ok (.getfield 48, 3) := by decide +kernel
theorem dX9_puts_115 : decode cX9_puts 115 = .ok (.ireturn, 1) := by decide +kernel
theorem dX9_erases_0 : decode cX9_erases 0 = .ok (.aload_n 0, 1) := by decide +kernel
theorem dX9_erases_1 : decode cX9_erases 1 = .ok (.getfield 21, 3) := by decide +kernel
theorem dX9_erases_4 : decode cX9_erases 4 = .ok (.iload_n 1, 1) := by decide +kernel
theorem dX9_erases_5 : decode cX9_erases 5 = .ok (.iload_n 2, 1) := by decide +kernel
theorem dX9_erases_6 : decode cX9_erases 6 = .ok (.invokevirtual 92, 3) := by decide +kernel
theorem dX9_erases_9 : decode cX9_erases 9 = .ok (.ifCond .ne 10, 3) := by decide +kernel
theorem dX9_erases_12 : decode cX9_erases 12 = .ok (.aload_n 0, 1) := by decide +kernel
theorem dX9_erases_13 : decode cX9_erases 13 = .ok (.bipush (-2), 2) := by decide +kernel
theorem dX9_erases_15 : decode cX9_erases 15 = .ok (.invokevirtual 44, 3) := by decide +kernel
theorem dX9_erases_18 : decode cX9_erases 18 = .ok (.ireturn, 1) := by decide +kernel
theorem dX9_erases_19 : decode cX9_erases 19 = .ok (.aload_n 0, 1) := by decide +kernel
theorem dX9_erases_20 : decode cX9_erases 20 = .ok (.getfield 28, 3) := by decide +kernel
theorem dX9_erases_23 : decode cX9_erases 23 = .ok (.aload_n 0, 1) := by decide +kernel
theorem dX9_erases_24 : decode cX9_erases 24 = .ok (.getfield 21, 3) := by decide +kernel
theorem dX9_erases_27 : decode cX9_erases 27 = .ok (.invokevirtual 58, 3) := by decide +kernel
theorem dX9_erases_30 : decode cX9_erases 30 = .ok (.aload_n 0, 1) := by decide +kernel
theorem dX9_erases_31 : decode cX9_erases 31 = .ok (.getfield 21, 3) := by decide +kernel
theorem dX9_erases_34 : decode cX9_erases 34 = .ok (.getfield 65, 3) := by decide +kernel
theorem dX9_erases_37 : decode cX9_erases 37 = .ok (.iload_n 1, 1) := by decide +kernel
theorem dX9_erases_38 : decode cX9_erases 38 = .ok (.aaload, 1) := by decide +kernel
theorem dX9_erases_39 : decode cX9_erases 39 = .ok (.getfield 69, 3) := by decide +kernel
theorem dX9_erases_42 : decode cX9_erases 42 = .ok (.astore_n 3, 1) := by decide +kernel
theorem dX9_erases_43 : decode cX9_erases 43 = .ok (.aload_n 3, 1) := by decide +kernel
theorem dX9_erases_44 : decode cX9_erases 44 = .ok (.iload_n 2, 1) := by decide +kernel
theorem dX9_erases_45 : decode cX9_erases 45 = .ok (.invokevirtual 96, 3) := by decide +kernel
theorem dX9_erases_48 : decode cX9_erases 48 = .ok (.istore 4, 2) := by decide +kernel
theorem dX9_erases_50 : decode cX9_erases 50 = .ok (.aload_n 3, 1) := by decide +kernel
theorem dX9_erases_51 : decode cX9_erases 51 = .ok (.iload_n 2, 1) := by decide +kernel
theorem dX9_erases_52 : decode cX9_erases 52 = .ok (.invokevirtual 99, 3) := by decide +kernel
theorem dX9_erases_55 : decode cX9_erases 55 = .ok (.aload_n 0, 1) := by decide +kernel
theorem dX9_erases_56 : decode cX9_erases 56 = .ok (.aload_n 0, 1) := by decide +kernel
theorem dX9_erases_57 : decode cX9_erases 57 = .ok (.getfield 21, 3) := by decide +kernel
theorem dX9_erases_60 : decode cX9_erases 60 = .ok (.iload_n 1, 1) := by decide +kernel
theorem dX9_erases_61 : decode cX9_erases 61 = .ok (.iload_n 1, 1) := by decide +kernel
theorem dX9_erases_62 : decode cX9_erases 62 = .ok (.invokevirtual 78, 3) := by decide +kernel
theorem dX9_erases_65 : decode cX9_erases 65 = .ok (.putfield 36, 3) := by decide +kernel
theorem dX9_erases_68 : decode cX9_erases 68 = .ok (.iload 4, 2) := by decide +kernel
theorem dX9_erases_70 : decode cX9_erases 70 = .ok (.ireturn, 1) := by decide +kernel
theorem dX9_splits_0 : decode cX9_splits 0 = .ok (.aload_n 0, 1) := by decide +kernel
theorem dX9_splits_1 : decode cX9_splits 1 = .ok (.getfield 21, 3) := by decide +kernel
theorem dX9_splits_4 : decode cX9_splits 4 = .ok (.iload_n 1, 1) := by decide +kernel
theorem dX9_splits_5 : decode cX9_splits 5 = .ok (.invokevirtual 82, 3) := by decide +kernel
theorem dX9_splits_8 : decode cX9_splits 8 = .ok (.ifCond .eq 26, 3) := by decide +kernel
theorem dX9_splits_11 : decode cX9_splits 11 = .ok (.iload_n 2, 1) := by decide +kernel
theorem dX9_splits_12 : decode cX9_splits 12 = .ok (.ifCond .lt 22, 3) := by decide +kernel
theorem dX9_splits_15 : decode cX9_splits 15 = .ok (.iload_n 2, 1) := by decide +kernel
theorem dX9_splits_16 : decode cX9_splits 16 = .ok (.aload_n 0, 1) := by decide +kernel
theorem dX9_splits_17 : decode cX9_splits 17 = .ok (.getfield 21, 3) := by decide +kernel
theorem dX9_splits_20 : decode cX9_splits 20 = .ok (.getfield 65, 3) := by decide +kernel
theorem dX9_splits_23 : decode cX9_splits 23 = .ok (.iload_n 1, 1) := by decide +kernel
theorem dX9_splits_24 : decode cX9_splits 24 = .ok (.aaload, 1) := by decide +kernel
theorem dX9_splits_25 : decode cX9_splits 25 = .ok (.getfield 69, 3) := by decide +kernel
theorem dX9_splits_28 : decode cX9_splits 28 = .ok (.getfield 48, 3) := by decide +kernel
theorem dX9_splits_31 : decode cX9_splits 31 = .ok (.if_icmp .le 10, 3) := by decide +kernel
theorem dX9_splits_34 : decode cX9_splits 34 = .ok (.aload_n 0, 1) := by decide +kernel
theorem dX9_splits_35 : decode cX9_splits 35 = .ok (.bipush (-2), 2) := by decide +kernel
theorem dX9_splits_37 : decode cX9_splits 37 = .ok (.invokevirtual 44, 3) := by decide +kernel
theorem dX9_splits_40 : decode cX9_splits 40 = .ok (.ireturn, 1) := by decide +kernel
theorem dX9_splits_41 : decode cX9_splits 41 = .ok (.aload_n 0, 1) := by decide +kernel
theorem dX9_splits_42 : decode cX9_splits 42 = .ok (.getfield 21, 3) := by decide +kernel
theorem dX9_splits_45 : decode cX9_splits 45 = .ok (.getfield 55, 3) := by decide +kernel
theorem dX9_splits_48 : decode cX9_splits 48 = .ok (.bipush 10, 2) := by decide +kernel
theorem dX9_splits_50 : decode cX9_splits 50 = .ok (.if_icmp .lt 10, 3) := by decide +kernel
theorem dX9_splits_53 : decode cX9_splits 53 = .ok (.aload_n 0, 1) := by decide +kernel
theorem dX9_splits_54 : decode cX9_splits 54 = .ok (.bipush (-4), 2) := by decide +kernel
theorem dX9_splits_56 : decode cX9_splits 56 = .ok (.invokevirtual 44, 3) := by decide +kernel
theorem dX9_splits_59 : decode cX9_splits 59 = .ok (.ireturn, 1) := by decide +kernel
theorem dX9_splits_60 : decode cX9_splits 60 = .ok (.aload_n 0, 1) := by decide +kernel
theorem dX9_splits_61 : decode cX9_splits 61 = .ok (.getfield 28, 3) := by decide +kernel
theorem dX9_splits_64 : decode cX9_splits 64 = .ok (.aload_n 0, 1) := by decide +kernel
theorem dX9_splits_65 : decode cX9_splits 65 = .ok (.getfield 21, 3) := by decide +kernel
theorem dX9_splits_68 : decode cX9_splits 68 = .ok (.invokevirtual 58, 3) := by decide +kernel
theorem dX9_splits_71 : decode cX9_splits 71 = .ok (.aload_n 0, 1) := by decide +kernel
theorem dX9_splits_72 : decode cX9_splits 72 = .ok (.getfield 21, 3) := by decide +kernel
theorem dX9_splits_75 : decode cX9_splits 75 = .ok (.iload_n 1, 1) := by decide +kernel
theorem dX9_splits_76 : decode cX9_splits 76 = .ok (.iconst 1, 1) := by decide +kernel
theorem dX9_splits_77 : decode cX9_splits 77 = .ok (.iadd, 1) := by decide +kernel
theorem dX9_splits_78 : decode cX9_splits 78 = .ok (.invokevirtual 62, 3) := by decide +kernel
theorem dX9_splits_81 : decode cX9_splits 81 = .ok (.aload_n 0, 1) := by decide +kernel
theorem dX9_splits_82 : decode cX9_splits 82 = .ok (.getfield 21, 3) := by decide +kernel
theorem dX9_splits_85 : decode cX9_splits 85 = .ok (.getfield 65, 3) := by decide +kernel
theorem dX9_splits_88 : decode cX9_splits 88 = .ok (.iload_n 1, 1) := by decide +kernel
theorem dX9_splits_89 : decode cX9_splits 89 = .ok (.aaload, 1) := by decide +kernel
theorem dX9_splits_90 : decode cX9_splits 90 = .ok (.getfield 69, 3) := by decide +kernel
theorem dX9_splits_93 : decode cX9_splits 93 = .ok (.iload_n 2, 1) := by decide +kernel
theorem dX9_splits_94 : decode cX9_splits 94 = .ok (.aload_n 0, 1) := by decide +kernel
theorem dX9_splits_95 : decode cX9_splits 95 = .ok (.getfield 21, 3) := by decide +kernel
theorem dX9_splits_98 : decode cX9_splits 98 = .ok (.getfield 65, 3) := by decide +kernel
theorem dX9_splits_101 : decode cX9_splits 101 = .ok (.iload_n 1, 1) := by decide +kernel
theorem dX9_splits_102 : decode cX9_splits 102 = .ok (.iconst 1, 1) := by decide +kernel
theorem dX9_splits_103 : decode cX9_splits 103 = .ok (.iadd, 1) := by decide +kernel
theorem dX9_splits_104 : decode cX9_splits 104 = .ok (.aaload, 1) := by decide +kernel
theorem dX9_splits_105 : decode cX9_splits 105 = .ok (.getfield 69, 3) := by decide +kernel
theorem dX9_splits_108 : decode cX9_splits 108 = .ok (.invokevirtual 102, 3) := by decide +kernel
theorem dX9_splits_111 : decode cX9_splits 111 = .ok (.aload_n 0, 1) := by decide +kernel
theorem dX9_splits_112 : decode cX9_splits 112 = .ok (.aload_n 0, 1) := by decide +kernel
theorem dX9_splits_113 : decode cX9_splits 113 = .ok (.getfield 21, 3) := by decide +kernel
theorem dX9_splits_116 : decode cX9_splits 116 = .ok (.iload_n 1, 1) := by decide +kernel
theorem dX9_splits_117 : decode cX9_splits 117 = .ok (.iload_n 1, 1) := by decide +kernel
theorem dX9_splits_118 : decode cX9_splits 118 = .ok (.iconst 1, 1) := by decide +kernel
theorem dX9_splits_119 : decode cX9_splits 119 = .ok (.iadd, 1) := by decide +kernel
theorem dX9_splits_120 : decode cX9_splits 120 = .ok (.invokevirtual 78, 3) := by decide +kernel
theorem dX9_splits_123 : decode cX9_splits 123 = .ok (.putfield 36, 3) := by decide +kernel
theorem dX9_splits_126 : decode cX9_splits 126 = .ok (.aload_n 0, 1) := by decide +kernel
theorem dX9_splits_127 : decode cX9_splits 127 = .ok (.getfield 21, 3) := by decide +kernel
theorem dX9_splits_130 : decode cX9_splits 130 = .ok (.getfield 55, 3) := by decide +kernel
theorem dX9_splits_133 : decode cX9_splits 133 = .ok (.ireturn, 1) := by decide +kernel
theorem dX9_word_0 : decode cX9_word 0 = .ok (.aload_n 0, 1) := by decide +kernel
theorem dX9_word_1 : decode cX9_word 1 = .ok (.getfield 14, 3) := by decide +kernel
theorem dX9_word_4 : decode cX9_word 4 = .ok (.invokestatic 106, 3) := by decide +kernel
theorem dX9_word_7 : decode cX9_word 7 = .ok (.ifCond .eq 28, 3) := by decide +kernel
theorem dX9_word_10 : decode cX9_word 10 = .ok (.aload_n 0, 1) := by decide +kernel
theorem dX9_word_11 : decode cX9_word 11 = .ok (.getfield 21, 3) := by decide +kernel
theorem dX9_word_14 : decode cX9_word 14 = .ok (.getfield 109, 3) := by decide +kernel
theorem dX9_word_17 : decode cX9_word 17 = .ok (.aload_n 0, 1) := by decide +kernel
theorem dX9_word_18 : decode cX9_word 18 = .ok (.getfield 14, 3) := by decide +kernel
theorem dX9_word_21 : decode cX9_word 21 = .ok (.iconst 0, 1) := by decide +kernel
theorem dX9_word_22 : decode cX9_word 22 = .ok (.aload_n 0, 1) := by decide +kernel
theorem dX9_word_23 : decode cX9_word 23 = .ok (.getfield 14, 3) := by decide +kernel
theorem dX9_word_26 : decode cX9_word 26 = .ok (.getfield 48, 3) := by decide +kernel
theorem dX9_word_29 : decode cX9_word 29 = .ok (.invokevirtual 113, 3) := by decide +kernel
theorem dX9_word_32 : decode cX9_word 32 = .ok (.ifCond .eq 10, 3) := by decide +kernel
theorem dX9_word_35 : decode cX9_word 35 = .ok (.aload_n 0, 1) := by decide +kernel
theorem dX9_word_36 : decode cX9_word 36 = .ok (.bipush (-3), 2) := by decide +kernel
theorem dX9_word_38 : decode cX9_word 38 = .ok (.invokevirtual 44, 3) := by decide +kernel
theorem dX9_word_41 : decode cX9_word 41 = .ok (.ireturn, 1) := by decide +kernel
theorem dX9_word_42 : decode cX9_word 42 = .ok (.aload_n 0, 1) := by decide +kernel
theorem dX9_word_43 : decode cX9_word 43 = .ok (.getfield 21, 3) := by decide +kernel
theorem dX9_word_46 : decode cX9_word 46 = .ok (.getfield 109, 3) := by decide +kernel
theorem dX9_word_49 : decode cX9_word 49 = .ok (.getfield 119, 3) := by decide +kernel
theorem dX9_word_52 : decode cX9_word 52 = .ok (.iconst 4, 1) := by decide +kernel
theorem dX9_word_53 : decode cX9_word 53 = .ok (.if_icmp .lt 10, 3) := by decide +kernel
theorem dX9_word_56 : decode cX9_word 56 = .ok (.aload_n 0, 1) := by decide +kernel
theorem dX9_word_57 : decode cX9_word 57 = .ok (.bipush (-4), 2) := by decide +kernel
theorem dX9_word_59 : decode cX9_word 59 = .ok (.invokevirtual 44, 3) := by decide +kernel
theorem dX9_word_62 : decode cX9_word 62 = .ok (.ireturn, 1) := by decide +kernel
theorem dX9_word_63 : decode cX9_word 63 = .ok (.aload_n 0, 1) := by decide +kernel
theorem dX9_word_64 : decode cX9_word 64 = .ok (.getfield 28, 3) := by decide +kernel
theorem dX9_word_67 : decode cX9_word 67 = .ok (.aload_n 0, 1) := by decide +kernel
theorem dX9_word_68 : decode cX9_word 68 = .ok (.getfield 21, 3) := by decide +kernel
theorem dX9_word_71 : decode cX9_word 71 = .ok (.invokevirtual 58, 3) := by decide +kernel
theorem dX9_word_74 : decode cX9_word 74 = .ok (.aload_n 0, 1) := by decide +kernel
theorem dX9_word_75 : decode cX9_word 75 = .ok (.getfield 21, 3) := by decide +kernel
theorem dX9_word_78 : decode cX9_word 78 = .ok (.getfield 109, 3) := by decide +kernel
theorem dX9_word_81 : decode cX9_word 81 = .ok (.getfield 119, 3) := by decide +kernel
theorem dX9_word_84 : decode cX9_word 84 = .ok (.istore_n 1, 1) := by decide +kernel
theorem dX9_word_85 : decode cX9_word 85 = .ok (.aload_n 0, 1) := by decide +kernel
theorem dX9_word_86 : decode cX9_word 86 = .ok (.getfield 21, 3) := by decide +kernel
theorem dX9_word_89 : decode cX9_word 89 = .ok (.getfield 109, 3) := by decide +kernel
theorem dX9_word_92 : decode cX9_word 92 = .ok (.aload_n 0, 1) := by decide +kernel
theorem dX9_word_93 : decode cX9_word 93 = .ok (.getfield 14, 3) := by decide +kernel
theorem dX9_word_96 : decode cX9_word 96 = .ok (.invokevirtual 120, 3) := by decide +kernel
theorem dX9_word_99 : decode cX9_word 99 = .ok (.aload_n 0, 1) := by decide +kernel
theorem dX9_word_100 : decode cX9_word 100 = .ok (.aload_n 0, 1) := by decide +kernel
theorem dX9_word_101 : decode cX9_word 101 = .ok (.getfield 21, 3) := by decide +kernel
theorem dX9_word_104 : decode cX9_word 104 = .ok (.iconst 0, 1) := by decide +kernel
theorem dX9_word_105 : decode cX9_word 105 = .ok (.aload_n 0, 1) := by decide +kernel
theorem dX9_word_106 : decode cX9_word 106 = .ok (.getfield 21, 3) := by decide +kernel
theorem dX9_word_109 : decode cX9_word 109 = .ok (.getfield 55, 3) := by decide +kernel
theorem dX9_word_112 : decode cX9_word 112 = .ok (.invokevirtual 78, 3) := by decide +kernel
theorem dX9_word_115 : decode cX9_word 115 = .ok (.putfield 36, 3) := by decide +kernel
theorem dX9_word_118 : decode cX9_word 118 = .ok (.iload_n 1, 1) := by decide +kernel
theorem dX9_word_119 : decode cX9_word 119 = .ok (.ireturn, 1) := by decide +kernel
theorem dX9_unword_0 : decode cX9_unword 0 = .ok (.iload_n 1, 1) := by decide +kernel
theorem dX9_unword_1 : decode cX9_unword 1 = .ok (.ifCond .lt 9, 3) := by decide +kernel
theorem dX9_unword_4 : decode cX9_unword 4 = .ok (.iload_n 1, 1) := by decide +kernel
theorem dX9_unword_5 : decode cX9_unword 5 = .ok (.bipush 25, 2) := by decide +kernel
theorem dX9_unword_7 : decode cX9_unword 7 = .ok (.if_icmp .le 10, 3) := by decide +kernel
theorem dX9_unword_10 : decode cX9_unword 10 = .ok (.aload_n 0, 1) := by decide +kernel
theorem dX9_unword_11 : decode cX9_unword 11 = .ok (.bipush (-2), 2) := by decide +kernel
theorem dX9_unword_13 : decode cX9_unword 13 = .ok (.invokevirtual 44, 3) := by decide +kernel
theorem dX9_unword_16 : decode cX9_unword 16 = .ok (.ireturn, 1) := by decide +kernel
theorem dX9_unword_17 : decode cX9_unword 17 = .ok (.aload_n 0, 1) := by decide +kernel
theorem dX9_unword_18 : decode cX9_unword 18 = .ok (.getfield 28, 3) := by decide +kernel
theorem dX9_unword_21 : decode cX9_unword 21 = .ok (.aload_n 0, 1) := by decide +kernel
theorem dX9_unword_22 : decode cX9_unword 22 = .ok (.getfield 21, 3) := by decide +kernel
theorem dX9_unword_25 : decode cX9_unword 25 = .ok (.invokevirtual 58, 3) := by decide +kernel
theorem dX9_unword_28 : decode cX9_unword 28 = .ok (.aload_n 0, 1) := by decide +kernel
theorem dX9_unword_29 : decode cX9_unword 29 = .ok (.getfield 21, 3) := by decide +kernel
theorem dX9_unword_32 : decode cX9_unword 32 = .ok (.getfield 109, 3) := by decide +kernel
theorem dX9_unword_35 : decode cX9_unword 35 = .ok (.bipush 97, 2) := by decide +kernel
theorem dX9_unword_37 : decode cX9_unword 37 = .ok (.iload_n 1, 1) := by decide +kernel
theorem dX9_unword_38 : decode cX9_unword 38 = .ok (.iadd, 1) := by decide +kernel
theorem dX9_unword_39 : decode cX9_unword 39 = .ok (.invokevirtual 123, 3) := by decide +kernel
theorem dX9_unword_42 : decode cX9_unword 42 = .ok (.istore_n 2, 1) := by decide +kernel
theorem dX9_unword_43 : decode cX9_unword 43 = .ok (.aload_n 0, 1) := by decide +kernel
theorem dX9_unword_44 : decode cX9_unword 44 = .ok (.aload_n 0, 1) := by decide +kernel
theorem dX9_unword_45 : decode cX9_unword 45 = .ok (.getfield 21, 3) := by decide +kernel
theorem dX9_unword_48 : decode cX9_unword 48 = .ok (.iconst 0, 1) := by decide +kernel
theorem dX9_unword_49 : decode cX9_unword 49 = .ok (.aload_n 0, 1) := by decide +kernel
theorem dX9_unword_50 : decode cX9_unword 50 = .ok (.getfield 21, 3) := by decide +kernel
theorem dX9_unword_53 : decode cX9_unword 53 = .ok (.getfield 55, 3) := by decide +kernel
theorem dX9_unword_56 : decode cX9_unword 56 = .ok (.invokevirtual 78, 3) := by decide +kernel
theorem dX9_unword_59 : decode cX9_unword 59 = .ok (.putfield 36, 3) := by decide +kernel
theorem dX9_unword_62 : decode cX9_unword 62 = .ok (.iload_n 2, 1) := by decide +kernel
theorem dX9_unword_63 : decode cX9_unword 63 = .ok (.ireturn, 1) := by decide +kernel
theorem dX9_rule_0 : decode cX9_rule 0 = .ok (.iload_n 1, 1) := by decide +kernel
theorem dX9_rule_1 : decode cX9_rule 1 = .ok (.iconst (-1), 1) := by decide +kernel
theorem dX9_rule_2 : decode cX9_rule 2 = .ok (.if_icmp .lt 23, 3) := by decide +kernel
theorem dX9_rule_5 : decode cX9_rule 5 = .ok (.iload_n 1, 1) := by decide +kernel
theorem dX9_rule_6 : decode cX9_rule 6 = .ok (.bipush 8, 2) := by decide +kernel
theorem dX9_rule_8 : decode cX9_rule 8 = .ok (.if_icmp .ge 17, 3) := by decide +kernel
theorem dX9_rule_11 : decode cX9_rule 11 = .ok (.iload_n 2, 1) := by decide +kernel
theorem dX9_rule_12 : decode cX9_rule 12 = .ok (.iconst (-1), 1) := by decide +kernel
theorem dX9_rule_13 : decode cX9_rule 13 = .ok (.if_icmp .lt 12, 3) := by decide +kernel
theorem dX9_rule_16 : decode cX9_rule 16 = .ok (.iload_n 2, 1) := by decide +kernel
theorem dX9_rule_17 : decode cX9_rule 17 = .ok (.iconst 3, 1) := by decide +kernel
theorem dX9_rule_18 : decode cX9_rule 18 = .ok (.if_icmp .ge 7, 3) := by decide +kernel
theorem dX9_rule_21 : decode cX9_rule 21 = .ok (.iconst 1, 1) := by decide +kernel
theorem dX9_rule_22 : decode cX9_rule 22 = .ok (.goto 4, 3) := by decide +kernel
theorem dX9_rule_25 : decode cX9_rule 25 = .ok (.iconst 0, 1) := by decide +kernel
theorem dX9_rule_26 : decode cX9_rule 26 = .ok (.istore 4, 2) := by decide +kernel
theorem dX9_rule_28 : decode cX9_rule 28 = .ok (.iload 4, 2) := by decide +kernel
theorem dX9_rule_30 : decode cX9_rule 30 = .ok (.ifCond .eq 13, 3) := by decide +kernel
theorem dX9_rule_33 : decode cX9_rule 33 = .ok (.iload_n 3, 1) := by decide +kernel
theorem dX9_rule_34 : decode cX9_rule 34 = .ok (.ifCond .lt 9, 3) := by decide +kernel
theorem dX9_rule_37 : decode cX9_rule 37 = .ok (.iload_n 3, 1) := by decide +kernel
theorem dX9_rule_38 : decode cX9_rule 38 = .ok (.bipush 99, 2) := by decide +kernel
theorem dX9_rule_40 : decode cX9_rule 40 = .ok (.if_icmp .le 10, 3) := by decide +kernel
theorem dX9_rule_43 : decode cX9_rule 43 = .ok (.aload_n 0, 1) := by decide +kernel
theorem dX9_rule_44 : decode cX9_rule 44 = .ok (.bipush (-2), 2) := by decide +kernel
theorem dX9_rule_46 : decode cX9_rule 46 = .ok (.invokevirtual 44, 3) := by decide +kernel
theorem dX9_rule_49 : decode cX9_rule 49 = .ok (.ireturn, 1) := by decide +kernel
theorem dX9_rule_50 : decode cX9_rule 50 = .ok (.aload_n 0, 1) := by decide +kernel
theorem dX9_rule_51 : decode cX9_rule 51 = .ok (.getfield 21, 3) := by decide +kernel
theorem dX9_rule_54 : decode cX9_rule 54 = .ok (.getfield 126, 3) := by decide +kernel
theorem dX9_rule_57 : decode cX9_rule 57 = .ok (.getfield 130, 3) := by decide +kernel
theorem dX9_rule_60 : decode cX9_rule 60 = .ok (.bipush 12, 2) := by decide +kernel
theorem dX9_rule_62 : decode cX9_rule 62 = .ok (.if_icmp .lt 10, 3) := by decide +kernel
theorem dX9_rule_65 : decode cX9_rule 65 = .ok (.aload_n 0, 1) := by decide +kernel
theorem dX9_rule_66 : decode cX9_rule 66 = .ok (.bipush (-4), 2) := by decide +kernel
theorem dX9_rule_68 : decode cX9_rule 68 = .ok (.invokevirtual 44, 3) := by decide +kernel
theorem dX9_rule_71 : decode cX9_rule 71 = .ok (.ireturn, 1) := by decide +kernel
theorem dX9_rule_72 : decode cX9_rule 72 = .ok (.aload_n 0, 1) := by decide +kernel
theorem dX9_rule_73 : decode cX9_rule 73 = .ok (.getfield 28, 3) := by decide +kernel
theorem dX9_rule_76 : decode cX9_rule 76 = .ok (.aload_n 0, 1) := by decide +kernel
theorem dX9_rule_77 : decode cX9_rule 77 = .ok (.getfield 21, 3) := by decide +kernel
theorem dX9_rule_80 : decode cX9_rule 80 = .ok (.invokevirtual 58, 3) := by decide +kernel
theorem dX9_rule_83 : decode cX9_rule 83 = .ok (.aload_n 0, 1) := by decide +kernel
theorem dX9_rule_84 : decode cX9_rule 84 = .ok (.getfield 21, 3) := by decide +kernel
theorem dX9_rule_87 : decode cX9_rule 87 = .ok (.getfield 126, 3) := by decide +kernel
theorem dX9_rule_90 : decode cX9_rule 90 = .ok (.getfield 130, 3) := by decide +kernel
theorem dX9_rule_93 : decode cX9_rule 93 = .ok (.istore 5, 2) := by decide +kernel
theorem dX9_rule_95 : decode cX9_rule 95 = .ok (.aload_n 0, 1) := by decide +kernel
theorem dX9_rule_96 : decode cX9_rule 96 = .ok (.getfield 21, 3) := by decide +kernel
theorem dX9_rule_99 : decode cX9_rule 99 = .ok (.getfield 126, 3) := by decide +kernel
theorem dX9_rule_102 : decode cX9_rule 102 = .ok (.iload_n 1, 1) := by decide +kernel
theorem dX9_rule_103 : decode cX9_rule 103 = .ok (.iload_n 2, 1) := by decide +kernel
theorem dX9_rule_104 : decode cX9_rule 104 = .ok (.iload_n 3, 1) := by decide +kernel
theorem dX9_rule_105 : decode cX9_rule 105 = .ok (.invokevirtual 133, 3) := by decide +kernel
theorem dX9_rule_108 : decode cX9_rule 108 = .ok (.iload 5, 2) := by decide +kernel
theorem dX9_rule_110 : decode cX9_rule 110 = .ok (.ireturn, 1) := by decide +kernel
theorem dX9_at_0 : decode cX9_at 0 = .ok (.aload_n 0, 1) := by decide +kernel
theorem dX9_at_1 : decode cX9_at 1 = .ok (.getfield 21, 3) := by decide +kernel
theorem dX9_at_4 : decode cX9_at 4 = .ok (.iload_n 1, 1) := by decide +kernel
theorem dX9_at_5 : decode cX9_at 5 = .ok (.iload_n 2, 1) := by decide +kernel
theorem dX9_at_6 : decode cX9_at 6 = .ok (.invokevirtual 92, 3) := by decide +kernel
theorem dX9_at_9 : decode cX9_at 9 = .ok (.ifCond .ne 10, 3) := by decide +kernel
theorem dX9_at_12 : decode cX9_at 12 = .ok (.aload_n 0, 1) := by decide +kernel
theorem dX9_at_13 : decode cX9_at 13 = .ok (.bipush (-2), 2) := by decide +kernel
theorem dX9_at_15 : decode cX9_at 15 = .ok (.invokevirtual 44, 3) := by decide +kernel
theorem dX9_at_18 : decode cX9_at 18 = .ok (.ireturn, 1) := by decide +kernel
theorem dX9_at_19 : decode cX9_at 19 = .ok (.aload_n 0, 1) := by decide +kernel
theorem dX9_at_20 : decode cX9_at 20 = .ok (.getfield 21, 3) := by decide +kernel
theorem dX9_at_23 : decode cX9_at 23 = .ok (.getfield 65, 3) := by decide +kernel
theorem dX9_at_26 : decode cX9_at 26 = .ok (.iload_n 1, 1) := by decide +kernel
theorem dX9_at_27 : decode cX9_at 27 = .ok (.aaload, 1) := by decide +kernel
theorem dX9_at_28 : decode cX9_at 28 = .ok (.astore 4, 2) := by decide +kernel
theorem dX9_at_30 : decode cX9_at 30 = .ok (.iload_n 3, 1) := by decide +kernel
theorem dX9_at_31 : decode cX9_at 31 = .ok (.tableswitch 68 0 2 #[25, 35, 43], 25) := by decide +kernel
theorem dX9_at_56 : decode cX9_at 56 = .ok (.aload 4, 2) := by decide +kernel
theorem dX9_at_58 : decode cX9_at 58 = .ok (.getfield 69, 3) := by decide +kernel
theorem dX9_at_61 : decode cX9_at 61 = .ok (.iload_n 2, 1) := by decide +kernel
theorem dX9_at_62 : decode cX9_at 62 = .ok (.invokevirtual 96, 3) := by decide +kernel
theorem dX9_at_65 : decode cX9_at 65 = .ok (.ireturn, 1) := by decide +kernel
theorem dX9_at_66 : decode cX9_at 66 = .ok (.aload 4, 2) := by decide +kernel
theorem dX9_at_68 : decode cX9_at 68 = .ok (.getfield 136, 3) := by decide +kernel
theorem dX9_at_71 : decode cX9_at 71 = .ok (.iload_n 2, 1) := by decide +kernel
theorem dX9_at_72 : decode cX9_at 72 = .ok (.iaload, 1) := by decide +kernel
theorem dX9_at_73 : decode cX9_at 73 = .ok (.ireturn, 1) := by decide +kernel
theorem dX9_at_74 : decode cX9_at 74 = .ok (.aload_n 0, 1) := by decide +kernel
theorem dX9_at_75 : decode cX9_at 75 = .ok (.getfield 21, 3) := by decide +kernel
theorem dX9_at_78 : decode cX9_at 78 = .ok (.getfield 126, 3) := by decide +kernel
theorem dX9_at_81 : decode cX9_at 81 = .ok (.aload 4, 2) := by decide +kernel
theorem dX9_at_83 : decode cX9_at 83 = .ok (.getfield 136, 3) := by decide +kernel
theorem dX9_at_86 : decode cX9_at 86 = .ok (.iload_n 2, 1) := by decide +kernel
theorem dX9_at_87 : decode cX9_at 87 = .ok (.iaload, 1) := by decide +kernel
theorem dX9_at_88 : decode cX9_at 88 = .ok (.aload 4, 2) := by decide +kernel
theorem dX9_at_90 : decode cX9_at 90 = .ok (.getfield 139, 3) := by decide +kernel
theorem dX9_at_93 : decode cX9_at 93 = .ok (.iload_n 2, 1) := by decide +kernel
theorem dX9_at_94 : decode cX9_at 94 = .ok (.iaload, 1) := by decide +kernel
theorem dX9_at_95 : decode cX9_at 95 = .ok (.invokevirtual 142, 3) := by decide +kernel
theorem dX9_at_98 : decode cX9_at 98 = .ok (.ireturn, 1) := by decide +kernel
theorem dX9_at_99 : decode cX9_at 99 = .ok (.aload_n 0, 1) := by decide +kernel
theorem dX9_at_100 : decode cX9_at 100 = .ok (.bipush (-2), 2) := by decide +kernel
theorem dX9_at_102 : decode cX9_at 102 = .ok (.invokevirtual 44, 3) := by decide +kernel
theorem dX9_at_105 : decode cX9_at 105 = .ok (.ireturn, 1) := by decide +kernel
theorem dX9_of_0 : decode cX9_of 0 = .ok (.aload_n 0, 1) := by decide +kernel
theorem dX9_of_1 : decode cX9_of 1 = .ok (.getfield 21, 3) := by decide +kernel
theorem dX9_of_4 : decode cX9_of 4 = .ok (.iload_n 1, 1) := by decide +kernel
theorem dX9_of_5 : decode cX9_of 5 = .ok (.invokevirtual 82, 3) := by decide +kernel
theorem dX9_of_8 : decode cX9_of 8 = .ok (.ifCond .ne 10, 3) := by decide +kernel
theorem dX9_of_11 : decode cX9_of 11 = .ok (.aload_n 0, 1) := by decide +kernel
theorem dX9_of_12 : decode cX9_of 12 = .ok (.bipush (-2), 2) := by decide +kernel
theorem dX9_of_14 : decode cX9_of 14 = .ok (.invokevirtual 44, 3) := by decide +kernel
theorem dX9_of_17 : decode cX9_of 17 = .ok (.ireturn, 1) := by decide +kernel
theorem dX9_of_18 : decode cX9_of 18 = .ok (.aload_n 0, 1) := by decide +kernel
theorem dX9_of_19 : decode cX9_of 19 = .ok (.getfield 21, 3) := by decide +kernel
theorem dX9_of_22 : decode cX9_of 22 = .ok (.getfield 65, 3) := by decide +kernel
theorem dX9_of_25 : decode cX9_of 25 = .ok (.iload_n 1, 1) := by decide +kernel
theorem dX9_of_26 : decode cX9_of 26 = .ok (.aaload, 1) := by decide +kernel
theorem dX9_of_27 : decode cX9_of 27 = .ok (.astore_n 3, 1) := by decide +kernel
theorem dX9_of_28 : decode cX9_of 28 = .ok (.iload_n 2, 1) := by decide +kernel
theorem dX9_of_29 : decode cX9_of 29 = .ok (.tableswitch 84 0 5 #[39, 47, 52, 60, 68, 76], 39) := by decide +kernel
theorem dX9_of_68 : decode cX9_of 68 = .ok (.aload_n 3, 1) := by decide +kernel
theorem dX9_of_69 : decode cX9_of 69 = .ok (.getfield 69, 3) := by decide +kernel
theorem dX9_of_72 : decode cX9_of 72 = .ok (.getfield 48, 3) := by decide +kernel
