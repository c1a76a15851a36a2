theorem dX10_paintsMarked_89 : decode cX10_paintsMarked 89 = .ok (.imul, 1) := by decide +kernel
theorem dX10_paintsMarked_90 : decode cX10_paintsMarked 90 = .ok (.iload_n 2, 1) := by decide +kernel
theorem dX10_paintsMarked_91 : decode cX10_paintsMarked 91 = .ok (.iadd, 1) := by decide +kernel
theorem dX10_paintsMarked_92 : decode cX10_paintsMarked 92 = .ok (.iconst 1, 1) := by decide +kernel
theorem dX10_paintsMarked_93 : decode cX10_paintsMarked 93 = .ok (.iastore, 1) := by decide +kernel
theorem dX10_paintsMarked_94 : decode cX10_paintsMarked 94 = .ok (.iinc 2 1, 3) := by decide +kernel
theorem dX10_paintsMarked_97 : decode cX10_paintsMarked 97 = .ok (.goto (-57), 3) := by decide +kernel
theorem dX10_paintsMarked_100 : decode cX10_paintsMarked 100 = .ok (.aload_n 0, 1) := by decide +kernel
theorem dX10_paintsMarked_101 : decode cX10_paintsMarked 101 = .ok (.iload_n 1, 1) := by decide +kernel
theorem dX10_paintsMarked_102 : decode cX10_paintsMarked 102 = .ok (.ifCond .eq 7, 3) := by decide +kernel
theorem dX10_paintsMarked_105 : decode cX10_paintsMarked 105 = .ok (.iconst 0, 1) := by decide +kernel
theorem dX10_paintsMarked_106 : decode cX10_paintsMarked 106 = .ok (.goto 7, 3) := by decide +kernel
theorem dX10_paintsMarked_109 : decode cX10_paintsMarked 109 = .ok (.aload_n 0, 1) := by decide +kernel
theorem dX10_paintsMarked_110 : decode cX10_paintsMarked 110 = .ok (.getfield 47, 3) := by decide +kernel
theorem dX10_paintsMarked_113 : decode cX10_paintsMarked 113 = .ok (.putfield 47, 3) := by decide +kernel
theorem dX10_paintsMarked_116 : decode cX10_paintsMarked 116 = .ok (.return_, 1) := by decide +kernel
theorem dX10_paintsLine_0 : decode cX10_paintsLine 0 = .ok (.aload_n 0, 1) := by decide +kernel
theorem dX10_paintsLine_1 : decode cX10_paintsLine 1 = .ok (.getfield 47, 3) := by decide +kernel
theorem dX10_paintsLine_4 : decode cX10_paintsLine 4 = .ok (.ifCond .eq 8, 3) := by decide +kernel
theorem dX10_paintsLine_7 : decode cX10_paintsLine 7 = .ok (.aload_n 0, 1) := by decide +kernel
theorem dX10_paintsLine_8 : decode cX10_paintsLine 8 = .ok (.invokevirtual 104, 3) := by decide +kernel
theorem dX10_paintsLine_11 : decode cX10_paintsLine 11 = .ok (.return_, 1) := by decide +kernel
theorem dX10_paintsLine_12 : decode cX10_paintsLine 12 = .ok (.iconst 0, 1) := by decide +kernel
theorem dX10_paintsLine_13 : decode cX10_paintsLine 13 = .ok (.istore_n 1, 1) := by decide +kernel
theorem dX10_paintsLine_14 : decode cX10_paintsLine 14 = .ok (.aload_n 0, 1) := by decide +kernel
theorem dX10_paintsLine_15 : decode cX10_paintsLine 15 = .ok (.iconst 0, 1) := by decide +kernel
theorem dX10_paintsLine_16 : decode cX10_paintsLine 16 = .ok (.putfield 61, 3) := by decide +kernel
theorem dX10_paintsLine_19 : decode cX10_paintsLine 19 = .ok (.aload_n 0, 1) := by decide +kernel
theorem dX10_paintsLine_20 : decode cX10_paintsLine 20 = .ok (.getfield 61, 3) := by decide +kernel
theorem dX10_paintsLine_23 : decode cX10_paintsLine 23 = .ok (.aload_n 0, 1) := by decide +kernel
theorem dX10_paintsLine_24 : decode cX10_paintsLine 24 = .ok (.getfield 7, 3) := by decide +kernel
theorem dX10_paintsLine_27 : decode cX10_paintsLine 27 = .ok (.iconst 3, 1) := by decide +kernel
theorem dX10_paintsLine_28 : decode cX10_paintsLine 28 = .ok (.aload_n 0, 1) := by decide +kernel
theorem dX10_paintsLine_29 : decode cX10_paintsLine 29 = .ok (.getfield 54, 3) := by decide +kernel
theorem dX10_paintsLine_32 : decode cX10_paintsLine 32 = .ok (.iadd, 1) := by decide +kernel
theorem dX10_paintsLine_33 : decode cX10_paintsLine 33 = .ok (.iaload, 1) := by decide +kernel
theorem dX10_paintsLine_34 : decode cX10_paintsLine 34 = .ok (.if_icmp .ge 57, 3) := by decide +kernel
theorem dX10_paintsLine_37 : decode cX10_paintsLine 37 = .ok (.aload_n 0, 1) := by decide +kernel
theorem dX10_paintsLine_38 : decode cX10_paintsLine 38 = .ok (.invokevirtual 64, 3) := by decide +kernel
theorem dX10_paintsLine_41 : decode cX10_paintsLine 41 = .ok (.lookupswitch 43 #[(0, 27), (3, 36)], 27) := by decide +kernel
theorem dX10_paintsLine_68 : decode cX10_paintsLine 68 = .ok (.aload_n 0, 1) := by decide +kernel
theorem dX10_paintsLine_69 : decode cX10_paintsLine 69 = .ok (.iload_n 1, 1) := by decide +kernel
theorem dX10_paintsLine_70 : decode cX10_paintsLine 70 = .ok (.invokevirtual 107, 3) := by decide +kernel
theorem dX10_paintsLine_73 : decode cX10_paintsLine 73 = .ok (.istore_n 1, 1) := by decide +kernel
theorem dX10_paintsLine_74 : decode cX10_paintsLine 74 = .ok (.goto (-55), 3) := by decide +kernel
theorem dX10_paintsLine_77 : decode cX10_paintsLine 77 = .ok (.aload_n 0, 1) := by decide +kernel
theorem dX10_paintsLine_78 : decode cX10_paintsLine 78 = .ok (.invokevirtual 110, 3) := by decide +kernel
theorem dX10_paintsLine_81 : decode cX10_paintsLine 81 = .ok (.goto (-62), 3) := by decide +kernel
theorem dX10_paintsLine_84 : decode cX10_paintsLine 84 = .ok (.aload_n 0, 1) := by decide +kernel
theorem dX10_paintsLine_85 : decode cX10_paintsLine 85 = .ok (.invokevirtual 113, 3) := by decide +kernel
theorem dX10_paintsLine_88 : decode cX10_paintsLine 88 = .ok (.goto (-69), 3) := by decide +kernel
theorem dX10_paintsLine_91 : decode cX10_paintsLine 91 = .ok (.aload_n 0, 1) := by decide +kernel
theorem dX10_paintsLine_92 : decode cX10_paintsLine 92 = .ok (.iload_n 1, 1) := by decide +kernel
theorem dX10_paintsLine_93 : decode cX10_paintsLine 93 = .ok (.putfield 47, 3) := by decide +kernel
theorem dX10_paintsLine_96 : decode cX10_paintsLine 96 = .ok (.iconst 1, 1) := by decide +kernel
theorem dX10_paintsLine_97 : decode cX10_paintsLine 97 = .ok (.istore_n 2, 1) := by decide +kernel
theorem dX10_paintsLine_98 : decode cX10_paintsLine 98 = .ok (.iload_n 2, 1) := by decide +kernel
theorem dX10_paintsLine_99 : decode cX10_paintsLine 99 = .ok (.aload_n 0, 1) := by decide +kernel
theorem dX10_paintsLine_100 : decode cX10_paintsLine 100 = .ok (.getfield 44, 3) := by decide +kernel
theorem dX10_paintsLine_103 : decode cX10_paintsLine 103 = .ok (.if_icmp .ge 23, 3) := by decide +kernel
theorem dX10_paintsLine_106 : decode cX10_paintsLine 106 = .ok (.aload_n 0, 1) := by decide +kernel
theorem dX10_paintsLine_107 : decode cX10_paintsLine 107 = .ok (.getfield 41, 3) := by decide +kernel
theorem dX10_paintsLine_110 : decode cX10_paintsLine 110 = .ok (.iconst 2, 1) := by decide +kernel
theorem dX10_paintsLine_111 : decode cX10_paintsLine 111 = .ok (.iload_n 2, 1) := by decide +kernel
theorem dX10_paintsLine_112 : decode cX10_paintsLine 112 = .ok (.imul, 1) := by decide +kernel
theorem dX10_paintsLine_113 : decode cX10_paintsLine 113 = .ok (.ishr, 1) := by decide +kernel
theorem dX10_paintsLine_114 : decode cX10_paintsLine 114 = .ok (.iconst 3, 1) := by decide +kernel
theorem dX10_paintsLine_115 : decode cX10_paintsLine 115 = .ok (.iand, 1) := by decide +kernel
theorem dX10_paintsLine_116 : decode cX10_paintsLine 116 = .ok (.iconst 2, 1) := by decide +kernel
theorem dX10_paintsLine_117 : decode cX10_paintsLine 117 = .ok (.if_icmp .eq 9, 3) := by decide +kernel
theorem dX10_paintsLine_120 : decode cX10_paintsLine 120 = .ok (.iinc 2 1, 3) := by decide +kernel
theorem dX10_paintsLine_123 : decode cX10_paintsLine 123 = .ok (.goto (-25), 3) := by decide +kernel
theorem dX10_paintsLine_126 : decode cX10_paintsLine 126 = .ok (.aload_n 0, 1) := by decide +kernel
theorem dX10_paintsLine_127 : decode cX10_paintsLine 127 = .ok (.getfield 44, 3) := by decide +kernel
theorem dX10_paintsLine_130 : decode cX10_paintsLine 130 = .ok (.iload_n 2, 1) := by decide +kernel
theorem dX10_paintsLine_131 : decode cX10_paintsLine 131 = .ok (.if_icmp .le 10, 3) := by decide +kernel
theorem dX10_paintsLine_134 : decode cX10_paintsLine 134 = .ok (.aload_n 0, 1) := by decide +kernel
theorem dX10_paintsLine_135 : decode cX10_paintsLine 135 = .ok (.invokevirtual 101, 3) := by decide +kernel
theorem dX10_paintsLine_138 : decode cX10_paintsLine 138 = .ok (.goto (-12), 3) := by decide +kernel
theorem dX10_paintsLine_141 : decode cX10_paintsLine 141 = .ok (.return_, 1) := by decide +kernel
theorem dX10_paints_0 : decode cX10_paints 0 = .ok (.aload_n 0, 1) := by decide +kernel
theorem dX10_paints_1 : decode cX10_paints 1 = .ok (.iconst 0, 1) := by decide +kernel
theorem dX10_paints_2 : decode cX10_paints 2 = .ok (.putfield 41, 3) := by decide +kernel
theorem dX10_paints_5 : decode cX10_paints 5 = .ok (.aload_n 0, 1) := by decide +kernel
theorem dX10_paints_6 : decode cX10_paints 6 = .ok (.iconst 1, 1) := by decide +kernel
theorem dX10_paints_7 : decode cX10_paints 7 = .ok (.putfield 44, 3) := by decide +kernel
theorem dX10_paints_10 : decode cX10_paints 10 = .ok (.aload_n 0, 1) := by decide +kernel
theorem dX10_paints_11 : decode cX10_paints 11 = .ok (.iconst 0, 1) := by decide +kernel
theorem dX10_paints_12 : decode cX10_paints 12 = .ok (.putfield 47, 3) := by decide +kernel
theorem dX10_paints_15 : decode cX10_paints 15 = .ok (.aload_n 0, 1) := by decide +kernel
theorem dX10_paints_16 : decode cX10_paints 16 = .ok (.iconst 0, 1) := by decide +kernel
theorem dX10_paints_17 : decode cX10_paints 17 = .ok (.putfield 54, 3) := by decide +kernel
theorem dX10_paints_20 : decode cX10_paints 20 = .ok (.aload_n 0, 1) := by decide +kernel
theorem dX10_paints_21 : decode cX10_paints 21 = .ok (.getfield 54, 3) := by decide +kernel
theorem dX10_paints_24 : decode cX10_paints 24 = .ok (.aload_n 0, 1) := by decide +kernel
theorem dX10_paints_25 : decode cX10_paints 25 = .ok (.getfield 7, 3) := by decide +kernel
theorem dX10_paints_28 : decode cX10_paints 28 = .ok (.iconst 0, 1) := by decide +kernel
theorem dX10_paints_29 : decode cX10_paints 29 = .ok (.iaload, 1) := by decide +kernel
theorem dX10_paints_30 : decode cX10_paints 30 = .ok (.if_icmp .ge 33, 3) := by decide +kernel
theorem dX10_paints_33 : decode cX10_paints 33 = .ok (.aload_n 0, 1) := by decide +kernel
theorem dX10_paints_34 : decode cX10_paints 34 = .ok (.invokevirtual 116, 3) := by decide +kernel
theorem dX10_paints_37 : decode cX10_paints 37 = .ok (.aload_n 0, 1) := by decide +kernel
theorem dX10_paints_38 : decode cX10_paints 38 = .ok (.getfield 28, 3) := by decide +kernel
theorem dX10_paints_41 : decode cX10_paints 41 = .ok (.aload_n 0, 1) := by decide +kernel
theorem dX10_paints_42 : decode cX10_paints 42 = .ok (.getfield 54, 3) := by decide +kernel
theorem dX10_paints_45 : decode cX10_paints 45 = .ok (.aload_n 0, 1) := by decide +kernel
theorem dX10_paints_46 : decode cX10_paints 46 = .ok (.invokevirtual 119, 3) := by decide +kernel
theorem dX10_paints_49 : decode cX10_paints 49 = .ok (.iastore, 1) := by decide +kernel
theorem dX10_paints_50 : decode cX10_paints 50 = .ok (.aload_n 0, 1) := by decide +kernel
theorem dX10_paints_51 : decode cX10_paints 51 = .ok (.dup, 1) := by decide +kernel
theorem dX10_paints_52 : decode cX10_paints 52 = .ok (.getfield 54, 3) := by decide +kernel
theorem dX10_paints_55 : decode cX10_paints 55 = .ok (.iconst 1, 1) := by decide +kernel
theorem dX10_paints_56 : decode cX10_paints 56 = .ok (.iadd, 1) := by decide +kernel
theorem dX10_paints_57 : decode cX10_paints 57 = .ok (.putfield 54, 3) := by decide +kernel
theorem dX10_paints_60 : decode cX10_paints 60 = .ok (.goto (-40), 3) := by decide +kernel
theorem dX10_paints_63 : decode cX10_paints 63 = .ok (.return_, 1) := by decide +kernel
theorem dX10_changes_0 : decode cX10_changes 0 = .ok (.aload_n 0, 1) := by decide +kernel
theorem dX10_changes_1 : decode cX10_changes 1 = .ok (.invokevirtual 122, 3) := by decide +kernel
theorem dX10_changes_4 : decode cX10_changes 4 = .ok (.aload_n 0, 1) := by decide +kernel
theorem dX10_changes_5 : decode cX10_changes 5 = .ok (.iconst 0, 1) := by decide +kernel
theorem dX10_changes_6 : decode cX10_changes 6 = .ok (.putfield 125, 3) := by decide +kernel
theorem dX10_changes_9 : decode cX10_changes 9 = .ok (.iconst 1, 1) := by decide +kernel
theorem dX10_changes_10 : decode cX10_changes 10 = .ok (.istore_n 3, 1) := by decide +kernel
theorem dX10_changes_11 : decode cX10_changes 11 = .ok (.iload_n 1, 1) := by decide +kernel
theorem dX10_changes_12 : decode cX10_changes 12 = .ok (.istore 4, 2) := by decide +kernel
theorem dX10_changes_14 : decode cX10_changes 14 = .ok (.iload 4, 2) := by decide +kernel
theorem dX10_changes_16 : decode cX10_changes 16 = .ok (.aload_n 0, 1) := by decide +kernel
theorem dX10_changes_17 : decode cX10_changes 17 = .ok (.getfield 7, 3) := by decide +kernel
theorem dX10_changes_20 : decode cX10_changes 20 = .ok (.iconst 0, 1) := by decide +kernel
theorem dX10_changes_21 : decode cX10_changes 21 = .ok (.iaload, 1) := by decide +kernel
theorem dX10_changes_22 : decode cX10_changes 22 = .ok (.if_icmp .ge 68, 3) := by decide +kernel
theorem dX10_changes_25 : decode cX10_changes 25 = .ok (.iload_n 3, 1) := by decide +kernel
theorem dX10_changes_26 : decode cX10_changes 26 = .ok (.ifCond .eq 64, 3) := by decide +kernel
theorem dX10_changes_29 : decode cX10_changes 29 = .ok (.aload_n 0, 1) := by decide +kernel
theorem dX10_changes_30 : decode cX10_changes 30 = .ok (.dup, 1) := by decide +kernel
theorem dX10_changes_31 : decode cX10_changes 31 = .ok (.getfield 125, 3) := by decide +kernel
theorem dX10_changes_34 : decode cX10_changes 34 = .ok (.iconst 1, 1) := by decide +kernel
theorem dX10_changes_35 : decode cX10_changes 35 = .ok (.iadd, 1) := by decide +kernel
theorem dX10_changes_36 : decode cX10_changes 36 = .ok (.putfield 125, 3) := by decide +kernel
theorem dX10_changes_39 : decode cX10_changes 39 = .ok (.iload 4, 2) := by decide +kernel
theorem dX10_changes_41 : decode cX10_changes 41 = .ok (.iload_n 2, 1) := by decide +kernel
theorem dX10_changes_42 : decode cX10_changes 42 = .ok (.if_icmp .lt 36, 3) := by decide +kernel
theorem dX10_changes_45 : decode cX10_changes 45 = .ok (.aload_n 0, 1) := by decide +kernel
theorem dX10_changes_46 : decode cX10_changes 46 = .ok (.getfield 34, 3) := by decide +kernel
theorem dX10_changes_49 : decode cX10_changes 49 = .ok (.iload 4, 2) := by decide +kernel
theorem dX10_changes_51 : decode cX10_changes 51 = .ok (.iaload, 1) := by decide +kernel
theorem dX10_changes_52 : decode cX10_changes 52 = .ok (.iconst (-1), 1) := by decide +kernel
theorem dX10_changes_53 : decode cX10_changes 53 = .ok (.if_icmp .eq 25, 3) := by decide +kernel
theorem dX10_changes_56 : decode cX10_changes 56 = .ok (.aload_n 0, 1) := by decide +kernel
theorem dX10_changes_57 : decode cX10_changes 57 = .ok (.getfield 28, 3) := by decide +kernel
theorem dX10_changes_60 : decode cX10_changes 60 = .ok (.iload 4, 2) := by decide +kernel
theorem dX10_changes_62 : decode cX10_changes 62 = .ok (.iaload, 1) := by decide +kernel
theorem dX10_changes_63 : decode cX10_changes 63 = .ok (.aload_n 0, 1) := by decide +kernel
theorem dX10_changes_64 : decode cX10_changes 64 = .ok (.getfield 31, 3) := by decide +kernel
theorem dX10_changes_67 : decode cX10_changes 67 = .ok (.aload_n 0, 1) := by decide +kernel
theorem dX10_changes_68 : decode cX10_changes 68 = .ok (.getfield 34, 3) := by decide +kernel
theorem dX10_changes_71 : decode cX10_changes 71 = .ok (.iload 4, 2) := by decide +kernel
theorem dX10_changes_73 : decode cX10_changes 73 = .ok (.iaload, 1) := by decide +kernel
theorem dX10_changes_74 : decode cX10_changes 74 = .ok (.iaload, 1) := by decide +kernel
theorem dX10_changes_75 : decode cX10_changes 75 = .ok (.if_icmp .eq 7, 3) := by decide +kernel
theorem dX10_changes_78 : decode cX10_changes 78 = .ok (.iconst 1, 1) := by decide +kernel
theorem dX10_changes_79 : decode cX10_changes 79 = .ok (.goto 4, 3) := by decide +kernel
theorem dX10_changes_82 : decode cX10_changes 82 = .ok (.iconst 0, 1) := by decide +kernel
theorem dX10_changes_83 : decode cX10_changes 83 = .ok (.istore_n 3, 1) := by decide +kernel
theorem dX10_changes_84 : decode cX10_changes 84 = .ok (.iinc 4 1, 3) := by decide +kernel
theorem dX10_changes_87 : decode cX10_changes 87 = .ok (.goto (-73), 3) := by decide +kernel
theorem dX10_changes_90 : decode cX10_changes 90 = .ok (.return_, 1) := by decide +kernel
theorem dX10_type_0 : decode cX10_type 0 = .ok (.iload_n 1, 1) := by decide +kernel
theorem dX10_type_1 : decode cX10_type 1 = .ok (.bipush 32, 2) := by decide +kernel
theorem dX10_type_3 : decode cX10_type 3 = .ok (.bipush 126, 2) := by decide +kernel
theorem dX10_type_5 : decode cX10_type 5 = .ok (.invokestatic 57, 3) := by decide +kernel
theorem dX10_type_8 : decode cX10_type 8 = .ok (.ifCond .ne 10, 3) := by decide +kernel
theorem dX10_type_11 : decode cX10_type 11 = .ok (.aload_n 0, 1) := by decide +kernel
theorem dX10_type_12 : decode cX10_type 12 = .ok (.bipush (-2), 2) := by decide +kernel
theorem dX10_type_14 : decode cX10_type 14 = .ok (.invokevirtual 128, 3) := by decide +kernel
theorem dX10_type_17 : decode cX10_type 17 = .ok (.ireturn, 1) := by decide +kernel
theorem dX10_type_18 : decode cX10_type 18 = .ok (.aload_n 0, 1) := by decide +kernel
theorem dX10_type_19 : decode cX10_type 19 = .ok (.getfield 131, 3) := by decide +kernel
theorem dX10_type_22 : decode cX10_type 22 = .ok (.bipush 30, 2) := by decide +kernel
theorem dX10_type_24 : decode cX10_type 24 = .ok (.if_icmp .ne 10, 3) := by decide +kernel
theorem dX10_type_27 : decode cX10_type 27 = .ok (.aload_n 0, 1) := by decide +kernel
theorem dX10_type_28 : decode cX10_type 28 = .ok (.bipush (-4), 2) := by decide +kernel
theorem dX10_type_30 : decode cX10_type 30 = .ok (.invokevirtual 128, 3) := by decide +kernel
theorem dX10_type_33 : decode cX10_type 33 = .ok (.ireturn, 1) := by decide +kernel
theorem dX10_type_34 : decode cX10_type 34 = .ok (.aload_n 0, 1) := by decide +kernel
theorem dX10_type_35 : decode cX10_type 35 = .ok (.getfield 19, 3) := by decide +kernel
theorem dX10_type_38 : decode cX10_type 38 = .ok (.aload_n 0, 1) := by decide +kernel
theorem dX10_type_39 : decode cX10_type 39 = .ok (.getfield 131, 3) := by decide +kernel
theorem dX10_type_42 : decode cX10_type 42 = .ok (.iload_n 1, 1) := by decide +kernel
theorem dX10_type_43 : decode cX10_type 43 = .ok (.iastore, 1) := by decide +kernel
theorem dX10_type_44 : decode cX10_type 44 = .ok (.aload_n 0, 1) := by decide +kernel
theorem dX10_type_45 : decode cX10_type 45 = .ok (.dup, 1) := by decide +kernel
theorem dX10_type_46 : decode cX10_type 46 = .ok (.getfield 131, 3) := by decide +kernel
theorem dX10_type_49 : decode cX10_type 49 = .ok (.iconst 1, 1) := by decide +kernel
theorem dX10_type_50 : decode cX10_type 50 = .ok (.iadd, 1) := by decide +kernel
theorem dX10_type_51 : decode cX10_type 51 = .ok (.putfield 131, 3) := by decide +kernel
theorem dX10_type_54 : decode cX10_type 54 = .ok (.aload_n 0, 1) := by decide +kernel
theorem dX10_type_55 : decode cX10_type 55 = .ok (.getfield 131, 3) := by decide +kernel
theorem dX10_type_58 : decode cX10_type 58 = .ok (.ireturn, 1) := by decide +kernel
theorem dX10_clear_0 : decode cX10_clear 0 = .ok (.aload_n 0, 1) := by decide +kernel
theorem dX10_clear_1 : decode cX10_clear 1 = .ok (.getfield 131, 3) := by decide +kernel
theorem dX10_clear_4 : decode cX10_clear 4 = .ok (.istore_n 1, 1) := by decide +kernel
theorem dX10_clear_5 : decode cX10_clear 5 = .ok (.aload_n 0, 1) := by decide +kernel
theorem dX10_clear_6 : decode cX10_clear 6 = .ok (.iconst 0, 1) := by decide +kernel
theorem dX10_clear_7 : decode cX10_clear 7 = .ok (.putfield 131, 3) := by decide +kernel
theorem dX10_clear_10 : decode cX10_clear 10 = .ok (.iload_n 1, 1) := by decide +kernel
theorem dX10_clear_11 : decode cX10_clear 11 = .ok (.ireturn, 1) := by decide +kernel
theorem dX10_isLine_0 : decode cX10_isLine 0 = .ok (.iload_n 1, 1) := by decide +kernel
theorem dX10_isLine_1 : decode cX10_isLine 1 = .ok (.iconst 0, 1) := by decide +kernel
theorem dX10_isLine_2 : decode cX10_isLine 2 = .ok (.aload_n 0, 1) := by decide +kernel
theorem dX10_isLine_3 : decode cX10_isLine 3 = .ok (.getfield 7, 3) := by decide +kernel
theorem dX10_isLine_6 : decode cX10_isLine 6 = .ok (.iconst 0, 1) := by decide +kernel
theorem dX10_isLine_7 : decode cX10_isLine 7 = .ok (.iaload, 1) := by decide +kernel
theorem dX10_isLine_8 : decode cX10_isLine 8 = .ok (.iconst 1, 1) := by decide +kernel
theorem dX10_isLine_9 : decode cX10_isLine 9 = .ok (.isub, 1) := by decide +kernel
theorem dX10_isLine_10 : decode cX10_isLine 10 = .ok (.invokestatic 57, 3) := by decide +kernel
theorem dX10_isLine_13 : decode cX10_isLine 13 = .ok (.ireturn, 1) := by decide +kernel
theorem dX10_takesText_0 : decode cX10_takesText 0 = .ok (.aload_n 0, 1) := by decide +kernel
theorem dX10_takesText_1 : decode cX10_takesText 1 = .ok (.getfield 7, 3) := by decide +kernel
theorem dX10_takesText_4 : decode cX10_takesText 4 = .ok (.iconst 3, 1) := by decide +kernel
theorem dX10_takesText_5 : decode cX10_takesText 5 = .ok (.iload_n 1, 1) := by decide +kernel
theorem dX10_takesText_6 : decode cX10_takesText 6 = .ok (.iadd, 1) := by decide +kernel
theorem dX10_takesText_7 : decode cX10_takesText 7 = .ok (.aload_n 0, 1) := by decide +kernel
theorem dX10_takesText_8 : decode cX10_takesText 8 = .ok (.getfield 131, 3) := by decide +kernel
theorem dX10_takesText_11 : decode cX10_takesText 11 = .ok (.iastore, 1) := by decide +kernel
theorem dX10_takesText_12 : decode cX10_takesText 12 = .ok (.iconst 0, 1) := by decide +kernel
theorem dX10_takesText_13 : decode cX10_takesText 13 = .ok (.istore_n 2, 1) := by decide +kernel
theorem dX10_takesText_14 : decode cX10_takesText 14 = .ok (.iload_n 2, 1) := by decide +kernel
theorem dX10_takesText_15 : decode cX10_takesText 15 = .ok (.bipush 30, 2) := by decide +kernel
theorem dX10_takesText_17 : decode cX10_takesText 17 = .ok (.if_icmp .ge 41, 3) := by decide +kernel
theorem dX10_takesText_20 : decode cX10_takesText 20 = .ok (.aload_n 0, 1) := by decide +kernel
theorem dX10_takesText_21 : decode cX10_takesText 21 = .ok (.getfield 7, 3) := by decide +kernel
theorem dX10_takesText_24 : decode cX10_takesText 24 = .ok (.bipush 13, 2) := by decide +kernel
theorem dX10_takesText_26 : decode cX10_takesText 26 = .ok (.bipush 30, 2) := by decide +kernel
theorem dX10_takesText_28 : decode cX10_takesText 28 = .ok (.iload_n 1, 1) := by decide +kernel
theorem dX10_takesText_29 : decode cX10_takesText 29 = .ok (.imul, 1) := by decide +kernel
theorem dX10_takesText_30 : decode cX10_takesText 30 = .ok (.iadd, 1) := by decide +kernel
theorem dX10_takesText_31 : decode cX10_takesText 31 = .ok (.iload_n 2, 1) := by decide +kernel
theorem dX10_takesText_32 : decode cX10_takesText 32 = .ok (.iadd, 1) := by decide +kernel
theorem dX10_takesText_33 : decode cX10_takesText 33 = .ok (.iload_n 2, 1) := by decide +kernel
theorem dX10_takesText_34 : decode cX10_takesText 34 = .ok (.aload_n 0, 1) := by decide +kernel
theorem dX10_takesText_35 : decode cX10_takesText 35 = .ok (.getfield 131, 3) := by decide +kernel
theorem dX10_takesText_38 : decode cX10_takesText 38 = .ok (.if_icmp .ge 12, 3) := by decide +kernel
theorem dX10_takesText_41 : decode cX10_takesText 41 = .ok (.aload_n 0, 1) := by decide +kernel
theorem dX10_takesText_42 : decode cX10_takesText 42 = .ok (.getfield 19, 3) := by decide +kernel
theorem dX10_takesText_45 : decode cX10_takesText 45 = .ok (.iload_n 2, 1) := by decide +kernel
theorem dX10_takesText_46 : decode cX10_takesText 46 = .ok (.iaload, 1) := by decide +kernel
theorem dX10_takesText_47 : decode cX10_takesText 47 = .ok (.goto 4, 3) := by decide +kernel
theorem dX10_takesText_50 : decode cX10_takesText 50 = .ok (.iconst 0, 1) := by decide +kernel
theorem dX10_takesText_51 : decode cX10_takesText 51 = .ok (.iastore, 1) := by decide +kernel
theorem dX10_takesText_52 : decode cX10_takesText 52 = .ok (.iinc 2 1, 3) := by decide +kernel
theorem dX10_takesText_55 : decode cX10_takesText 55 = .ok (.goto (-41), 3) := by decide +kernel
theorem dX10_takesText_58 : decode cX10_takesText 58 = .ok (.return_, 1) := by decide +kernel
theorem dX10_moves_0 : decode cX10_moves 0 = .ok (.aload_n 0, 1) := by decide +kernel
theorem dX10_moves_1 : decode cX10_moves 1 = .ok (.getfield 7, 3) := by decide +kernel
theorem dX10_moves_4 : decode cX10_moves 4 = .ok (.iconst 3, 1) := by decide +kernel
theorem dX10_moves_5 : decode cX10_moves 5 = .ok (.iload_n 2, 1) := by decide +kernel
theorem dX10_moves_6 : decode cX10_moves 6 = .ok (.iadd, 1) := by decide +kernel
theorem dX10_moves_7 : decode cX10_moves 7 = .ok (.aload_n 0, 1) := by decide +kernel
theorem dX10_moves_8 : decode cX10_moves 8 = .ok (.getfield 7, 3) := by decide +kernel
theorem dX10_moves_11 : decode cX10_moves 11 = .ok (.iconst 3, 1) := by decide +kernel
theorem dX10_moves_12 : decode cX10_moves 12 = .ok (.iload_n 1, 1) := by decide +kernel
theorem dX10_moves_13 : decode cX10_moves 13 = .ok (.iadd, 1) := by decide +kernel
theorem dX10_moves_14 : decode cX10_moves 14 = .ok (.iaload, 1) := by decide +kernel
theorem dX10_moves_15 : decode cX10_moves 15 = .ok (.iastore, 1) := by decide +kernel
theorem dX10_moves_16 : decode cX10_moves 16 = .ok (.iconst 0, 1) := by decide +kernel
theorem dX10_moves_17 : decode cX10_moves 17 = .ok (.istore_n 3, 1) := by decide +kernel
theorem dX10_moves_18 : decode cX10_moves 18 = .ok (.iload_n 3, 1) := by decide +kernel
theorem dX10_moves_19 : decode cX10_moves 19 = .ok (.bipush 30, 2) := by decide +kernel
theorem dX10_moves_21 : decode cX10_moves 21 = .ok (.if_icmp .ge 37, 3) := by decide +kernel
theorem dX10_moves_24 : decode cX10_moves 24 = .ok (.aload_n 0, 1) := by decide +kernel
theorem dX10_moves_25 : decode cX10_moves 25 = .ok (.getfield 7, 3) := by decide +kernel
theorem dX10_moves_28 : decode cX10_moves 28 = .ok (.bipush 13, 2) := by decide +kernel
theorem dX10_moves_30 : decode cX10_moves 30 = .ok (.bipush 30, 2) := by decide +kernel
theorem dX10_moves_32 : decode cX10_moves 32 = .ok (.iload_n 2, 1) := by decide +kernel
theorem dX10_moves_33 : decode cX10_moves 33 = .ok (.imul, 1) := by decide +kernel
theorem dX10_moves_34 : decode cX10_moves 34 = .ok (.iadd, 1) := by decide +kernel
theorem dX10_moves_35 : decode cX10_moves 35 = .ok (.iload_n 3, 1) := by decide +kernel
theorem dX10_moves_36 : decode cX10_moves 36 = .ok (.iadd, 1) := by decide +kernel
theorem dX10_moves_37 : decode cX10_moves 37 = .ok (.aload_n 0, 1) := by decide +kernel
theorem dX10_moves_38 : decode cX10_moves 38 = .ok (.getfield 7, 3) := by decide +kernel
theorem dX10_moves_41 : decode cX10_moves 41 = .ok (.bipush 13, 2) := by decide +kernel
theorem dX10_moves_43 : decode cX10_moves 43 = .ok (.bipush 30, 2) := by decide +kernel
theorem dX10_moves_45 : decode cX10_moves 45 = .ok (.iload_n 1, 1) := by decide +kernel
theorem dX10_moves_46 : decode cX10_moves 46 = .ok (.imul, 1) := by decide +kernel
theorem dX10_moves_47 : decode cX10_moves 47 = .ok (.iadd, 1) := by decide +kernel
theorem dX10_moves_48 : decode cX10_moves 48 = .ok (.iload_n 3, 1) := by decide +kernel
theorem dX10_moves_49 : decode cX10_moves 49 = .ok (.iadd, 1) := by decide +kernel
theorem dX10_moves_50 : decode cX10_moves 50 = .ok (.iaload, 1) := by decide +kernel
theorem dX10_moves_51 : decode cX10_moves 51 = .ok (.iastore, 1) := by decide +kernel
theorem dX10_moves_52 : decode cX10_moves 52 = .ok (.iinc 3 1, 3) := by decide +kernel
theorem dX10_moves_55 : decode cX10_moves 55 = .ok (.goto (-37), 3) := by decide +kernel
theorem dX10_moves_58 : decode cX10_moves 58 = .ok (.aload_n 0, 1) := by decide +kernel
theorem dX10_moves_59 : decode cX10_moves 59 = .ok (.getfield 34, 3) := by decide +kernel
theorem dX10_moves_62 : decode cX10_moves 62 = .ok (.iload_n 2, 1) := by decide +kernel
theorem dX10_moves_63 : decode cX10_moves 63 = .ok (.aload_n 0, 1) := by decide +kernel
theorem dX10_moves_64 : decode cX10_moves 64 = .ok (.getfield 34, 3) := by decide +kernel
theorem dX10_moves_67 : decode cX10_moves 67 = .ok (.iload_n 1, 1) := by decide +kernel
theorem dX10_moves_68 : decode cX10_moves 68 = .ok (.iaload, 1) := by decide +kernel
theorem dX10_moves_69 : decode cX10_moves 69 = .ok (.iastore, 1) := by decide +kernel
theorem dX10_moves_70 : decode cX10_moves 70 = .ok (.return_, 1) := by decide +kernel
theorem dX10_opens_0 : decode cX10_opens 0 = .ok (.aload_n 0, 1) := by decide +kernel
theorem dX10_opens_1 : decode cX10_opens 1 = .ok (.getfield 7, 3) := by decide +kernel
theorem dX10_opens_4 : decode cX10_opens 4 = .ok (.iconst 0, 1) := by decide +kernel
theorem dX10_opens_5 : decode cX10_opens 5 = .ok (.iaload, 1) := by decide +kernel
theorem dX10_opens_6 : decode cX10_opens 6 = .ok (.istore_n 2, 1) := by decide +kernel
theorem dX10_opens_7 : decode cX10_opens 7 = .ok (.iload_n 2, 1) := by decide +kernel
theorem dX10_opens_8 : decode cX10_opens 8 = .ok (.iload_n 1, 1) := by decide +kernel
theorem dX10_opens_9 : decode cX10_opens 9 = .ok (.if_icmp .le 17, 3) := by decide +kernel
theorem dX10_opens_12 : decode cX10_opens 12 = .ok (.aload_n 0, 1) := by decide +kernel
theorem dX10_opens_13 : decode cX10_opens 13 = .ok (.iload_n 2, 1) := by decide +kernel
theorem dX10_opens_14 : decode cX10_opens 14 = .ok (.iconst 1, 1) := by decide +kernel
theorem dX10_opens_15 : decode cX10_opens 15 = .ok (.isub, 1) := by decide +kernel
theorem dX10_opens_16 : decode cX10_opens 16 = .ok (.iload_n 2, 1) := by decide +kernel
theorem dX10_opens_17 : decode cX10_opens 17 = .ok (.invokevirtual 134, 3) := by decide +kernel
theorem dX10_opens_20 : decode cX10_opens 20 = .ok (.iinc 2 (-1), 3) := by decide +kernel
theorem dX10_opens_23 : decode cX10_opens 23 = .ok (.goto (-16), 3) := by decide +kernel
theorem dX10_opens_26 : decode cX10_opens 26 = .ok (.aload_n 0, 1) := by decide +kernel
theorem dX10_opens_27 : decode cX10_opens 27 = .ok (.getfield 7, 3) := by decide +kernel
theorem dX10_opens_30 : decode cX10_opens 30 = .ok (.iconst 0, 1) := by decide +kernel
theorem dX10_opens_31 : decode cX10_opens 31 = .ok (.dup2, 1) := by decide +kernel
theorem dX10_opens_32 : decode cX10_opens 32 = .ok (.iaload, 1) := by decide +kernel
theorem dX10_opens_33 : decode cX10_opens 33 = .ok (.iconst 1, 1) := by decide +kernel
theorem dX10_opens_34 : decode cX10_opens 34 = .ok (.iadd, 1) := by decide +kernel
theorem dX10_opens_35 : decode cX10_opens 35 = .ok (.iastore, 1) := by decide +kernel
theorem dX10_opens_36 : decode cX10_opens 36 = .ok (.aload_n 0, 1) := by decide +kernel
theorem dX10_opens_37 : decode cX10_opens 37 = .ok (.getfield 34, 3) := by decide +kernel
theorem dX10_opens_40 : decode cX10_opens 40 = .ok (.iload_n 1, 1) := by decide +kernel
theorem dX10_opens_41 : decode cX10_opens 41 = .ok (.iconst (-1), 1) := by decide +kernel
theorem dX10_opens_42 : decode cX10_opens 42 = .ok (.iastore, 1) := by decide +kernel
theorem dX10_opens_43 : decode cX10_opens 43 = .ok (.aload_n 0, 1) := by decide +kernel
theorem dX10_opens_44 : decode cX10_opens 44 = .ok (.getfield 7, 3) := by decide +kernel
theorem dX10_opens_47 : decode cX10_opens 47 = .ok (.iconst 3, 1) := by decide +kernel
theorem dX10_opens_48 : decode cX10_opens 48 = .ok (.iload_n 1, 1) := by decide +kernel
theorem dX10_opens_49 : decode cX10_opens 49 = .ok (.iadd, 1) := by decide +kernel
theorem dX10_opens_50 : decode cX10_opens 50 = .ok (.iconst 0, 1) := by decide +kernel
theorem dX10_opens_51 : decode cX10_opens 51 = .ok (.iastore, 1) := by decide +kernel
theorem dX10_opens_52 : decode cX10_opens 52 = .ok (.iconst 0, 1) := by decide +kernel
theorem dX10_opens_53 : decode cX10_opens 53 = .ok (.istore_n 2, 1) := by decide +kernel
theorem dX10_opens_54 : decode cX10_opens 54 = .ok (.iload_n 2, 1) := by decide +kernel
theorem dX10_opens_55 : decode cX10_opens 55 = .ok (.bipush 30, 2) := by decide +kernel
theorem dX10_opens_57 : decode cX10_opens 57 = .ok (.if_icmp .ge 24, 3) := by decide +kernel
theorem dX10_opens_60 : decode cX10_opens 60 = .ok (.aload_n 0, 1) := by decide +kernel
theorem dX10_opens_61 : decode cX10_opens 61 = .ok (.getfield 7, 3) := by decide +kernel
theorem dX10_opens_64 : decode cX10_opens 64 = .ok (.bipush 13, 2) := by decide +kernel
theorem dX10_opens_66 : decode cX10_opens 66 = .ok (.bipush 30, 2) := by decide +kernel
theorem dX10_opens_68 : decode cX10_opens 68 = .ok (.iload_n 1, 1) := by decide +kernel
theorem dX10_opens_69 : decode cX10_opens 69 = .ok (.imul, 1) := by decide +kernel
theorem dX10_opens_70 : decode cX10_opens 70 = .ok (.iadd, 1) := by decide +kernel
theorem dX10_opens_71 : decode cX10_opens 71 = .ok (.iload_n 2, 1) := by decide +kernel
theorem dX10_opens_72 : decode cX10_opens 72 = .ok (.iadd, 1) := by decide +kernel
theorem dX10_opens_73 : decode cX10_opens 73 = .ok (.iconst 0, 1) := by decide +kernel
theorem dX10_opens_74 : decode cX10_opens 74 = .ok (.iastore, 1) := by decide +kernel
theorem dX10_opens_75 : decode cX10_opens 75 = .ok (.iinc 2 1, 3) := by decide +kernel
theorem dX10_opens_78 : decode cX10_opens 78 = .ok (.goto (-24), 3) := by decide +kernel
theorem dX10_opens_81 : decode cX10_opens 81 = .ok (.return_, 1) := by decide +kernel
theorem dX10_inserts_0 : decode cX10_inserts 0 = .ok (.iload_n 1, 1) := by decide +kernel
theorem dX10_inserts_1 : decode cX10_inserts 1 = .ok (.iconst 0, 1) := by decide +kernel
theorem dX10_inserts_2 : decode cX10_inserts 2 = .ok (.aload_n 0, 1) := by decide +kernel
theorem dX10_inserts_3 : decode cX10_inserts 3 = .ok (.getfield 7, 3) := by decide +kernel
theorem dX10_inserts_6 : decode cX10_inserts 6 = .ok (.iconst 0, 1) := by decide +kernel
theorem dX10_inserts_7 : decode cX10_inserts 7 = .ok (.iaload, 1) := by decide +kernel
theorem dX10_inserts_8 : decode cX10_inserts 8 = .ok (.invokestatic 57, 3) := by decide +kernel
theorem dX10_inserts_11 : decode cX10_inserts 11 = .ok (.ifCond .ne 10, 3) := by decide +kernel
theorem dX10_inserts_14 : decode cX10_inserts 14 = .ok (.aload_n 0, 1) := by decide +kernel
theorem dX10_inserts_15 : decode cX10_inserts 15 = .ok (.bipush (-2), 2) := by decide +kernel
theorem dX10_inserts_17 : decode cX10_inserts 17 = .ok (.invokevirtual 128, 3) := by decide +kernel
theorem dX10_inserts_20 : decode cX10_inserts 20 = .ok (.ireturn, 1) := by decide +kernel
theorem dX10_inserts_21 : decode cX10_inserts 21 = .ok (.aload_n 0, 1) := by decide +kernel
theorem dX10_inserts_22 : decode cX10_inserts 22 = .ok (.getfield 7, 3) := by decide +kernel
theorem dX10_inserts_25 : decode cX10_inserts 25 = .ok (.iconst 0, 1) := by decide +kernel
theorem dX10_inserts_26 : decode cX10_inserts 26 = .ok (.iaload, 1) := by decide +kernel
theorem dX10_inserts_27 : decode cX10_inserts 27 = .ok (.bipush 10, 2) := by decide +kernel
theorem dX10_inserts_29 : decode cX10_inserts 29 = .ok (.if_icmp .ne 10, 3) := by decide +kernel
theorem dX10_inserts_32 : decode cX10_inserts 32 = .ok (.aload_n 0, 1) := by decide +kernel
theorem dX10_inserts_33 : decode cX10_inserts 33 = .ok (.bipush (-4), 2) := by decide +kernel
theorem dX10_inserts_35 : decode cX10_inserts 35 = .ok (.invokevirtual 128, 3) := by decide +kernel
theorem dX10_inserts_38 : decode cX10_inserts 38 = .ok (.ireturn, 1) := by decide +kernel
theorem dX10_inserts_39 : decode cX10_inserts 39 = .ok (.aload_n 0, 1) := by decide +kernel
theorem dX10_inserts_40 : decode cX10_inserts 40 = .ok (.invokevirtual 137, 3) := by decide +kernel
theorem dX10_inserts_43 : decode cX10_inserts 43 = .ok (.aload_n 0, 1) := by decide +kernel
theorem dX10_inserts_44 : decode cX10_inserts 44 = .ok (.iload_n 1, 1) := by decide +kernel
theorem dX10_inserts_45 : decode cX10_inserts 45 = .ok (.invokevirtual 140, 3) := by decide +kernel
theorem dX10_inserts_48 : decode cX10_inserts 48 = .ok (.aload_n 0, 1) := by decide +kernel
theorem dX10_inserts_49 : decode cX10_inserts 49 = .ok (.iload_n 1, 1) := by decide +kernel
theorem dX10_inserts_50 : decode cX10_inserts 50 = .ok (.invokevirtual 144, 3) := by decide +kernel
theorem dX10_inserts_53 : decode cX10_inserts 53 = .ok (.aload_n 0, 1) := by decide +kernel
theorem dX10_inserts_54 : decode cX10_inserts 54 = .ok (.iload_n 1, 1) := by decide +kernel
theorem dX10_inserts_55 : decode cX10_inserts 55 = .ok (.iload_n 1, 1) := by decide +kernel
theorem dX10_inserts_56 : decode cX10_inserts 56 = .ok (.invokevirtual 147, 3) := by decide +kernel
theorem dX10_inserts_59 : decode cX10_inserts 59 = .ok (.aload_n 0, 1) := by decide +kernel
theorem dX10_inserts_60 : decode cX10_inserts 60 = .ok (.getfield 7, 3) := by decide +kernel
theorem dX10_inserts_63 : decode cX10_inserts 63 = .ok (.iconst 0, 1) := by decide +kernel
theorem dX10_inserts_64 : decode cX10_inserts 64 = .ok (.iaload, 1) := by decide +kernel
theorem dX10_inserts_65 : decode cX10_inserts 65 = .ok (.ireturn, 1) := by decide +kernel
theorem dX10_sets_0 : decode cX10_sets 0 = .ok (.aload_n 0, 1) := by decide +kernel
theorem dX10_sets_1 : decode cX10_sets 1 = .ok (.iload_n 1, 1) := by decide +kernel
theorem dX10_sets_2 : decode cX10_sets 2 = .ok (.invokevirtual 150, 3) := by decide +kernel
theorem dX10_sets_5 : decode cX10_sets 5 = .ok (.ifCond .ne 10, 3) := by decide +kernel
theorem dX10_sets_8 : decode cX10_sets 8 = .ok (.aload_n 0, 1) := by decide +kernel
theorem dX10_sets_9 : decode cX10_sets 9 = .ok (.bipush (-2), 2) := by decide +kernel
theorem dX10_sets_11 : decode cX10_sets 11 = .ok (.invokevirtual 128, 3) := by decide +kernel
theorem dX10_sets_14 : decode cX10_sets 14 = .ok (.ireturn, 1) := by decide +kernel
theorem dX10_sets_15 : decode cX10_sets 15 = .ok (.aload_n 0, 1) := by decide +kernel
theorem dX10_sets_16 : decode cX10_sets 16 = .ok (.invokevirtual 137, 3) := by decide +kernel
theorem dX10_sets_19 : decode cX10_sets 19 = .ok (.aload_n 0, 1) := by decide +kernel
theorem dX10_sets_20 : decode cX10_sets 20 = .ok (.getfield 7, 3) := by decide +kernel
theorem dX10_sets_23 : decode cX10_sets 23 = .ok (.iconst 3, 1) := by decide +kernel
theorem dX10_sets_24 : decode cX10_sets 24 = .ok (.iload_n 1, 1) := by decide +kernel
theorem dX10_sets_25 : decode cX10_sets 25 = .ok (.iadd, 1) := by decide +kernel
theorem dX10_sets_26 : decode cX10_sets 26 = .ok (.iaload, 1) := by decide +kernel
theorem dX10_sets_27 : decode cX10_sets 27 = .ok (.istore_n 2, 1) := by decide +kernel
theorem dX10_sets_28 : decode cX10_sets 28 = .ok (.iload_n 2, 1) := by decide +kernel
theorem dX10_sets_29 : decode cX10_sets 29 = .ok (.aload_n 0, 1) := by decide +kernel
theorem dX10_sets_30 : decode cX10_sets 30 = .ok (.getfield 131, 3) := by decide +kernel
theorem dX10_sets_33 : decode cX10_sets 33 = .ok (.if_icmp .eq 7, 3) := by decide +kernel
theorem dX10_sets_36 : decode cX10_sets 36 = .ok (.iconst 1, 1) := by decide +kernel
theorem dX10_sets_37 : decode cX10_sets 37 = .ok (.goto 4, 3) := by decide +kernel
theorem dX10_sets_40 : decode cX10_sets 40 = .ok (.iconst 0, 1) := by decide +kernel
theorem dX10_sets_41 : decode cX10_sets 41 = .ok (.istore_n 3, 1) := by decide +kernel
theorem dX10_sets_42 : decode cX10_sets 42 = .ok (.iconst 0, 1) := by decide +kernel
theorem dX10_sets_43 : decode cX10_sets 43 = .ok (.istore 4, 2) := by decide +kernel
theorem dX10_sets_45 : decode cX10_sets 45 = .ok (.iload 4, 2) := by decide +kernel
theorem dX10_sets_47 : decode cX10_sets 47 = .ok (.aload_n 0, 1) := by decide +kernel
theorem dX10_sets_48 : decode cX10_sets 48 = .ok (.getfield 131, 3) := by decide +kernel
theorem dX10_sets_51 : decode cX10_sets 51 = .ok (.if_icmp .ge 44, 3) := by decide +kernel
theorem dX10_sets_54 : decode cX10_sets 54 = .ok (.iload_n 3, 1) := by decide +kernel
theorem dX10_sets_55 : decode cX10_sets 55 = .ok (.ifCond .ne 28, 3) := by decide +kernel
theorem dX10_sets_58 : decode cX10_sets 58 = .ok (.aload_n 0, 1) := by decide +kernel
theorem dX10_sets_59 : decode cX10_sets 59 = .ok (.getfield 7, 3) := by decide +kernel
theorem dX10_sets_62 : decode cX10_sets 62 = .ok (.bipush 13, 2) := by decide +kernel
theorem dX10_sets_64 : decode cX10_sets 64 = .ok (.bipush 30, 2) := by decide +kernel
theorem dX10_sets_66 : decode cX10_sets 66 = .ok (.iload_n 1, 1) := by decide +kernel
theorem dX10_sets_67 : decode cX10_sets 67 = .ok (.imul, 1) := by decide +kernel
theorem dX10_sets_68 : decode cX10_sets 68 = .ok (.iadd, 1) := by decide +kernel
theorem dX10_sets_69 : decode cX10_sets 69 = .ok (.iload 4, 2) := by decide +kernel
theorem dX10_sets_71 : decode cX10_sets 71 = .ok (.iadd, 1) := by decide +kernel
theorem dX10_sets_72 : decode cX10_sets 72 = .ok (.iaload, 1) := by decide +kernel
theorem dX10_sets_73 : decode cX10_sets 73 = .ok (.aload_n 0, 1) := by decide +kernel
theorem dX10_sets_74 : decode cX10_sets 74 = .ok (.getfield 19, 3) := by decide +kernel
theorem dX10_sets_77 : decode cX10_sets 77 = .ok (.iload 4, 2) := by decide +kernel
theorem dX10_sets_79 : decode cX10_sets 79 = .ok (.iaload, 1) := by decide +kernel
theorem dX10_sets_80 : decode cX10_sets 80 = .ok (.if_icmp .eq 7, 3) := by decide +kernel
theorem dX10_sets_83 : decode cX10_sets 83 = .ok (.iconst 1, 1) := by decide +kernel
theorem dX10_sets_84 : decode cX10_sets 84 = .ok (.goto 4, 3) := by decide +kernel
theorem dX10_sets_87 : decode cX10_sets 87 = .ok (.iconst 0, 1) := by decide +kernel
theorem dX10_sets_88 : decode cX10_sets 88 = .ok (.istore_n 3, 1) := by decide +kernel
theorem dX10_sets_89 : decode cX10_sets 89 = .ok (.iinc 4 1, 3) := by decide +kernel
theorem dX10_sets_92 : decode cX10_sets 92 = .ok (.goto (-47), 3) := by decide +kernel
theorem dX10_sets_95 : decode cX10_sets 95 = .ok (.aload_n 0, 1) := by decide +kernel
theorem dX10_sets_96 : decode cX10_sets 96 = .ok (.iload_n 1, 1) := by decide +kernel
theorem dX10_sets_97 : decode cX10_sets 97 = .ok (.invokevirtual 144, 3) := by decide +kernel
theorem dX10_sets_100 : decode cX10_sets 100 = .ok (.aload_n 0, 1) := by decide +kernel
theorem dX10_sets_101 : decode cX10_sets 101 = .ok (.iload_n 3, 1) := by decide +kernel
theorem dX10_sets_102 : decode cX10_sets 102 = .ok (.ifCond .eq 7, 3) := by decide +kernel
theorem dX10_sets_105 : decode cX10_sets 105 = .ok (.iload_n 1, 1) := by decide +kernel
theorem dX10_sets_106 : decode cX10_sets 106 = .ok (.goto 9, 3) := by decide +kernel
theorem dX10_sets_109 : decode cX10_sets 109 = .ok (.aload_n 0, 1) := by decide +kernel
theorem dX10_sets_110 : decode cX10_sets 110 = .ok (.getfield 7, 3) := by decide +kernel
theorem dX10_sets_113 : decode cX10_sets 113 = .ok (.iconst 0, 1) := by decide +kernel
theorem dX10_sets_114 : decode cX10_sets 114 = .ok (.iaload, 1) := by decide +kernel
theorem dX10_sets_115 : decode cX10_sets 115 = .ok (.iload_n 1, 1) := by decide +kernel
theorem dX10_sets_116 : decode cX10_sets 116 = .ok (.invokevirtual 147, 3) := by decide +kernel
theorem dX10_sets_119 : decode cX10_sets 119 = .ok (.iload_n 2, 1) := by decide +kernel
theorem dX10_sets_120 : decode cX10_sets 120 = .ok (.ireturn, 1) := by decide +kernel
theorem dX10_drops_0 : decode cX10_drops 0 = .ok (.aload_n 0, 1) := by decide +kernel
theorem dX10_drops_1 : decode cX10_drops 1 = .ok (.iload_n 1, 1) := by decide +kernel
theorem dX10_drops_2 : decode cX10_drops 2 = .ok (.invokevirtual 150, 3) := by decide +kernel
theorem dX10_drops_5 : decode cX10_drops 5 = .ok (.ifCond .ne 10, 3) := by decide +kernel
theorem dX10_drops_8 : decode cX10_drops 8 = .ok (.aload_n 0, 1) := by decide +kernel
theorem dX10_drops_9 : decode cX10_drops 9 = .ok (.bipush (-2), 2) := by decide +kernel
theorem dX10_drops_11 : decode cX10_drops 11 = .ok (.invokevirtual 128, 3) := by decide +kernel
theorem dX10_drops_14 : decode cX10_drops 14 = .ok (.ireturn, 1) := by decide +kernel
theorem dX10_drops_15 : decode cX10_drops 15 = .ok (.aload_n 0, 1) := by decide +kernel
theorem dX10_drops_16 : decode cX10_drops 16 = .ok (.invokevirtual 137, 3) := by decide +kernel
theorem dX10_drops_19 : decode cX10_drops 19 = .ok (.iload_n 1, 1) := by decide +kernel
theorem dX10_drops_20 : decode cX10_drops 20 = .ok (.istore_n 2, 1) := by decide +kernel
theorem dX10_drops_21 : decode cX10_drops 21 = .ok (.iload_n 2, 1) := by decide +kernel
theorem dX10_drops_22 : decode cX10_drops 22 = .ok (.aload_n 0, 1) := by decide +kernel
theorem dX10_drops_23 : decode cX10_drops 23 = .ok (.getfield 7, 3) := by decide +kernel
theorem dX10_drops_26 : decode cX10_drops 26 = .ok (.iconst 0, 1) := by decide +kernel
theorem dX10_drops_27 : decode cX10_drops 27 = .ok (.iaload, 1) := by decide +kernel
theorem dX10_drops_28 : decode cX10_drops 28 = .ok (.iconst 1, 1) := by decide +kernel
theorem dX10_drops_29 : decode cX10_drops 29 = .ok (.isub, 1) := by decide +kernel
theorem dX10_drops_30 : decode cX10_drops 30 = .ok (.if_icmp .ge 17, 3) := by decide +kernel
theorem dX10_drops_33 : decode cX10_drops 33 = .ok (.aload_n 0, 1) := by decide +kernel
theorem dX10_drops_34 : decode cX10_drops 34 = .ok (.iload_n 2, 1) := by decide +kernel
theorem dX10_drops_35 : decode cX10_drops 35 = .ok (.iconst 1, 1) := by decide +kernel
theorem dX10_drops_36 : decode cX10_drops 36 = .ok (.iadd, 1) := by decide +kernel
theorem dX10_drops_37 : decode cX10_drops 37 = .ok (.iload_n 2, 1) := by decide +kernel
theorem dX10_drops_38 : decode cX10_drops 38 = .ok (.invokevirtual 134, 3) := by decide +kernel
theorem dX10_drops_41 : decode cX10_drops 41 = .ok (.iinc 2 1, 3) := by decide +kernel
theorem dX10_drops_44 : decode cX10_drops 44 = .ok (.goto (-23), 3) := by decide +kernel
theorem dX10_drops_47 : decode cX10_drops 47 = .ok (.aload_n 0, 1) := by decide +kernel
theorem dX10_drops_48 : decode cX10_drops 48 = .ok (.getfield 7, 3) := by decide +kernel
theorem dX10_drops_51 : decode cX10_drops 51 = .ok (.iconst 0, 1) := by decide +kernel
theorem dX10_drops_52 : decode cX10_drops 52 = .ok (.dup2, 1) := by decide +kernel
theorem dX10_drops_53 : decode cX10_drops 53 = .ok (.iaload, 1) := by decide +kernel
theorem dX10_drops_54 : decode cX10_drops 54 = .ok (.iconst 1, 1) := by decide +kernel
theorem dX10_drops_55 : decode cX10_drops 55 = .ok (.isub, 1) := by decide +kernel
theorem dX10_drops_56 : decode cX10_drops 56 = .ok (.iastore, 1) := by decide +kernel
theorem dX10_drops_57 : decode cX10_drops 57 = .ok (.aload_n 0, 1) := by decide +kernel
theorem dX10_drops_58 : decode cX10_drops 58 = .ok (.getfield 7, 3) := by decide +kernel
theorem dX10_drops_61 : decode cX10_drops 61 = .ok (.iconst 0, 1) := by decide +kernel
theorem dX10_drops_62 : decode cX10_drops 62 = .ok (.iaload, 1) := by decide +kernel
theorem dX10_drops_63 : decode cX10_drops 63 = .ok (.istore_n 2, 1) := by decide +kernel
theorem dX10_drops_64 : decode cX10_drops 64 = .ok (.aload_n 0, 1) := by decide +kernel
theorem dX10_drops_65 : decode cX10_drops 65 = .ok (.getfield 7, 3) := by decide +kernel
theorem dX10_drops_68 : decode cX10_drops 68 = .ok (.iconst 3, 1) := by decide +kernel
theorem dX10_drops_69 : decode cX10_drops 69 = .ok (.iload_n 2, 1) := by decide +kernel
theorem dX10_drops_70 : decode cX10_drops 70 = .ok (.iadd, 1) := by decide +kernel
theorem dX10_drops_71 : decode cX10_drops 71 = .ok (.iconst 0, 1) := by decide +kernel
theorem dX10_drops_72 : decode cX10_drops 72 = .ok (.iastore, 1) := by decide +kernel
theorem dX10_drops_73 : decode cX10_drops 73 = .ok (.iconst 0, 1) := by decide +kernel
theorem dX10_drops_74 : decode cX10_drops 74 = .ok (.istore_n 3, 1) := by decide +kernel
theorem dX10_drops_75 : decode cX10_drops 75 = .ok (.iload_n 3, 1) := by decide +kernel
theorem dX10_drops_76 : decode cX10_drops 76 = .ok (.bipush 30, 2) := by decide +kernel
theorem dX10_drops_78 : decode cX10_drops 78 = .ok (.if_icmp .ge 24, 3) := by decide +kernel
theorem dX10_drops_81 : decode cX10_drops 81 = .ok (.aload_n 0, 1) := by decide +kernel
theorem dX10_drops_82 : decode cX10_drops 82 = .ok (.getfield 7, 3) := by decide +kernel
theorem dX10_drops_85 : decode cX10_drops 85 = .ok (.bipush 13, 2) := by decide +kernel
theorem dX10_drops_87 : decode cX10_drops 87 = .ok (.bipush 30, 2) := by decide +kernel
theorem dX10_drops_89 : decode cX10_drops 89 = .ok (.iload_n 2, 1) := by decide +kernel
theorem dX10_drops_90 : decode cX10_drops 90 = .ok (.imul, 1) := by decide +kernel
theorem dX10_drops_91 : decode cX10_drops 91 = .ok (.iadd, 1) := by decide +kernel
theorem dX10_drops_92 : decode cX10_drops 92 = .ok (.iload_n 3, 1) := by decide +kernel
theorem dX10_drops_93 : decode cX10_drops 93 = .ok (.iadd, 1) := by decide +kernel
theorem dX10_drops_94 : decode cX10_drops 94 = .ok (.iconst 0, 1) := by decide +kernel
theorem dX10_drops_95 : decode cX10_drops 95 = .ok (.iastore, 1) := by decide +kernel
theorem dX10_drops_96 : decode cX10_drops 96 = .ok (.iinc 3 1, 3) := by decide +kernel
theorem dX10_drops_99 : decode cX10_drops 99 = .ok (.goto (-24), 3) := by decide +kernel
theorem dX10_drops_102 : decode cX10_drops 102 = .ok (.aload_n 0, 1) := by decide +kernel
theorem dX10_drops_103 : decode cX10_drops 103 = .ok (.iload_n 1, 1) := by decide +kernel
theorem dX10_drops_104 : decode cX10_drops 104 = .ok (.iload_n 1, 1) := by decide +kernel
theorem dX10_drops_105 : decode cX10_drops 105 = .ok (.invokevirtual 147, 3) := by decide +kernel
theorem dX10_drops_108 : decode cX10_drops 108 = .ok (.aload_n 0, 1) := by decide +kernel
theorem dX10_drops_109 : decode cX10_drops 109 = .ok (.getfield 7, 3) := by decide +kernel
theorem dX10_drops_112 : decode cX10_drops 112 = .ok (.iconst 0, 1) := by decide +kernel
theorem dX10_drops_113 : decode cX10_drops 113 = .ok (.iaload, 1) := by decide +kernel
theorem dX10_drops_114 : decode cX10_drops 114 = .ok (.ireturn, 1) := by decide +kernel
theorem dX10_puts_0 : decode cX10_puts 0 = .ok (.aload_n 0, 1) := by decide +kernel
theorem dX10_puts_1 : decode cX10_puts 1 = .ok (.iload_n 1, 1) := by decide +kernel
theorem dX10_puts_2 : decode cX10_puts 2 = .ok (.invokevirtual 150, 3) := by decide +kernel
theorem dX10_puts_5 : decode cX10_puts 5 = .ok (.ifCond .eq 30, 3) := by decide +kernel
theorem dX10_puts_8 : decode cX10_puts 8 = .ok (.iload_n 2, 1) := by decide +kernel
theorem dX10_puts_9 : decode cX10_puts 9 = .ok (.iconst 0, 1) := by decide +kernel
theorem dX10_puts_10 : decode cX10_puts 10 = .ok (.aload_n 0, 1) := by decide +kernel
theorem dX10_puts_11 : decode cX10_puts 11 = .ok (.getfield 7, 3) := by decide +kernel
theorem dX10_puts_14 : decode cX10_puts 14 = .ok (.iconst 3, 1) := by decide +kernel
theorem dX10_puts_15 : decode cX10_puts 15 = .ok (.iload_n 1, 1) := by decide +kernel
theorem dX10_puts_16 : decode cX10_puts 16 = .ok (.iadd, 1) := by decide +kernel
theorem dX10_puts_17 : decode cX10_puts 17 = .ok (.iaload, 1) := by decide +kernel
theorem dX10_puts_18 : decode cX10_puts 18 = .ok (.invokestatic 57, 3) := by decide +kernel
theorem dX10_puts_21 : decode cX10_puts 21 = .ok (.ifCond .eq 14, 3) := by decide +kernel
theorem dX10_puts_24 : decode cX10_puts 24 = .ok (.iload_n 3, 1) := by decide +kernel
theorem dX10_puts_25 : decode cX10_puts 25 = .ok (.bipush 32, 2) := by decide +kernel
theorem dX10_puts_27 : decode cX10_puts 27 = .ok (.bipush 126, 2) := by decide +kernel
theorem dX10_puts_29 : decode cX10_puts 29 = .ok (.invokestatic 57, 3) := by decide +kernel
theorem dX10_puts_32 : decode cX10_puts 32 = .ok (.ifCond .ne 10, 3) := by decide +kernel
theorem dX10_puts_35 : decode cX10_puts 35 = .ok (.aload_n 0, 1) := by decide +kernel
theorem dX10_puts_36 : decode cX10_puts 36 = .ok (.bipush (-2), 2) := by decide +kernel
theorem dX10_puts_38 : decode cX10_puts 38 = .ok (.invokevirtual 128, 3) := by decide +kernel
theorem dX10_puts_41 : decode cX10_puts 41 = .ok (.ireturn, 1) := by decide +kernel
theorem dX10_puts_42 : decode cX10_puts 42 = .ok (.aload_n 0, 1) := by decide +kernel
theorem dX10_puts_43 : decode cX10_puts 43 = .ok (.getfield 7, 3) := by decide +kernel
theorem dX10_puts_46 : decode cX10_puts 46 = .ok (.iconst 3, 1) := by decide +kernel
theorem dX10_puts_47 : decode cX10_puts 47 = .ok (.iload_n 1, 1) := by decide +kernel
theorem dX10_puts_48 : decode cX10_puts 48 = .ok (.iadd, 1) := by decide +kernel
theorem dX10_puts_49 : decode cX10_puts 49 = .ok (.iaload, 1) := by decide +kernel
theorem dX10_puts_50 : decode cX10_puts 50 = .ok (.bipush 30, 2) := by decide +kernel
theorem dX10_puts_52 : decode cX10_puts 52 = .ok (.if_icmp .ne 10, 3) := by decide +kernel
theorem dX10_puts_55 : decode cX10_puts 55 = .ok (.aload_n 0, 1) := by decide +kernel
theorem dX10_puts_56 : decode cX10_puts 56 = .ok (.bipush (-4), 2) := by decide +kernel
theorem dX10_puts_58 : decode cX10_puts 58 = .ok (.invokevirtual 128, 3) := by decide +kernel
theorem dX10_puts_61 : decode cX10_puts 61 = .ok (.ireturn, 1) := by decide +kernel
theorem dX10_puts_62 : decode cX10_puts 62 = .ok (.aload_n 0, 1) := by decide +kernel
theorem dX10_puts_63 : decode cX10_puts 63 = .ok (.invokevirtual 137, 3) := by decide +kernel
theorem dX10_puts_66 : decode cX10_puts 66 = .ok (.bipush 13, 2) := by decide +kernel
theorem dX10_puts_68 : decode cX10_puts 68 = .ok (.bipush 30, 2) := by decide +kernel
theorem dX10_puts_70 : decode cX10_puts 70 = .ok (.iload_n 1, 1) := by decide +kernel
theorem dX10_puts_71 : decode cX10_puts 71 = .ok (.imul, 1) := by decide +kernel
theorem dX10_puts_72 : decode cX10_puts 72 = .ok (.iadd, 1) := by decide +kernel
theorem dX10_puts_73 : decode cX10_puts 73 = .ok (.istore 4, 2) := by decide +kernel
theorem dX10_puts_75 : decode cX10_puts 75 = .ok (.aload_n 0, 1) := by decide +kernel
theorem dX10_puts_76 : decode cX10_puts 76 = .ok (.getfield 7, 3) := by decide +kernel
theorem dX10_puts_79 : decode cX10_puts 79 = .ok (.iconst 3, 1) := by decide +kernel
theorem dX10_puts_80 : decode cX10_puts 80 = .ok (.iload_n 1, 1) := by decide +kernel
theorem dX10_puts_81 : decode cX10_puts 81 = .ok (.iadd, 1) := by decide +kernel
theorem dX10_puts_82 : decode cX10_puts 82 = .ok (.iaload, 1) := by decide +kernel
theorem dX10_puts_83 : decode cX10_puts 83 = .ok (.istore 5, 2) := by decide +kernel
theorem dX10_puts_85 : decode cX10_puts 85 = .ok (.iload 5, 2) := by decide +kernel
theorem dX10_puts_87 : decode cX10_puts 87 = .ok (.iload_n 2, 1) := by decide +kernel
theorem dX10_puts_88 : decode cX10_puts 88 = .ok (.if_icmp .le 31, 3) := by decide +kernel
theorem dX10_puts_91 : decode cX10_puts 91 = .ok (.aload_n 0, 1) := by decide +kernel
theorem dX10_puts_92 : decode cX10_puts 92 = .ok (.getfield 7, 3) := by decide +kernel
theorem dX10_puts_95 : decode cX10_puts 95 = .ok (.iload 4, 2) := by decide +kernel
theorem dX10_puts_97 : decode cX10_puts 97 = .ok (.iload 5, 2) := by decide +kernel
theorem dX10_puts_99 : decode cX10_puts 99 = .ok (.iadd, 1) := by decide +kernel
theorem dX10_puts_100 : decode cX10_puts 100 = .ok (.aload_n 0, 1) := by decide +kernel
theorem dX10_puts_101 : decode cX10_puts 101 = .ok (.getfield 7, 3) := by decide +kernel
theorem dX10_puts_104 : decode cX10_puts 104 = .ok (.iload 4, 2) := by decide +kernel
theorem dX10_puts_106 : decode cX10_puts 106 = .ok (.iload 5, 2) := by decide +kernel
theorem dX10_puts_108 : decode cX10_puts 108 = .ok (.iadd, 1) := by decide +kernel
theorem dX10_puts_109 : decode cX10_puts 109 = .ok (.iconst 1, 1) := by decide +kernel
theorem dX10_puts_110 : decode cX10_puts 110 = .ok (.isub, 1) := by decide +kernel
theorem dX10_puts_111 : decode cX10_puts 111 = .ok (.iaload, 1) := by decide +kernel
theorem dX10_puts_112 : decode cX10_puts 112 = .ok (.iastore, 1) := by decide +kernel
theorem dX10_puts_113 : decode cX10_puts 113 = .ok (.iinc 5 (-1), 3) := by decide +kernel
theorem dX10_puts_116 : decode cX10_puts 116 = .ok (.goto (-31), 3) := by decide +kernel
theorem dX10_puts_119 : decode cX10_puts 119 = .ok (.aload_n 0, 1) := by decide +kernel
theorem dX10_puts_120 : decode cX10_puts 120 = .ok (.getfield 7, 3) := by decide +kernel
theorem dX10_puts_123 : decode cX10_puts 123 = .ok (.iload 4, 2) := by decide +kernel
theorem dX10_puts_125 : decode cX10_puts 125 = .ok (.iload_n 2, 1) := by decide +kernel
theorem dX10_puts_126 : decode cX10_puts 126 = .ok (.iadd, 1) := by decide +kernel
theorem dX10_puts_127 : decode cX10_puts 127 = .ok (.iload_n 3, 1) := by decide +kernel
theorem dX10_puts_128 : decode cX10_puts 128 = .ok (.iastore, 1) := by decide +kernel
theorem dX10_puts_129 : decode cX10_puts 129 = .ok (.aload_n 0, 1) := by decide +kernel
theorem dX10_puts_130 : decode cX10_puts 130 = .ok (.getfield 7, 3) := by decide +kernel
theorem dX10_puts_133 : decode cX10_puts 133 = .ok (.iconst 3, 1) := by decide +kernel
theorem dX10_puts_134 : decode cX10_puts 134 = .ok (.iload_n 1, 1) := by decide +kernel
theorem dX10_puts_135 : decode cX10_puts 135 = .ok (.iadd, 1) := by decide +kernel
theorem dX10_puts_136 : decode cX10_puts 136 = .ok (.dup2, 1) := by decide +kernel
theorem dX10_puts_137 : decode cX10_puts 137 = .ok (.iaload, 1) := by decide +kernel
theorem dX10_puts_138 : decode cX10_puts 138 = .ok (.iconst 1, 1) := by decide +kernel
theorem dX10_puts_139 : decode cX10_puts 139 = .ok (.iadd, 1) := by decide +kernel
theorem dX10_puts_140 : decode cX10_puts 140 = .ok (.iastore, 1) := by decide +kernel
theorem dX10_puts_141 : decode cX10_puts 141 = .ok (.aload_n 0, 1) := by decide +kernel
theorem dX10_puts_142 : decode cX10_puts 142 = .ok (.iload_n 1, 1) := by decide +kernel
theorem dX10_puts_143 : decode cX10_puts 143 = .ok (.iload_n 1, 1) := by decide +kernel
theorem dX10_puts_144 : decode cX10_puts 144 = .ok (.invokevirtual 147, 3) := by decide +kernel
theorem dX10_puts_147 : decode cX10_puts 147 = .ok (.aload_n 0, 1) := by decide +kernel
theorem dX10_puts_148 : decode cX10_puts 148 = .ok (.getfield 7, 3) := by decide +kernel
theorem dX10_puts_151 : decode cX10_puts 151 = .ok (.iconst 3, 1) := by decide +kernel
theorem dX10_puts_152 : decode cX10_puts 152 = .ok (.iload_n 1, 1) := by decide +kernel
theorem dX10_puts_153 : decode cX10_puts 153 = .ok (.iadd, 1) := by decide +kernel
theorem dX10_puts_154 : decode cX10_puts 154 = .ok (.iaload, 1) := by decide +kernel
theorem dX10_puts_155 : decode cX10_puts 155 = .ok (.ireturn, 1) := by decide +kernel
theorem dX10_erases_0 : decode cX10_erases 0 = .ok (.aload_n 0, 1) := by decide +kernel
theorem dX10_erases_1 : decode cX10_erases 1 = .ok (.iload_n 1, 1) := by decide +kernel
theorem dX10_erases_2 : decode cX10_erases 2 = .ok (.invokevirtual 150, 3) := by decide +kernel
theorem dX10_erases_5 : decode cX10_erases 5 = .ok (.ifCond .eq 21, 3) := by decide +kernel
theorem dX10_erases_8 : decode cX10_erases 8 = .ok (.iload_n 2, 1) := by decide +kernel
theorem dX10_erases_9 : decode cX10_erases 9 = .ok (.iconst 0, 1) := by decide +kernel
theorem dX10_erases_10 : decode cX10_erases 10 = .ok (.aload_n 0, 1) := by decide +kernel
theorem dX10_erases_11 : decode cX10_erases 11 = .ok (.getfield 7, 3) := by decide +kernel
theorem dX10_erases_14 : decode cX10_erases 14 = .ok (.iconst 3, 1) := by decide +kernel
theorem dX10_erases_15 : decode cX10_erases 15 = .ok (.iload_n 1, 1) := by decide +kernel
theorem dX10_erases_16 : decode cX10_erases 16 = .ok (.iadd, 1) := by decide +kernel
theorem dX10_erases_17 : decode cX10_erases 17 = .ok (.iaload, 1) := by decide +kernel
theorem dX10_erases_18 : decode cX10_erases 18 = .ok (.iconst 1, 1) := by decide +kernel
theorem dX10_erases_19 : decode cX10_erases 19 = .ok (.isub, 1) := by decide +kernel
theorem dX10_erases_20 : decode cX10_erases 20 = .ok (.invokestatic 57, 3) := by decide +kernel
theorem dX10_erases_23 : decode cX10_erases 23 = .ok (.ifCond .ne 10, 3) := by decide +kernel
theorem dX10_erases_26 : decode cX10_erases 26 = .ok (.aload_n 0, 1) := by decide +kernel
theorem dX10_erases_27 : decode cX10_erases 27 = .ok (.bipush (-2), 2) := by decide +kernel
theorem dX10_erases_29 : decode cX10_erases 29 = .ok (.invokevirtual 128, 3) := by decide +kernel
theorem dX10_erases_32 : decode cX10_erases 32 = .ok (.ireturn, 1) := by decide +kernel
theorem dX10_erases_33 : decode cX10_erases 33 = .ok (.aload_n 0, 1) := by decide +kernel
theorem dX10_erases_34 : decode cX10_erases 34 = .ok (.invokevirtual 137, 3) := by decide +kernel
theorem dX10_erases_37 : decode cX10_erases 37 = .ok (.bipush 13, 2) := by decide +kernel
theorem dX10_erases_39 : decode cX10_erases 39 = .ok (.bipush 30, 2) := by decide +kernel
theorem dX10_erases_41 : decode cX10_erases 41 = .ok (.iload_n 1, 1) := by decide +kernel
theorem dX10_erases_42 : decode cX10_erases 42 = .ok (.imul, 1) := by decide +kernel
theorem dX10_erases_43 : decode cX10_erases 43 = .ok (.iadd, 1) := by decide +kernel
theorem dX10_erases_44 : decode cX10_erases 44 = .ok (.istore_n 3, 1) := by decide +kernel
theorem dX10_erases_45 : decode cX10_erases 45 = .ok (.aload_n 0, 1) := by decide +kernel
theorem dX10_erases_46 : decode cX10_erases 46 = .ok (.getfield 7, 3) := by decide +kernel
theorem dX10_erases_49 : decode cX10_erases 49 = .ok (.iload_n 3, 1) := by decide +kernel
theorem dX10_erases_50 : decode cX10_erases 50 = .ok (.iload_n 2, 1) := by decide +kernel
theorem dX10_erases_51 : decode cX10_erases 51 = .ok (.iadd, 1) := by decide +kernel
theorem dX10_erases_52 : decode cX10_erases 52 = .ok (.iaload, 1) := by decide +kernel
theorem dX10_erases_53 : decode cX10_erases 53 = .ok (.istore 4, 2) := by decide +kernel
theorem dX10_erases_55 : decode cX10_erases 55 = .ok (.aload_n 0, 1) := by decide +kernel
theorem dX10_erases_56 : decode cX10_erases 56 = .ok (.getfield 7, 3) := by decide +kernel
theorem dX10_erases_59 : decode cX10_erases 59 = .ok (.iconst 3, 1) := by decide +kernel
theorem dX10_erases_60 : decode cX10_erases 60 = .ok (.iload_n 1, 1) := by decide +kernel
theorem dX10_erases_61 : decode cX10_erases 61 = .ok (.iadd, 1) := by decide +kernel
theorem dX10_erases_62 : decode cX10_erases 62 = .ok (.dup2, 1) := by decide +kernel
theorem dX10_erases_63 : decode cX10_erases 63 = .ok (.iaload, 1) := by decide +kernel
theorem dX10_erases_64 : decode cX10_erases 64 = .ok (.iconst 1, 1) := by decide +kernel
theorem dX10_erases_65 : decode cX10_erases 65 = .ok (.isub, 1) := by decide +kernel
theorem dX10_erases_66 : decode cX10_erases 66 = .ok (.iastore, 1) := by decide +kernel
theorem dX10_erases_67 : decode cX10_erases 67 = .ok (.iload_n 2, 1) := by decide +kernel
theorem dX10_erases_68 : decode cX10_erases 68 = .ok (.istore 5, 2) := by decide +kernel
theorem dX10_erases_70 : decode cX10_erases 70 = .ok (.iload 5, 2) := by decide +kernel
theorem dX10_erases_72 : decode cX10_erases 72 = .ok (.aload_n 0, 1) := by decide +kernel
theorem dX10_erases_73 : decode cX10_erases 73 = .ok (.getfield 7, 3) := by decide +kernel
theorem dX10_erases_76 : decode cX10_erases 76 = .ok (.iconst 3, 1) := by decide +kernel
theorem dX10_erases_77 : decode cX10_erases 77 = .ok (.iload_n 1, 1) := by decide +kernel
theorem dX10_erases_78 : decode cX10_erases 78 = .ok (.iadd, 1) := by decide +kernel
theorem dX10_erases_79 : decode cX10_erases 79 = .ok (.iaload, 1) := by decide +kernel
theorem dX10_erases_80 : decode cX10_erases 80 = .ok (.if_icmp .ge 29, 3) := by decide +kernel
theorem dX10_erases_83 : decode cX10_erases 83 = .ok (.aload_n 0, 1) := by decide +kernel
theorem dX10_erases_84 : decode cX10_erases 84 = .ok (.getfield 7, 3) := by decide +kernel
theorem dX10_erases_87 : decode cX10_erases 87 = .ok (.iload_n 3, 1) := by decide +kernel
theorem dX10_erases_88 : decode cX10_erases 88 = .ok (.iload 5, 2) := by decide +kernel
theorem dX10_erases_90 : decode cX10_erases 90 = .ok (.iadd, 1) := by decide +kernel
theorem dX10_erases_91 : decode cX10_erases 91 = .ok (.aload_n 0, 1) := by decide +kernel
theorem dX10_erases_92 : decode cX10_erases 92 = .ok (.getfield 7, 3) := by decide +kernel
theorem dX10_erases_95 : decode cX10_erases 95 = .ok (.iload_n 3, 1) := by decide +kernel
theorem dX10_erases_96 : decode cX10_erases 96 = .ok (.iload 5, 2) := by decide +kernel
theorem dX10_erases_98 : decode cX10_erases 98 = .ok (.iadd, 1) := by decide +kernel
theorem dX10_erases_99 : decode cX10_erases 99 = .ok (.iconst 1, 1) := by decide +kernel
theorem dX10_erases_100 : decode cX10_erases 100 = .ok (.iadd, 1) := by decide +kernel
theorem dX10_erases_101 : decode cX10_erases 101 = .ok (.iaload, 1) := by decide +kernel
theorem dX10_erases_102 : decode cX10_erases 102 = .ok (.iastore, 1) := by decide +kernel
theorem dX10_erases_103 : decode cX10_erases 103 = .ok (.iinc 5 1, 3) := by decide +kernel
theorem dX10_erases_106 : decode cX10_erases 106 = .ok (.goto (-36), 3) := by decide +kernel
theorem dX10_erases_109 : decode cX10_erases 109 = .ok (.aload_n 0, 1) := by decide +kernel
theorem dX10_erases_110 : decode cX10_erases 110 = .ok (.getfield 7, 3) := by decide +kernel
theorem dX10_erases_113 : decode cX10_erases 113 = .ok (.iload_n 3, 1) := by decide +kernel
theorem dX10_erases_114 : decode cX10_erases 114 = .ok (.aload_n 0, 1) := by decide +kernel
theorem dX10_erases_115 : decode cX10_erases 115 = .ok (.getfield 7, 3) := by decide +kernel
theorem dX10_erases_118 : decode cX10_erases 118 = .ok (.iconst 3, 1) := by decide +kernel
theorem dX10_erases_119 : decode cX10_erases 119 = .ok (.iload_n 1, 1) := by decide +kernel
theorem dX10_erases_120 : decode cX10_erases 120 = .ok (.iadd, 1) := by decide +kernel
theorem dX10_erases_121 : decode cX10_erases 121 = .ok (.iaload, 1) := by decide +kernel
theorem dX10_erases_122 : decode cX10_erases 122 = .ok (.iadd, 1) := by decide +kernel
theorem dX10_erases_123 : decode cX10_erases 123 = .ok (.iconst 0, 1) := by decide +kernel
theorem dX10_erases_124 : decode cX10_erases 124 = .ok (.iastore, 1) := by decide +kernel
theorem dX10_erases_125 : decode cX10_erases 125 = .ok (.aload_n 0, 1) := by decide +kernel
theorem dX10_erases_126 : decode cX10_erases 126 = .ok (.iload_n 1, 1) := by decide +kernel
theorem dX10_erases_127 : decode cX10_erases 127 = .ok (.iload_n 1, 1) := by decide +kernel
theorem dX10_erases_128 : decode cX10_erases 128 = .ok (.invokevirtual 147, 3) := by decide +kernel
theorem dX10_erases_131 : decode cX10_erases 131 = .ok (.iload 4, 2) := by decide +kernel
theorem dX10_erases_133 : decode cX10_erases 133 = .ok (.ireturn, 1) := by decide +kernel
theorem dX10_splits_0 : decode cX10_splits 0 = .ok (.aload_n 0, 1) := by decide +kernel
theorem dX10_splits_1 : decode cX10_splits 1 = .ok (.iload_n 1, 1) := by decide +kernel
theorem dX10_splits_2 : decode cX10_splits 2 = .ok (.invokevirtual 150, 3) := by decide +kernel
theorem dX10_splits_5 : decode cX10_splits 5 = .ok (.ifCond .eq 19, 3) := by decide +kernel
theorem dX10_splits_8 : decode cX10_splits 8 = .ok (.iload_n 2, 1) := by decide +kernel
theorem dX10_splits_9 : decode cX10_splits 9 = .ok (.iconst 0, 1) := by decide +kernel
theorem dX10_splits_10 : decode cX10_splits 10 = .ok (.aload_n 0, 1) := by decide +kernel
theorem dX10_splits_11 : decode cX10_splits 11 = .ok (.getfield 7, 3) := by decide +kernel
theorem dX10_splits_14 : decode cX10_splits 14 = .ok (.iconst 3, 1) := by decide +kernel
theorem dX10_splits_15 : decode cX10_splits 15 = .ok (.iload_n 1, 1) := by decide +kernel
theorem dX10_splits_16 : decode cX10_splits 16 = .ok (.iadd, 1) := by decide +kernel
theorem dX10_splits_17 : decode cX10_splits 17 = .ok (.iaload, 1) := by decide +kernel
theorem dX10_splits_18 : decode cX10_splits 18 = .ok (.invokestatic 57, 3) := by decide +kernel
theorem dX10_splits_21 : decode cX10_splits 21 = .ok (.ifCond .ne 10, 3) := by decide +kernel
theorem dX10_splits_24 : decode cX10_splits 24 = .ok (.aload_n 0, 1) := by decide +kernel
theorem dX10_splits_25 : decode cX10_splits 25 = .ok (.bipush (-2), 2) := by decide +kernel
theorem dX10_splits_27 : decode cX10_splits 27 = .ok (.invokevirtual 128, 3) := by decide +kernel
theorem dX10_splits_30 : decode cX10_splits 30 = .ok (.ireturn, 1) := by decide +kernel
theorem dX10_splits_31 : decode cX10_splits 31 = .ok (.aload_n 0, 1) := by decide +kernel
theorem dX10_splits_32 : decode cX10_splits 32 = .ok (.getfield 7, 3) := by decide +kernel
theorem dX10_splits_35 : decode cX10_splits 35 = .ok (.iconst 0, 1) := by decide +kernel
theorem dX10_splits_36 : decode cX10_splits 36 = .ok (.iaload, 1) := by decide +kernel
theorem dX10_splits_37 : decode cX10_splits 37 = .ok (.bipush 10, 2) := by decide +kernel
theorem dX10_splits_39 : decode cX10_splits 39 = .ok (.if_icmp .ne 10, 3) := by decide +kernel
theorem dX10_splits_42 : decode cX10_splits 42 = .ok (.aload_n 0, 1) := by decide +kernel
theorem dX10_splits_43 : decode cX10_splits 43 = .ok (.bipush (-4), 2) := by decide +kernel
theorem dX10_splits_45 : decode cX10_splits 45 = .ok (.invokevirtual 128, 3) := by decide +kernel
theorem dX10_splits_48 : decode cX10_splits 48 = .ok (.ireturn, 1) := by decide +kernel
theorem dX10_splits_49 : decode cX10_splits 49 = .ok (.aload_n 0, 1) := by decide +kernel
theorem dX10_splits_50 : decode cX10_splits 50 = .ok (.invokevirtual 137, 3) := by decide +kernel
theorem dX10_splits_53 : decode cX10_splits 53 = .ok (.aload_n 0, 1) := by decide +kernel
theorem dX10_splits_54 : decode cX10_splits 54 = .ok (.iload_n 1, 1) := by decide +kernel
theorem dX10_splits_55 : decode cX10_splits 55 = .ok (.iconst 1, 1) := by decide +kernel
theorem dX10_splits_56 : decode cX10_splits 56 = .ok (.iadd, 1) := by decide +kernel
theorem dX10_splits_57 : decode cX10_splits 57 = .ok (.invokevirtual 140, 3) := by decide +kernel
theorem dX10_splits_60 : decode cX10_splits 60 = .ok (.aload_n 0, 1) := by decide +kernel
theorem dX10_splits_61 : decode cX10_splits 61 = .ok (.getfield 7, 3) := by decide +kernel
theorem dX10_splits_64 : decode cX10_splits 64 = .ok (.iconst 3, 1) := by decide +kernel
theorem dX10_splits_65 : decode cX10_splits 65 = .ok (.iload_n 1, 1) := by decide +kernel
theorem dX10_splits_66 : decode cX10_splits 66 = .ok (.iadd, 1) := by decide +kernel
theorem dX10_splits_67 : decode cX10_splits 67 = .ok (.iaload, 1) := by decide +kernel
theorem dX10_splits_68 : decode cX10_splits 68 = .ok (.iload_n 2, 1) := by decide +kernel
theorem dX10_splits_69 : decode cX10_splits 69 = .ok (.isub, 1) := by decide +kernel
theorem dX10_splits_70 : decode cX10_splits 70 = .ok (.istore_n 3, 1) := by decide +kernel
theorem dX10_splits_71 : decode cX10_splits 71 = .ok (.bipush 13, 2) := by decide +kernel
theorem dX10_splits_73 : decode cX10_splits 73 = .ok (.bipush 30, 2) := by decide +kernel
theorem dX10_splits_75 : decode cX10_splits 75 = .ok (.iload_n 1, 1) := by decide +kernel
theorem dX10_splits_76 : decode cX10_splits 76 = .ok (.imul, 1) := by decide +kernel
theorem dX10_splits_77 : decode cX10_splits 77 = .ok (.iadd, 1) := by decide +kernel
theorem dX10_splits_78 : decode cX10_splits 78 = .ok (.iload_n 2, 1) := by decide +kernel
theorem dX10_splits_79 : decode cX10_splits 79 = .ok (.iadd, 1) := by decide +kernel
theorem dX10_splits_80 : decode cX10_splits 80 = .ok (.istore 4, 2) := by decide +kernel
theorem dX10_splits_82 : decode cX10_splits 82 = .ok (.iconst 0, 1) := by decide +kernel
theorem dX10_splits_83 : decode cX10_splits 83 = .ok (.istore 5, 2) := by decide +kernel
theorem dX10_splits_85 : decode cX10_splits 85 = .ok (.iload 5, 2) := by decide +kernel
theorem dX10_splits_87 : decode cX10_splits 87 = .ok (.iload_n 3, 1) := by decide +kernel
theorem dX10_splits_88 : decode cX10_splits 88 = .ok (.if_icmp .ge 47, 3) := by decide +kernel
theorem dX10_splits_91 : decode cX10_splits 91 = .ok (.aload_n 0, 1) := by decide +kernel
theorem dX10_splits_92 : decode cX10_splits 92 = .ok (.getfield 7, 3) := by decide +kernel
theorem dX10_splits_95 : decode cX10_splits 95 = .ok (.bipush 13, 2) := by decide +kernel
theorem dX10_splits_97 : decode cX10_splits 97 = .ok (.bipush 30, 2) := by decide +kernel
theorem dX10_splits_99 : decode cX10_splits 99 = .ok (.iload_n 1, 1) := by decide +kernel
theorem dX10_splits_100 : decode cX10_splits 100 = .ok (.iconst 1, 1) := by decide +kernel
theorem dX10_splits_101 : decode cX10_splits 101 = .ok (.iadd, 1) := by decide +kernel
theorem dX10_splits_102 : decode cX10_splits 102 = .ok (.imul, 1) := by decide +kernel
theorem dX10_splits_103 : decode cX10_splits 103 = .ok (.iadd, 1) := by decide +kernel
theorem dX10_splits_104 : decode cX10_splits 104 = .ok (.iload 5, 2) := by decide +kernel
theorem dX10_splits_106 : decode cX10_splits 106 = .ok (.iadd, 1) := by decide +kernel
theorem dX10_splits_107 : decode cX10_splits 107 = .ok (.aload_n 0, 1) := by decide +kernel
theorem dX10_splits_108 : decode cX10_splits 108 = .ok (.getfield 7, 3) := by decide +kernel
theorem dX10_splits_111 : decode cX10_splits 111 = .ok (.iload 4, 2) := by decide +kernel
theorem dX10_splits_113 : decode cX10_splits 113 = .ok (.iload 5, 2) := by decide +kernel
theorem dX10_splits_115 : decode cX10_splits 115 = .ok (.iadd, 1) := by decide +kernel
theorem dX10_splits_116 : decode cX10_splits 116 = .ok (.iaload, 1) := by decide +kernel
theorem dX10_splits_117 : decode cX10_splits 117 = .ok (.iastore, 1) := by decide +kernel
theorem dX10_splits_118 : decode cX10_splits 118 = .ok (.aload_n 0, 1) := by decide +kernel
theorem dX10_splits_119 : decode cX10_splits 119 = .ok (.getfield 7, 3) := by decide +kernel
theorem dX10_splits_122 : decode cX10_splits 122 = .ok (.iload 4, 2) := by decide +kernel
theorem dX10_splits_124 : decode cX10_splits 124 = .ok (.iload 5, 2) := by decide +kernel
theorem dX10_splits_126 : decode cX10_splits 126 = .ok (.iadd, 1) := by decide +kernel
theorem dX10_splits_127 : decode cX10_splits 127 = .ok (.iconst 0, 1) := by decide +kernel
theorem dX10_splits_128 : decode cX10_splits 128 = .ok (.iastore, 1) := by decide +kernel
theorem dX10_splits_129 : decode cX10_splits 129 = .ok (.iinc 5 1, 3) := by decide +kernel
theorem dX10_splits_132 : decode cX10_splits 132 = .ok (.goto (-47), 3) := by decide +kernel
theorem dX10_splits_135 : decode cX10_splits 135 = .ok (.aload_n 0, 1) := by decide +kernel
theorem dX10_splits_136 : decode cX10_splits 136 = .ok (.getfield 7, 3) := by decide +kernel
theorem dX10_splits_139 : decode cX10_splits 139 = .ok (.iconst 3, 1) := by decide +kernel
theorem dX10_splits_140 : decode cX10_splits 140 = .ok (.iload_n 1, 1) := by decide +kernel
theorem dX10_splits_141 : decode cX10_splits 141 = .ok (.iadd, 1) := by decide +kernel
theorem dX10_splits_142 : decode cX10_splits 142 = .ok (.iload_n 2, 1) := by decide +kernel
theorem dX10_splits_143 : decode cX10_splits 143 = .ok (.iastore, 1) := by decide +kernel
theorem dX10_splits_144 : decode cX10_splits 144 = .ok (.aload_n 0, 1) := by decide +kernel
theorem dX10_splits_145 : decode cX10_splits 145 = .ok (.getfield 7, 3) := by decide +kernel
theorem dX10_splits_148 : decode cX10_splits 148 = .ok (.iconst 3, 1) := by decide +kernel
theorem dX10_splits_149 : decode cX10_splits 149 = .ok (.iload_n 1, 1) := by decide +kernel
theorem dX10_splits_150 : decode cX10_splits 150 = .ok (.iadd, 1) := by decide +kernel
theorem dX10_splits_151 : decode cX10_splits 151 = .ok (.iconst 1, 1) := by decide +kernel
theorem dX10_splits_152 : decode cX10_splits 152 = .ok (.iadd, 1) := by decide +kernel
theorem dX10_splits_153 : decode cX10_splits 153 = .ok (.iload_n 3, 1) := by decide +kernel
theorem dX10_splits_154 : decode cX10_splits 154 = .ok (.iastore, 1) := by decide +kernel
theorem dX10_splits_155 : decode cX10_splits 155 = .ok (.aload_n 0, 1) := by decide +kernel
theorem dX10_splits_156 : decode cX10_splits 156 = .ok (.iload_n 1, 1) := by decide +kernel
theorem dX10_splits_157 : decode cX10_splits 157 = .ok (.iload_n 1, 1) := by decide +kernel
theorem dX10_splits_158 : decode cX10_splits 158 = .ok (.iconst 1, 1) := by decide +kernel
theorem dX10_splits_159 : decode cX10_splits 159 = .ok (.iadd, 1) := by decide +kernel
theorem dX10_splits_160 : decode cX10_splits 160 = .ok (.invokevirtual 147, 3) := by decide +kernel
theorem dX10_splits_163 : decode cX10_splits 163 = .ok (.aload_n 0, 1) := by decide +kernel
theorem dX10_splits_164 : decode cX10_splits 164 = .ok (.getfield 7, 3) := by decide +kernel
theorem dX10_splits_167 : decode cX10_splits 167 = .ok (.iconst 0, 1) := by decide +kernel
theorem dX10_splits_168 : decode cX10_splits 168 = .ok (.iaload, 1) := by decide +kernel
theorem dX10_splits_169 : decode cX10_splits 169 = .ok (.ireturn, 1) := by decide +kernel
theorem dX10_isTextWord_0 : decode cX10_isTextWord 0 = .ok (.aload_n 0, 1) := by decide +kernel
theorem dX10_isTextWord_1 : decode cX10_isTextWord 1 = .ok (.getfield 131, 3) := by decide +kernel
theorem dX10_isTextWord_4 : decode cX10_isTextWord 4 = .ok (.iconst 1, 1) := by decide +kernel
theorem dX10_isTextWord_5 : decode cX10_isTextWord 5 = .ok (.iconst 5, 1) := by decide +kernel
theorem dX10_isTextWord_6 : decode cX10_isTextWord 6 = .ok (.invokestatic 57, 3) := by decide +kernel
theorem dX10_isTextWord_9 : decode cX10_isTextWord 9 = .ok (.istore_n 1, 1) := by decide +kernel
theorem dX10_isTextWord_10 : decode cX10_isTextWord 10 = .ok (.iconst 0, 1) := by decide +kernel
theorem dX10_isTextWord_11 : decode cX10_isTextWord 11 = .ok (.istore_n 2, 1) := by decide +kernel
theorem dX10_isTextWord_12 : decode cX10_isTextWord 12 = .ok (.iload_n 2, 1) := by decide +kernel
theorem dX10_isTextWord_13 : decode cX10_isTextWord 13 = .ok (.aload_n 0, 1) := by decide +kernel
theorem dX10_isTextWord_14 : decode cX10_isTextWord 14 = .ok (.getfield 131, 3) := by decide +kernel
theorem dX10_isTextWord_17 : decode cX10_isTextWord 17 = .ok (.if_icmp .ge 31, 3) := by decide +kernel
theorem dX10_isTextWord_20 : decode cX10_isTextWord 20 = .ok (.iload_n 1, 1) := by decide +kernel
theorem dX10_isTextWord_21 : decode cX10_isTextWord 21 = .ok (.ifCond .eq 19, 3) := by decide +kernel
theorem dX10_isTextWord_24 : decode cX10_isTextWord 24 = .ok (.aload_n 0, 1) := by decide +kernel
theorem dX10_isTextWord_25 : decode cX10_isTextWord 25 = .ok (.getfield 19, 3) := by decide +kernel
theorem dX10_isTextWord_28 : decode cX10_isTextWord 28 = .ok (.iload_n 2, 1) := by decide +kernel
theorem dX10_isTextWord_29 : decode cX10_isTextWord 29 = .ok (.iaload, 1) := by decide +kernel
theorem dX10_isTextWord_30 : decode cX10_isTextWord 30 = .ok (.invokestatic 82, 3) := by decide +kernel
theorem dX10_isTextWord_33 : decode cX10_isTextWord 33 = .ok (.ifCond .eq 7, 3) := by decide +kernel
theorem dX10_isTextWord_36 : decode cX10_isTextWord 36 = .ok (.iconst 1, 1) := by decide +kernel
theorem dX10_isTextWord_37 : decode cX10_isTextWord 37 = .ok (.goto 4, 3) := by decide +kernel
theorem dX10_isTextWord_40 : decode cX10_isTextWord 40 = .ok (.iconst 0, 1) := by decide +kernel
theorem dX10_isTextWord_41 : decode cX10_isTextWord 41 = .ok (.istore_n 1, 1) := by decide +kernel
theorem dX10_isTextWord_42 : decode cX10_isTextWord 42 = .ok (.iinc 2 1, 3) := by decide +kernel
theorem dX10_isTextWord_45 : decode cX10_isTextWord 45 = .ok (.goto (-33), 3) := by decide +kernel
theorem dX10_isTextWord_48 : decode cX10_isTextWord 48 = .ok (.iload_n 1, 1) := by decide +kernel
theorem dX10_isTextWord_49 : decode cX10_isTextWord 49 = .ok (.ireturn, 1) := by decide +kernel
theorem dX10_isTold_0 : decode cX10_isTold 0 = .ok (.iconst 0, 1) := by decide +kernel
theorem dX10_isTold_1 : decode cX10_isTold 1 = .ok (.istore_n 1, 1) := by decide +kernel
theorem dX10_isTold_2 : decode cX10_isTold 2 = .ok (.iconst 0, 1) := by decide +kernel
theorem dX10_isTold_3 : decode cX10_isTold 3 = .ok (.istore_n 2, 1) := by decide +kernel
theorem dX10_isTold_4 : decode cX10_isTold 4 = .ok (.iload_n 2, 1) := by decide +kernel
theorem dX10_isTold_5 : decode cX10_isTold 5 = .ok (.aload_n 0, 1) := by decide +kernel
theorem dX10_isTold_6 : decode cX10_isTold 6 = .ok (.getfield 7, 3) := by decide +kernel
theorem dX10_isTold_9 : decode cX10_isTold 9 = .ok (.iconst 1, 1) := by decide +kernel
theorem dX10_isTold_10 : decode cX10_isTold 10 = .ok (.iaload, 1) := by decide +kernel
theorem dX10_isTold_11 : decode cX10_isTold 11 = .ok (.if_icmp .ge 99, 3) := by decide +kernel
theorem dX10_isTold_14 : decode cX10_isTold 14 = .ok (.aload_n 0, 1) := by decide +kernel
theorem dX10_isTold_15 : decode cX10_isTold 15 = .ok (.getfield 7, 3) := by decide +kernel
theorem dX10_isTold_18 : decode cX10_isTold 18 = .ok (.sipush 313, 3) := by decide +kernel
theorem dX10_isTold_21 : decode cX10_isTold 21 = .ok (.iload_n 2, 1) := by decide +kernel
theorem dX10_isTold_22 : decode cX10_isTold 22 = .ok (.iadd, 1) := by decide +kernel
theorem dX10_isTold_23 : decode cX10_isTold 23 = .ok (.iaload, 1) := by decide +kernel
theorem dX10_isTold_24 : decode cX10_isTold 24 = .ok (.aload_n 0, 1) := by decide +kernel
theorem dX10_isTold_25 : decode cX10_isTold 25 = .ok (.getfield 131, 3) := by decide +kernel
theorem dX10_isTold_28 : decode cX10_isTold 28 = .ok (.if_icmp .ne 7, 3) := by decide +kernel
theorem dX10_isTold_31 : decode cX10_isTold 31 = .ok (.iconst 1, 1) := by decide +kernel
theorem dX10_isTold_32 : decode cX10_isTold 32 = .ok (.goto 4, 3) := by decide +kernel
theorem dX10_isTold_35 : decode cX10_isTold 35 = .ok (.iconst 0, 1) := by decide +kernel
theorem dX10_isTold_36 : decode cX10_isTold 36 = .ok (.istore_n 3, 1) := by decide +kernel
theorem dX10_isTold_37 : decode cX10_isTold 37 = .ok (.iconst 0, 1) := by decide +kernel
theorem dX10_isTold_38 : decode cX10_isTold 38 = .ok (.istore 4, 2) := by decide +kernel
theorem dX10_isTold_40 : decode cX10_isTold 40 = .ok (.iload 4, 2) := by decide +kernel
theorem dX10_isTold_42 : decode cX10_isTold 42 = .ok (.aload_n 0, 1) := by decide +kernel
theorem dX10_isTold_43 : decode cX10_isTold 43 = .ok (.getfield 131, 3) := by decide +kernel
theorem dX10_isTold_46 : decode cX10_isTold 46 = .ok (.if_icmp .ge 44, 3) := by decide +kernel
theorem dX10_isTold_49 : decode cX10_isTold 49 = .ok (.iload_n 3, 1) := by decide +kernel
theorem dX10_isTold_50 : decode cX10_isTold 50 = .ok (.ifCond .eq 40, 3) := by decide +kernel
theorem dX10_isTold_53 : decode cX10_isTold 53 = .ok (.aload_n 0, 1) := by decide +kernel
theorem dX10_isTold_54 : decode cX10_isTold 54 = .ok (.getfield 7, 3) := by decide +kernel
theorem dX10_isTold_57 : decode cX10_isTold 57 = .ok (.sipush 317, 3) := by decide +kernel
theorem dX10_isTold_60 : decode cX10_isTold 60 = .ok (.iconst 5, 1) := by decide +kernel
theorem dX10_isTold_61 : decode cX10_isTold 61 = .ok (.iload_n 2, 1) := by decide +kernel
theorem dX10_isTold_62 : decode cX10_isTold 62 = .ok (.imul, 1) := by decide +kernel
theorem dX10_isTold_63 : decode cX10_isTold 63 = .ok (.iadd, 1) := by decide +kernel
theorem dX10_isTold_64 : decode cX10_isTold 64 = .ok (.iload 4, 2) := by decide +kernel
theorem dX10_isTold_66 : decode cX10_isTold 66 = .ok (.iadd, 1) := by decide +kernel
theorem dX10_isTold_67 : decode cX10_isTold 67 = .ok (.iaload, 1) := by decide +kernel
theorem dX10_isTold_68 : decode cX10_isTold 68 = .ok (.aload_n 0, 1) := by decide +kernel
theorem dX10_isTold_69 : decode cX10_isTold 69 = .ok (.getfield 19, 3) := by decide +kernel
theorem dX10_isTold_72 : decode cX10_isTold 72 = .ok (.iload 4, 2) := by decide +kernel
theorem dX10_isTold_74 : decode cX10_isTold 74 = .ok (.iaload, 1) := by decide +kernel
theorem dX10_isTold_75 : decode cX10_isTold 75 = .ok (.if_icmp .ne 7, 3) := by decide +kernel
theorem dX10_isTold_78 : decode cX10_isTold 78 = .ok (.iconst 1, 1) := by decide +kernel
theorem dX10_isTold_79 : decode cX10_isTold 79 = .ok (.goto 4, 3) := by decide +kernel
theorem dX10_isTold_82 : decode cX10_isTold 82 = .ok (.iconst 0, 1) := by decide +kernel
theorem dX10_isTold_83 : decode cX10_isTold 83 = .ok (.istore_n 3, 1) := by decide +kernel
theorem dX10_isTold_84 : decode cX10_isTold 84 = .ok (.iinc 4 1, 3) := by decide +kernel
theorem dX10_isTold_87 : decode cX10_isTold 87 = .ok (.goto (-47), 3) := by decide +kernel
theorem dX10_isTold_90 : decode cX10_isTold 90 = .ok (.iload_n 1, 1) := by decide +kernel
theorem dX10_isTold_91 : decode cX10_isTold 91 = .ok (.ifCond .ne 7, 3) := by decide +kernel
theorem dX10_isTold_94 : decode cX10_isTold 94 = .ok (.iload_n 3, 1) := by decide +kernel
theorem dX10_isTold_95 : decode cX10_isTold 95 = .ok (.ifCond .eq 7, 3) := by decide +kernel
theorem dX10_isTold_98 : decode cX10_isTold 98 = .ok (.iconst 1, 1) := by decide +kernel
theorem dX10_isTold_99 : decode cX10_isTold 99 = .ok (.goto 4, 3) := by decide +kernel
theorem dX10_isTold_102 : decode cX10_isTold 102 = .ok (.iconst 0, 1) := by decide +kernel
theorem dX10_isTold_103 : decode cX10_isTold 103 = .ok (.istore_n 1, 1) := by decide +kernel
theorem dX10_isTold_104 : decode cX10_isTold 104 = .ok (.iinc 2 1, 3) := by decide +kernel
theorem dX10_isTold_107 : decode cX10_isTold 107 = .ok (.goto (-103), 3) := by decide +kernel
theorem dX10_isTold_110 : decode cX10_isTold 110 = .ok (.iload_n 1, 1) := by decide +kernel
theorem dX10_isTold_111 : decode cX10_isTold 111 = .ok (.ireturn, 1) := by decide +kernel
theorem dX10_word_0 : decode cX10_word 0 = .ok (.aload_n 0, 1) := by decide +kernel
theorem dX10_word_1 : decode cX10_word 1 = .ok (.invokevirtual 153, 3) := by decide +kernel
theorem dX10_word_4 : decode cX10_word 4 = .ok (.ifCond .eq 10, 3) := by decide +kernel
theorem dX10_word_7 : decode cX10_word 7 = .ok (.aload_n 0, 1) := by decide +kernel
theorem dX10_word_8 : decode cX10_word 8 = .ok (.invokevirtual 157, 3) := by decide +kernel
theorem dX10_word_11 : decode cX10_word 11 = .ok (.ifCond .eq 10, 3) := by decide +kernel
theorem dX10_word_14 : decode cX10_word 14 = .ok (.aload_n 0, 1) := by decide +kernel
theorem dX10_word_15 : decode cX10_word 15 = .ok (.bipush (-3), 2) := by decide +kernel
theorem dX10_word_17 : decode cX10_word 17 = .ok (.invokevirtual 128, 3) := by decide +kernel
theorem dX10_word_20 : decode cX10_word 20 = .ok (.ireturn, 1) := by decide +kernel
theorem dX10_word_21 : decode cX10_word 21 = .ok (.aload_n 0, 1) := by decide +kernel
theorem dX10_word_22 : decode cX10_word 22 = .ok (.getfield 7, 3) := by decide +kernel
theorem dX10_word_25 : decode cX10_word 25 = .ok (.iconst 1, 1) := by decide +kernel
theorem dX10_word_26 : decode cX10_word 26 = .ok (.iaload, 1) := by decide +kernel
theorem dX10_word_27 : decode cX10_word 27 = .ok (.iconst 4, 1) := by decide +kernel
theorem dX10_word_28 : decode cX10_word 28 = .ok (.if_icmp .ne 10, 3) := by decide +kernel
theorem dX10_word_31 : decode cX10_word 31 = .ok (.aload_n 0, 1) := by decide +kernel
theorem dX10_word_32 : decode cX10_word 32 = .ok (.bipush (-4), 2) := by decide +kernel
theorem dX10_word_34 : decode cX10_word 34 = .ok (.invokevirtual 128, 3) := by decide +kernel
theorem dX10_word_37 : decode cX10_word 37 = .ok (.ireturn, 1) := by decide +kernel
theorem dX10_word_38 : decode cX10_word 38 = .ok (.aload_n 0, 1) := by decide +kernel
theorem dX10_word_39 : decode cX10_word 39 = .ok (.invokevirtual 137, 3) := by decide +kernel
theorem dX10_word_42 : decode cX10_word 42 = .ok (.aload_n 0, 1) := by decide +kernel
theorem dX10_word_43 : decode cX10_word 43 = .ok (.getfield 7, 3) := by decide +kernel
theorem dX10_word_46 : decode cX10_word 46 = .ok (.iconst 1, 1) := by decide +kernel
theorem dX10_word_47 : decode cX10_word 47 = .ok (.iaload, 1) := by decide +kernel
theorem dX10_word_48 : decode cX10_word 48 = .ok (.istore_n 1, 1) := by decide +kernel
theorem dX10_word_49 : decode cX10_word 49 = .ok (.aload_n 0, 1) := by decide +kernel
theorem dX10_word_50 : decode cX10_word 50 = .ok (.getfield 7, 3) := by decide +kernel
theorem dX10_word_53 : decode cX10_word 53 = .ok (.sipush 313, 3) := by decide +kernel
theorem dX10_word_56 : decode cX10_word 56 = .ok (.iload_n 1, 1) := by decide +kernel
theorem dX10_word_57 : decode cX10_word 57 = .ok (.iadd, 1) := by decide +kernel
theorem dX10_word_58 : decode cX10_word 58 = .ok (.aload_n 0, 1) := by decide +kernel
theorem dX10_word_59 : decode cX10_word 59 = .ok (.getfield 131, 3) := by decide +kernel
theorem dX10_word_62 : decode cX10_word 62 = .ok (.iastore, 1) := by decide +kernel
theorem dX10_word_63 : decode cX10_word 63 = .ok (.iconst 0, 1) := by decide +kernel
theorem dX10_word_64 : decode cX10_word 64 = .ok (.istore_n 2, 1) := by decide +kernel
theorem dX10_word_65 : decode cX10_word 65 = .ok (.iload_n 2, 1) := by decide +kernel
theorem dX10_word_66 : decode cX10_word 66 = .ok (.aload_n 0, 1) := by decide +kernel
theorem dX10_word_67 : decode cX10_word 67 = .ok (.getfield 131, 3) := by decide +kernel
theorem dX10_word_70 : decode cX10_word 70 = .ok (.if_icmp .ge 29, 3) := by decide +kernel
theorem dX10_word_73 : decode cX10_word 73 = .ok (.aload_n 0, 1) := by decide +kernel
theorem dX10_word_74 : decode cX10_word 74 = .ok (.getfield 7, 3) := by decide +kernel
theorem dX10_word_77 : decode cX10_word 77 = .ok (.sipush 317, 3) := by decide +kernel
theorem dX10_word_80 : decode cX10_word 80 = .ok (.iconst 5, 1) := by decide +kernel
theorem dX10_word_81 : decode cX10_word 81 = .ok (.iload_n 1, 1) := by decide +kernel
theorem dX10_word_82 : decode cX10_word 82 = .ok (.imul, 1) := by decide +kernel
theorem dX10_word_83 : decode cX10_word 83 = .ok (.iadd, 1) := by decide +kernel
theorem dX10_word_84 : decode cX10_word 84 = .ok (.iload_n 2, 1) := by decide +kernel
theorem dX10_word_85 : decode cX10_word 85 = .ok (.iadd, 1) := by decide +kernel
theorem dX10_word_86 : decode cX10_word 86 = .ok (.aload_n 0, 1) := by decide +kernel
theorem dX10_word_87 : decode cX10_word 87 = .ok (.getfield 19, 3) := by decide +kernel
theorem dX10_word_90 : decode cX10_word 90 = .ok (.iload_n 2, 1) := by decide +kernel
theorem dX10_word_91 : decode cX10_word 91 = .ok (.iaload, 1) := by decide +kernel
theorem dX10_word_92 : decode cX10_word 92 = .ok (.iastore, 1) := by decide +kernel
theorem dX10_word_93 : decode cX10_word 93 = .ok (.iinc 2 1, 3) := by decide +kernel
theorem dX10_word_96 : decode cX10_word 96 = .ok (.goto (-31), 3) := by decide +kernel
theorem dX10_word_99 : decode cX10_word 99 = .ok (.aload_n 0, 1) := by decide +kernel
theorem dX10_word_100 : decode cX10_word 100 = .ok (.getfield 7, 3) := by decide +kernel
theorem dX10_word_103 : decode cX10_word 103 = .ok (.iconst 1, 1) := by decide +kernel
theorem dX10_word_104 : decode cX10_word 104 = .ok (.dup2, 1) := by decide +kernel
theorem dX10_word_105 : decode cX10_word 105 = .ok (.iaload, 1) := by decide +kernel
theorem dX10_word_106 : decode cX10_word 106 = .ok (.iconst 1, 1) := by decide +kernel
theorem dX10_word_107 : decode cX10_word 107 = .ok (.iadd, 1) := by decide +kernel
theorem dX10_word_108 : decode cX10_word 108 = .ok (.iastore, 1) := by decide +kernel
theorem dX10_word_109 : decode cX10_word 109 = .ok (.aload_n 0, 1) := by decide +kernel
theorem dX10_word_110 : decode cX10_word 110 = .ok (.iconst 0, 1) := by decide +kernel
theorem dX10_word_111 : decode cX10_word 111 = .ok (.aload_n 0, 1) := by decide +kernel
theorem dX10_word_112 : decode cX10_word 112 = .ok (.getfield 7, 3) := by decide +kernel
theorem dX10_word_115 : decode cX10_word 115 = .ok (.iconst 0, 1) := by decide +kernel
theorem dX10_word_116 : decode cX10_word 116 = .ok (.iaload, 1) := by decide +kernel
theorem dX10_word_117 : decode cX10_word 117 = .ok (.invokevirtual 147, 3) := by decide +kernel
theorem dX10_word_120 : decode cX10_word 120 = .ok (.iload_n 1, 1) := by decide +kernel
theorem dX10_word_121 : decode cX10_word 121 = .ok (.ireturn, 1) := by decide +kernel
theorem dX10_unword_0 : decode cX10_unword 0 = .ok (.iload_n 1, 1) := by decide +kernel
theorem dX10_unword_1 : decode cX10_unword 1 = .ok (.iconst 0, 1) := by decide +kernel
theorem dX10_unword_2 : decode cX10_unword 2 = .ok (.bipush 25, 2) := by decide +kernel
theorem dX10_unword_4 : decode cX10_unword 4 = .ok (.invokestatic 57, 3) := by decide +kernel
theorem dX10_unword_7 : decode cX10_unword 7 = .ok (.ifCond .ne 10, 3) := by decide +kernel
theorem dX10_unword_10 : decode cX10_unword 10 = .ok (.aload_n 0, 1) := by decide +kernel
theorem dX10_unword_11 : decode cX10_unword 11 = .ok (.bipush (-2), 2) := by decide +kernel
theorem dX10_unword_13 : decode cX10_unword 13 = .ok (.invokevirtual 128, 3) := by decide +kernel
theorem dX10_unword_16 : decode cX10_unword 16 = .ok (.ireturn, 1) := by decide +kernel
theorem dX10_unword_17 : decode cX10_unword 17 = .ok (.aload_n 0, 1) := by decide +kernel
theorem dX10_unword_18 : decode cX10_unword 18 = .ok (.invokevirtual 137, 3) := by decide +kernel
theorem dX10_unword_21 : decode cX10_unword 21 = .ok (.iconst 0, 1) := by decide +kernel
theorem dX10_unword_22 : decode cX10_unword 22 = .ok (.istore_n 2, 1) := by decide +kernel
theorem dX10_unword_23 : decode cX10_unword 23 = .ok (.aload_n 0, 1) := by decide +kernel
theorem dX10_unword_24 : decode cX10_unword 24 = .ok (.getfield 7, 3) := by decide +kernel
theorem dX10_unword_27 : decode cX10_unword 27 = .ok (.iconst 1, 1) := by decide +kernel
theorem dX10_unword_28 : decode cX10_unword 28 = .ok (.iaload, 1) := by decide +kernel
theorem dX10_unword_29 : decode cX10_unword 29 = .ok (.istore_n 3, 1) := by decide +kernel
theorem dX10_unword_30 : decode cX10_unword 30 = .ok (.iconst 0, 1) := by decide +kernel
theorem dX10_unword_31 : decode cX10_unword 31 = .ok (.istore 4, 2) := by decide +kernel
theorem dX10_unword_33 : decode cX10_unword 33 = .ok (.iload 4, 2) := by decide +kernel
theorem dX10_unword_35 : decode cX10_unword 35 = .ok (.iload_n 3, 1) := by decide +kernel
theorem dX10_unword_36 : decode cX10_unword 36 = .ok (.if_icmp .ge 99, 3) := by decide +kernel
theorem dX10_unword_39 : decode cX10_unword 39 = .ok (.aload_n 0, 1) := by decide +kernel
theorem dX10_unword_40 : decode cX10_unword 40 = .ok (.getfield 7, 3) := by decide +kernel
theorem dX10_unword_43 : decode cX10_unword 43 = .ok (.sipush 317, 3) := by decide +kernel
theorem dX10_unword_46 : decode cX10_unword 46 = .ok (.iconst 5, 1) := by decide +kernel
theorem dX10_unword_47 : decode cX10_unword 47 = .ok (.iload 4, 2) := by decide +kernel
theorem dX10_unword_49 : decode cX10_unword 49 = .ok (.imul, 1) := by decide +kernel
theorem dX10_unword_50 : decode cX10_unword 50 = .ok (.iadd, 1) := by decide +kernel
theorem dX10_unword_51 : decode cX10_unword 51 = .ok (.iaload, 1) := by decide +kernel
theorem dX10_unword_52 : decode cX10_unword 52 = .ok (.bipush 97, 2) := by decide +kernel
theorem dX10_unword_54 : decode cX10_unword 54 = .ok (.iload_n 1, 1) := by decide +kernel
theorem dX10_unword_55 : decode cX10_unword 55 = .ok (.iadd, 1) := by decide +kernel
theorem dX10_unword_56 : decode cX10_unword 56 = .ok (.if_icmp .eq 73, 3) := by decide +kernel
theorem dX10_unword_59 : decode cX10_unword 59 = .ok (.aload_n 0, 1) := by decide +kernel
theorem dX10_unword_60 : decode cX10_unword 60 = .ok (.getfield 7, 3) := by decide +kernel
theorem dX10_unword_63 : decode cX10_unword 63 = .ok (.sipush 313, 3) := by decide +kernel
theorem dX10_unword_66 : decode cX10_unword 66 = .ok (.iload_n 2, 1) := by decide +kernel
theorem dX10_unword_67 : decode cX10_unword 67 = .ok (.iadd, 1) := by decide +kernel
theorem dX10_unword_68 : decode cX10_unword 68 = .ok (.aload_n 0, 1) := by decide +kernel
theorem dX10_unword_69 : decode cX10_unword 69 = .ok (.getfield 7, 3) := by decide +kernel
theorem dX10_unword_72 : decode cX10_unword 72 = .ok (.sipush 313, 3) := by decide +kernel
theorem dX10_unword_75 : decode cX10_unword 75 = .ok (.iload 4, 2) := by decide +kernel
theorem dX10_unword_77 : decode cX10_unword 77 = .ok (.iadd, 1) := by decide +kernel
theorem dX10_unword_78 : decode cX10_unword 78 = .ok (.iaload, 1) := by decide +kernel
theorem dX10_unword_79 : decode cX10_unword 79 = .ok (.iastore, 1) := by decide +kernel
theorem dX10_unword_80 : decode cX10_unword 80 = .ok (.iconst 0, 1) := by decide +kernel
theorem dX10_unword_81 : decode cX10_unword 81 = .ok (.istore 5, 2) := by decide +kernel
theorem dX10_unword_83 : decode cX10_unword 83 = .ok (.iload 5, 2) := by decide +kernel
theorem dX10_unword_85 : decode cX10_unword 85 = .ok (.iconst 5, 1) := by decide +kernel
theorem dX10_unword_86 : decode cX10_unword 86 = .ok (.if_icmp .ge 40, 3) := by decide +kernel
theorem dX10_unword_89 : decode cX10_unword 89 = .ok (.aload_n 0, 1) := by decide +kernel
theorem dX10_unword_90 : decode cX10_unword 90 = .ok (.getfield 7, 3) := by decide +kernel
theorem dX10_unword_93 : decode cX10_unword 93 = .ok (.sipush 317, 3) := by decide +kernel
theorem dX10_unword_96 : decode cX10_unword 96 = .ok (.iconst 5, 1) := by decide +kernel
theorem dX10_unword_97 : decode cX10_unword 97 = .ok (.iload_n 2, 1) := by decide +kernel
theorem dX10_unword_98 : decode cX10_unword 98 = .ok (.imul, 1) := by decide +kernel
theorem dX10_unword_99 : decode cX10_unword 99 = .ok (.iadd, 1) := by decide +kernel
theorem dX10_unword_100 : decode cX10_unword 100 = .ok (.iload 5, 2) := by decide +kernel
theorem dX10_unword_102 : decode cX10_unword 102 = .ok (.iadd, 1) := by decide +kernel
theorem dX10_unword_103 : decode cX10_unword 103 = .ok (.aload_n 0, 1) := by decide +kernel
theorem dX10_unword_104 : decode cX10_unword 104 = .ok (.getfield 7, 3) := by decide +kernel
theorem dX10_unword_107 : decode cX10_unword 107 = .ok (.sipush 317, 3) := by decide +kernel
theorem dX10_unword_110 : decode cX10_unword 110 = .ok (.iconst 5, 1) := by decide +kernel
theorem dX10_unword_111 : decode cX10_unword 111 = .ok (.iload 4, 2) := by decide +kernel
theorem dX10_unword_113 : decode cX10_unword 113 = .ok (.imul, 1) := by decide +kernel
theorem dX10_unword_114 : decode cX10_unword 114 = .ok (.iadd, 1) := by decide +kernel
theorem dX10_unword_115 : decode cX10_unword 115 = .ok (.iload 5, 2) := by decide +kernel
theorem dX10_unword_117 : decode cX10_unword 117 = .ok (.iadd, 1) := by decide +kernel
