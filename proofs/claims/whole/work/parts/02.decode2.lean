theorem dX9_of_75 : decode cX9_of 75 = .ok (.ireturn, 1) := by decide +kernel
theorem dX9_of_76 : decode cX9_of 76 = .ok (.aload_n 3, 1) := by decide +kernel
theorem dX9_of_77 : decode cX9_of 77 = .ok (.invokevirtual 145, 3) := by decide +kernel
theorem dX9_of_80 : decode cX9_of 80 = .ok (.ireturn, 1) := by decide +kernel
theorem dX9_of_81 : decode cX9_of 81 = .ok (.aload_n 3, 1) := by decide +kernel
theorem dX9_of_82 : decode cX9_of 82 = .ok (.getfield 149, 3) := by decide +kernel
theorem dX9_of_85 : decode cX9_of 85 = .ok (.getfield 153, 3) := by decide +kernel
theorem dX9_of_88 : decode cX9_of 88 = .ok (.ireturn, 1) := by decide +kernel
theorem dX9_of_89 : decode cX9_of 89 = .ok (.aload_n 3, 1) := by decide +kernel
theorem dX9_of_90 : decode cX9_of 90 = .ok (.getfield 149, 3) := by decide +kernel
theorem dX9_of_93 : decode cX9_of 93 = .ok (.invokevirtual 158, 3) := by decide +kernel
theorem dX9_of_96 : decode cX9_of 96 = .ok (.ireturn, 1) := by decide +kernel
theorem dX9_of_97 : decode cX9_of 97 = .ok (.aload_n 3, 1) := by decide +kernel
theorem dX9_of_98 : decode cX9_of 98 = .ok (.getfield 149, 3) := by decide +kernel
theorem dX9_of_101 : decode cX9_of 101 = .ok (.invokevirtual 161, 3) := by decide +kernel
theorem dX9_of_104 : decode cX9_of 104 = .ok (.ireturn, 1) := by decide +kernel
theorem dX9_of_105 : decode cX9_of 105 = .ok (.aload_n 3, 1) := by decide +kernel
theorem dX9_of_106 : decode cX9_of 106 = .ok (.getfield 149, 3) := by decide +kernel
theorem dX9_of_109 : decode cX9_of 109 = .ok (.getfield 164, 3) := by decide +kernel
theorem dX9_of_112 : decode cX9_of 112 = .ok (.ireturn, 1) := by decide +kernel
theorem dX9_of_113 : decode cX9_of 113 = .ok (.aload_n 0, 1) := by decide +kernel
theorem dX9_of_114 : decode cX9_of 114 = .ok (.bipush (-2), 2) := by decide +kernel
theorem dX9_of_116 : decode cX9_of 116 = .ok (.invokevirtual 44, 3) := by decide +kernel
theorem dX9_of_119 : decode cX9_of 119 = .ok (.ireturn, 1) := by decide +kernel
theorem dX9_span_0 : decode cX9_span 0 = .ok (.aload_n 0, 1) := by decide +kernel
theorem dX9_span_1 : decode cX9_span 1 = .ok (.getfield 21, 3) := by decide +kernel
theorem dX9_span_4 : decode cX9_span 4 = .ok (.iload_n 1, 1) := by decide +kernel
theorem dX9_span_5 : decode cX9_span 5 = .ok (.invokevirtual 82, 3) := by decide +kernel
theorem dX9_span_8 : decode cX9_span 8 = .ok (.ifCond .eq 16, 3) := by decide +kernel
theorem dX9_span_11 : decode cX9_span 11 = .ok (.iload_n 2, 1) := by decide +kernel
theorem dX9_span_12 : decode cX9_span 12 = .ok (.ifCond .lt 12, 3) := by decide +kernel
theorem dX9_span_15 : decode cX9_span 15 = .ok (.iload_n 3, 1) := by decide +kernel
theorem dX9_span_16 : decode cX9_span 16 = .ok (.ifCond .lt 8, 3) := by decide +kernel
theorem dX9_span_19 : decode cX9_span 19 = .ok (.iload_n 3, 1) := by decide +kernel
theorem dX9_span_20 : decode cX9_span 20 = .ok (.iconst 2, 1) := by decide +kernel
theorem dX9_span_21 : decode cX9_span 21 = .ok (.if_icmp .le 10, 3) := by decide +kernel
theorem dX9_span_24 : decode cX9_span 24 = .ok (.aload_n 0, 1) := by decide +kernel
theorem dX9_span_25 : decode cX9_span 25 = .ok (.bipush (-2), 2) := by decide +kernel
theorem dX9_span_27 : decode cX9_span 27 = .ok (.invokevirtual 44, 3) := by decide +kernel
theorem dX9_span_30 : decode cX9_span 30 = .ok (.ireturn, 1) := by decide +kernel
theorem dX9_span_31 : decode cX9_span 31 = .ok (.aload_n 0, 1) := by decide +kernel
theorem dX9_span_32 : decode cX9_span 32 = .ok (.getfield 21, 3) := by decide +kernel
theorem dX9_span_35 : decode cX9_span 35 = .ok (.getfield 65, 3) := by decide +kernel
theorem dX9_span_38 : decode cX9_span 38 = .ok (.iload_n 1, 1) := by decide +kernel
theorem dX9_span_39 : decode cX9_span 39 = .ok (.aaload, 1) := by decide +kernel
theorem dX9_span_40 : decode cX9_span 40 = .ok (.astore 4, 2) := by decide +kernel
theorem dX9_span_42 : decode cX9_span 42 = .ok (.aload 4, 2) := by decide +kernel
theorem dX9_span_44 : decode cX9_span 44 = .ok (.iload_n 2, 1) := by decide +kernel
theorem dX9_span_45 : decode cX9_span 45 = .ok (.invokevirtual 167, 3) := by decide +kernel
theorem dX9_span_48 : decode cX9_span 48 = .ok (.istore 5, 2) := by decide +kernel
theorem dX9_span_50 : decode cX9_span 50 = .ok (.iload 5, 2) := by decide +kernel
theorem dX9_span_52 : decode cX9_span 52 = .ok (.iconst (-1), 1) := by decide +kernel
theorem dX9_span_53 : decode cX9_span 53 = .ok (.if_icmp .ne 5, 3) := by decide +kernel
theorem dX9_span_56 : decode cX9_span 56 = .ok (.iconst (-1), 1) := by decide +kernel
theorem dX9_span_57 : decode cX9_span 57 = .ok (.ireturn, 1) := by decide +kernel
theorem dX9_span_58 : decode cX9_span 58 = .ok (.iload_n 3, 1) := by decide +kernel
theorem dX9_span_59 : decode cX9_span 59 = .ok (.lookupswitch 39 #[(0, 25), (1, 28)], 25) := by decide +kernel
theorem dX9_span_84 : decode cX9_span 84 = .ok (.iload 5, 2) := by decide +kernel
theorem dX9_span_86 : decode cX9_span 86 = .ok (.ireturn, 1) := by decide +kernel
theorem dX9_span_87 : decode cX9_span 87 = .ok (.aload 4, 2) := by decide +kernel
theorem dX9_span_89 : decode cX9_span 89 = .ok (.iload 5, 2) := by decide +kernel
theorem dX9_span_91 : decode cX9_span 91 = .ok (.invokevirtual 170, 3) := by decide +kernel
theorem dX9_span_94 : decode cX9_span 94 = .ok (.iload 5, 2) := by decide +kernel
theorem dX9_span_96 : decode cX9_span 96 = .ok (.isub, 1) := by decide +kernel
theorem dX9_span_97 : decode cX9_span 97 = .ok (.ireturn, 1) := by decide +kernel
theorem dX9_span_98 : decode cX9_span 98 = .ok (.aload 4, 2) := by decide +kernel
theorem dX9_span_100 : decode cX9_span 100 = .ok (.getfield 136, 3) := by decide +kernel
theorem dX9_span_103 : decode cX9_span 103 = .ok (.iload 5, 2) := by decide +kernel
theorem dX9_span_105 : decode cX9_span 105 = .ok (.iaload, 1) := by decide +kernel
theorem dX9_span_106 : decode cX9_span 106 = .ok (.ireturn, 1) := by decide +kernel
theorem dX9_anew_0 : decode cX9_anew 0 = .ok (.aload_n 0, 1) := by decide +kernel
theorem dX9_anew_1 : decode cX9_anew 1 = .ok (.getfield 36, 3) := by decide +kernel
theorem dX9_anew_4 : decode cX9_anew 4 = .ok (.ireturn, 1) := by decide +kernel
theorem dX9_painted_0 : decode cX9_painted 0 = .ok (.iload_n 1, 1) := by decide +kernel
theorem dX9_painted_1 : decode cX9_painted 1 = .ok (.ifCond .lt 9, 3) := by decide +kernel
theorem dX9_painted_4 : decode cX9_painted 4 = .ok (.iload_n 1, 1) := by decide +kernel
theorem dX9_painted_5 : decode cX9_painted 5 = .ok (.bipush 8, 2) := by decide +kernel
theorem dX9_painted_7 : decode cX9_painted 7 = .ok (.if_icmp .lt 10, 3) := by decide +kernel
theorem dX9_painted_10 : decode cX9_painted 10 = .ok (.aload_n 0, 1) := by decide +kernel
theorem dX9_painted_11 : decode cX9_painted 11 = .ok (.bipush (-2), 2) := by decide +kernel
theorem dX9_painted_13 : decode cX9_painted 13 = .ok (.invokevirtual 44, 3) := by decide +kernel
theorem dX9_painted_16 : decode cX9_painted 16 = .ok (.ireturn, 1) := by decide +kernel
theorem dX9_painted_17 : decode cX9_painted 17 = .ok (.iconst 0, 1) := by decide +kernel
theorem dX9_painted_18 : decode cX9_painted 18 = .ok (.istore_n 2, 1) := by decide +kernel
theorem dX9_painted_19 : decode cX9_painted 19 = .ok (.iconst 0, 1) := by decide +kernel
theorem dX9_painted_20 : decode cX9_painted 20 = .ok (.istore_n 3, 1) := by decide +kernel
theorem dX9_painted_21 : decode cX9_painted 21 = .ok (.iload_n 3, 1) := by decide +kernel
theorem dX9_painted_22 : decode cX9_painted 22 = .ok (.aload_n 0, 1) := by decide +kernel
theorem dX9_painted_23 : decode cX9_painted 23 = .ok (.getfield 21, 3) := by decide +kernel
theorem dX9_painted_26 : decode cX9_painted 26 = .ok (.getfield 55, 3) := by decide +kernel
theorem dX9_painted_29 : decode cX9_painted 29 = .ok (.if_icmp .ge 25, 3) := by decide +kernel
theorem dX9_painted_32 : decode cX9_painted 32 = .ok (.iload_n 2, 1) := by decide +kernel
theorem dX9_painted_33 : decode cX9_painted 33 = .ok (.aload_n 0, 1) := by decide +kernel
theorem dX9_painted_34 : decode cX9_painted 34 = .ok (.getfield 21, 3) := by decide +kernel
theorem dX9_painted_37 : decode cX9_painted 37 = .ok (.getfield 65, 3) := by decide +kernel
theorem dX9_painted_40 : decode cX9_painted 40 = .ok (.iload_n 3, 1) := by decide +kernel
theorem dX9_painted_41 : decode cX9_painted 41 = .ok (.aaload, 1) := by decide +kernel
theorem dX9_painted_42 : decode cX9_painted 42 = .ok (.iload_n 1, 1) := by decide +kernel
theorem dX9_painted_43 : decode cX9_painted 43 = .ok (.invokevirtual 173, 3) := by decide +kernel
theorem dX9_painted_46 : decode cX9_painted 46 = .ok (.iadd, 1) := by decide +kernel
theorem dX9_painted_47 : decode cX9_painted 47 = .ok (.istore_n 2, 1) := by decide +kernel
theorem dX9_painted_48 : decode cX9_painted 48 = .ok (.iinc 3 1, 3) := by decide +kernel
theorem dX9_painted_51 : decode cX9_painted 51 = .ok (.goto (-30), 3) := by decide +kernel
theorem dX9_painted_54 : decode cX9_painted 54 = .ok (.iload_n 2, 1) := by decide +kernel
theorem dX9_painted_55 : decode cX9_painted 55 = .ok (.ireturn, 1) := by decide +kernel
theorem dX9_back_0 : decode cX9_back 0 = .ok (.aload_n 0, 1) := by decide +kernel
theorem dX9_back_1 : decode cX9_back 1 = .ok (.getfield 28, 3) := by decide +kernel
theorem dX9_back_4 : decode cX9_back 4 = .ok (.getfield 176, 3) := by decide +kernel
theorem dX9_back_7 : decode cX9_back 7 = .ok (.ifCond .ne 10, 3) := by decide +kernel
theorem dX9_back_10 : decode cX9_back 10 = .ok (.aload_n 0, 1) := by decide +kernel
theorem dX9_back_11 : decode cX9_back 11 = .ok (.bipush (-3), 2) := by decide +kernel
theorem dX9_back_13 : decode cX9_back 13 = .ok (.invokevirtual 44, 3) := by decide +kernel
theorem dX9_back_16 : decode cX9_back 16 = .ok (.ireturn, 1) := by decide +kernel
theorem dX9_back_17 : decode cX9_back 17 = .ok (.aload_n 0, 1) := by decide +kernel
theorem dX9_back_18 : decode cX9_back 18 = .ok (.getfield 28, 3) := by decide +kernel
theorem dX9_back_21 : decode cX9_back 21 = .ok (.aload_n 0, 1) := by decide +kernel
theorem dX9_back_22 : decode cX9_back 22 = .ok (.getfield 21, 3) := by decide +kernel
theorem dX9_back_25 : decode cX9_back 25 = .ok (.invokevirtual 177, 3) := by decide +kernel
theorem dX9_back_28 : decode cX9_back 28 = .ok (.aload_n 0, 1) := by decide +kernel
theorem dX9_back_29 : decode cX9_back 29 = .ok (.getfield 21, 3) := by decide +kernel
theorem dX9_back_32 : decode cX9_back 32 = .ok (.iconst 0, 1) := by decide +kernel
theorem dX9_back_33 : decode cX9_back 33 = .ok (.aload_n 0, 1) := by decide +kernel
theorem dX9_back_34 : decode cX9_back 34 = .ok (.getfield 21, 3) := by decide +kernel
theorem dX9_back_37 : decode cX9_back 37 = .ok (.getfield 55, 3) := by decide +kernel
theorem dX9_back_40 : decode cX9_back 40 = .ok (.invokevirtual 78, 3) := by decide +kernel
theorem dX9_back_43 : decode cX9_back 43 = .ok (.pop, 1) := by decide +kernel
theorem dX9_back_44 : decode cX9_back 44 = .ok (.aload_n 0, 1) := by decide +kernel
theorem dX9_back_45 : decode cX9_back 45 = .ok (.iconst 0, 1) := by decide +kernel
theorem dX9_back_46 : decode cX9_back 46 = .ok (.putfield 36, 3) := by decide +kernel
theorem dX9_back_49 : decode cX9_back 49 = .ok (.aload_n 0, 1) := by decide +kernel
theorem dX9_back_50 : decode cX9_back 50 = .ok (.getfield 28, 3) := by decide +kernel
theorem dX9_back_53 : decode cX9_back 53 = .ok (.getfield 176, 3) := by decide +kernel
theorem dX9_back_56 : decode cX9_back 56 = .ok (.ireturn, 1) := by decide +kernel
theorem dX9_told_0 : decode cX9_told 0 = .ok (.iload_n 1, 1) := by decide +kernel
theorem dX9_told_1 : decode cX9_told 1 = .ok (.tableswitch 100 0 7 #[47, 47, 47, 54, 62, 70, 81, 92], 47) := by decide +kernel
theorem dX9_told_48 : decode cX9_told 48 = .ok (.aload_n 0, 1) := by decide +kernel
theorem dX9_told_49 : decode cX9_told 49 = .ok (.getfield 32, 3) := by decide +kernel
theorem dX9_told_52 : decode cX9_told 52 = .ok (.iload_n 1, 1) := by decide +kernel
theorem dX9_told_53 : decode cX9_told 53 = .ok (.iaload, 1) := by decide +kernel
theorem dX9_told_54 : decode cX9_told 54 = .ok (.ireturn, 1) := by decide +kernel
theorem dX9_told_55 : decode cX9_told 55 = .ok (.aload_n 0, 1) := by decide +kernel
theorem dX9_told_56 : decode cX9_told 56 = .ok (.getfield 14, 3) := by decide +kernel
theorem dX9_told_59 : decode cX9_told 59 = .ok (.getfield 48, 3) := by decide +kernel
theorem dX9_told_62 : decode cX9_told 62 = .ok (.ireturn, 1) := by decide +kernel
theorem dX9_told_63 : decode cX9_told 63 = .ok (.aload_n 0, 1) := by decide +kernel
theorem dX9_told_64 : decode cX9_told 64 = .ok (.getfield 21, 3) := by decide +kernel
theorem dX9_told_67 : decode cX9_told 67 = .ok (.getfield 55, 3) := by decide +kernel
theorem dX9_told_70 : decode cX9_told 70 = .ok (.ireturn, 1) := by decide +kernel
theorem dX9_told_71 : decode cX9_told 71 = .ok (.aload_n 0, 1) := by decide +kernel
theorem dX9_told_72 : decode cX9_told 72 = .ok (.getfield 21, 3) := by decide +kernel
theorem dX9_told_75 : decode cX9_told 75 = .ok (.getfield 109, 3) := by decide +kernel
theorem dX9_told_78 : decode cX9_told 78 = .ok (.getfield 119, 3) := by decide +kernel
theorem dX9_told_81 : decode cX9_told 81 = .ok (.ireturn, 1) := by decide +kernel
theorem dX9_told_82 : decode cX9_told 82 = .ok (.aload_n 0, 1) := by decide +kernel
theorem dX9_told_83 : decode cX9_told 83 = .ok (.getfield 21, 3) := by decide +kernel
theorem dX9_told_86 : decode cX9_told 86 = .ok (.getfield 126, 3) := by decide +kernel
theorem dX9_told_89 : decode cX9_told 89 = .ok (.getfield 130, 3) := by decide +kernel
theorem dX9_told_92 : decode cX9_told 92 = .ok (.ireturn, 1) := by decide +kernel
theorem dX9_told_93 : decode cX9_told 93 = .ok (.aload_n 0, 1) := by decide +kernel
theorem dX9_told_94 : decode cX9_told 94 = .ok (.getfield 28, 3) := by decide +kernel
theorem dX9_told_97 : decode cX9_told 97 = .ok (.getfield 176, 3) := by decide +kernel
theorem dX9_told_100 : decode cX9_told 100 = .ok (.ireturn, 1) := by decide +kernel
theorem dX9_told_101 : decode cX9_told 101 = .ok (.aload_n 0, 1) := by decide +kernel
theorem dX9_told_102 : decode cX9_told 102 = .ok (.bipush (-2), 2) := by decide +kernel
theorem dX9_told_104 : decode cX9_told 104 = .ok (.invokevirtual 44, 3) := by decide +kernel
theorem dX9_told_107 : decode cX9_told 107 = .ok (.ireturn, 1) := by decide +kernel
theorem dX9_digest_0 : decode cX9_digest 0 = .ok (.ldc2_w 180, 3) := by decide +kernel
theorem dX9_digest_3 : decode cX9_digest 3 = .ok (.lstore_n 1, 1) := by decide +kernel
theorem dX9_digest_4 : decode cX9_digest 4 = .ok (.iconst 0, 1) := by decide +kernel
theorem dX9_digest_5 : decode cX9_digest 5 = .ok (.istore_n 3, 1) := by decide +kernel
theorem dX9_digest_6 : decode cX9_digest 6 = .ok (.iload_n 3, 1) := by decide +kernel
theorem dX9_digest_7 : decode cX9_digest 7 = .ok (.bipush 7, 2) := by decide +kernel
theorem dX9_digest_9 : decode cX9_digest 9 = .ok (.if_icmp .gt 22, 3) := by decide +kernel
theorem dX9_digest_12 : decode cX9_digest 12 = .ok (.ldc2_w 182, 3) := by decide +kernel
theorem dX9_digest_15 : decode cX9_digest 15 = .ok (.lload_n 1, 1) := by decide +kernel
theorem dX9_digest_16 : decode cX9_digest 16 = .ok (.lmul, 1) := by decide +kernel
theorem dX9_digest_17 : decode cX9_digest 17 = .ok (.aload_n 0, 1) := by decide +kernel
theorem dX9_digest_18 : decode cX9_digest 18 = .ok (.iload_n 3, 1) := by decide +kernel
theorem dX9_digest_19 : decode cX9_digest 19 = .ok (.invokevirtual 184, 3) := by decide +kernel
theorem dX9_digest_22 : decode cX9_digest 22 = .ok (.i2l, 1) := by decide +kernel
theorem dX9_digest_23 : decode cX9_digest 23 = .ok (.ladd, 1) := by decide +kernel
theorem dX9_digest_24 : decode cX9_digest 24 = .ok (.lstore_n 1, 1) := by decide +kernel
theorem dX9_digest_25 : decode cX9_digest 25 = .ok (.iinc 3 1, 3) := by decide +kernel
theorem dX9_digest_28 : decode cX9_digest 28 = .ok (.goto (-22), 3) := by decide +kernel
theorem dX9_digest_31 : decode cX9_digest 31 = .ok (.ldc2_w 182, 3) := by decide +kernel
theorem dX9_digest_34 : decode cX9_digest 34 = .ok (.lload_n 1, 1) := by decide +kernel
theorem dX9_digest_35 : decode cX9_digest 35 = .ok (.lmul, 1) := by decide +kernel
theorem dX9_digest_36 : decode cX9_digest 36 = .ok (.aload_n 0, 1) := by decide +kernel
theorem dX9_digest_37 : decode cX9_digest 37 = .ok (.getfield 36, 3) := by decide +kernel
theorem dX9_digest_40 : decode cX9_digest 40 = .ok (.i2l, 1) := by decide +kernel
theorem dX9_digest_41 : decode cX9_digest 41 = .ok (.ladd, 1) := by decide +kernel
theorem dX9_digest_42 : decode cX9_digest 42 = .ok (.lstore_n 1, 1) := by decide +kernel
theorem dX9_digest_43 : decode cX9_digest 43 = .ok (.iconst 0, 1) := by decide +kernel
theorem dX9_digest_44 : decode cX9_digest 44 = .ok (.istore_n 3, 1) := by decide +kernel
theorem dX9_digest_45 : decode cX9_digest 45 = .ok (.iload_n 3, 1) := by decide +kernel
theorem dX9_digest_46 : decode cX9_digest 46 = .ok (.aload_n 0, 1) := by decide +kernel
theorem dX9_digest_47 : decode cX9_digest 47 = .ok (.getfield 21, 3) := by decide +kernel
theorem dX9_digest_50 : decode cX9_digest 50 = .ok (.getfield 55, 3) := by decide +kernel
theorem dX9_digest_53 : decode cX9_digest 53 = .ok (.if_icmp .ge 16, 3) := by decide +kernel
theorem dX9_digest_56 : decode cX9_digest 56 = .ok (.aload_n 0, 1) := by decide +kernel
theorem dX9_digest_57 : decode cX9_digest 57 = .ok (.lload_n 1, 1) := by decide +kernel
theorem dX9_digest_58 : decode cX9_digest 58 = .ok (.iload_n 3, 1) := by decide +kernel
theorem dX9_digest_59 : decode cX9_digest 59 = .ok (.invokevirtual 187, 3) := by decide +kernel
theorem dX9_digest_62 : decode cX9_digest 62 = .ok (.lstore_n 1, 1) := by decide +kernel
theorem dX9_digest_63 : decode cX9_digest 63 = .ok (.iinc 3 1, 3) := by decide +kernel
theorem dX9_digest_66 : decode cX9_digest 66 = .ok (.goto (-21), 3) := by decide +kernel
theorem dX9_digest_69 : decode cX9_digest 69 = .ok (.lload_n 1, 1) := by decide +kernel
theorem dX9_digest_70 : decode cX9_digest 70 = .ok (.lreturn, 1) := by decide +kernel
theorem dX9_digestLine_0 : decode cX9_digestLine 0 = .ok (.lload_n 1, 1) := by decide +kernel
theorem dX9_digestLine_1 : decode cX9_digestLine 1 = .ok (.lstore 4, 2) := by decide +kernel
theorem dX9_digestLine_3 : decode cX9_digestLine 3 = .ok (.iconst 0, 1) := by decide +kernel
theorem dX9_digestLine_4 : decode cX9_digestLine 4 = .ok (.istore 6, 2) := by decide +kernel
theorem dX9_digestLine_6 : decode cX9_digestLine 6 = .ok (.iload 6, 2) := by decide +kernel
theorem dX9_digestLine_8 : decode cX9_digestLine 8 = .ok (.iconst 5, 1) := by decide +kernel
theorem dX9_digestLine_9 : decode cX9_digestLine 9 = .ok (.if_icmp .gt 26, 3) := by decide +kernel
theorem dX9_digestLine_12 : decode cX9_digestLine 12 = .ok (.ldc2_w 182, 3) := by decide +kernel
theorem dX9_digestLine_15 : decode cX9_digestLine 15 = .ok (.lload 4, 2) := by decide +kernel
theorem dX9_digestLine_17 : decode cX9_digestLine 17 = .ok (.lmul, 1) := by decide +kernel
theorem dX9_digestLine_18 : decode cX9_digestLine 18 = .ok (.aload_n 0, 1) := by decide +kernel
theorem dX9_digestLine_19 : decode cX9_digestLine 19 = .ok (.iload_n 3, 1) := by decide +kernel
theorem dX9_digestLine_20 : decode cX9_digestLine 20 = .ok (.iload 6, 2) := by decide +kernel
theorem dX9_digestLine_22 : decode cX9_digestLine 22 = .ok (.invokevirtual 191, 3) := by decide +kernel
theorem dX9_digestLine_25 : decode cX9_digestLine 25 = .ok (.i2l, 1) := by decide +kernel
theorem dX9_digestLine_26 : decode cX9_digestLine 26 = .ok (.ladd, 1) := by decide +kernel
theorem dX9_digestLine_27 : decode cX9_digestLine 27 = .ok (.lstore 4, 2) := by decide +kernel
theorem dX9_digestLine_29 : decode cX9_digestLine 29 = .ok (.iinc 6 1, 3) := by decide +kernel
theorem dX9_digestLine_32 : decode cX9_digestLine 32 = .ok (.goto (-26), 3) := by decide +kernel
theorem dX9_digestLine_35 : decode cX9_digestLine 35 = .ok (.iconst 0, 1) := by decide +kernel
theorem dX9_digestLine_36 : decode cX9_digestLine 36 = .ok (.istore 6, 2) := by decide +kernel
theorem dX9_digestLine_38 : decode cX9_digestLine 38 = .ok (.iload 6, 2) := by decide +kernel
theorem dX9_digestLine_40 : decode cX9_digestLine 40 = .ok (.aload_n 0, 1) := by decide +kernel
theorem dX9_digestLine_41 : decode cX9_digestLine 41 = .ok (.getfield 21, 3) := by decide +kernel
theorem dX9_digestLine_44 : decode cX9_digestLine 44 = .ok (.getfield 65, 3) := by decide +kernel
theorem dX9_digestLine_47 : decode cX9_digestLine 47 = .ok (.iload_n 3, 1) := by decide +kernel
theorem dX9_digestLine_48 : decode cX9_digestLine 48 = .ok (.aaload, 1) := by decide +kernel
theorem dX9_digestLine_49 : decode cX9_digestLine 49 = .ok (.getfield 69, 3) := by decide +kernel
theorem dX9_digestLine_52 : decode cX9_digestLine 52 = .ok (.getfield 48, 3) := by decide +kernel
theorem dX9_digestLine_55 : decode cX9_digestLine 55 = .ok (.if_icmp .ge 43, 3) := by decide +kernel
theorem dX9_digestLine_58 : decode cX9_digestLine 58 = .ok (.iconst 0, 1) := by decide +kernel
theorem dX9_digestLine_59 : decode cX9_digestLine 59 = .ok (.istore 7, 2) := by decide +kernel
theorem dX9_digestLine_61 : decode cX9_digestLine 61 = .ok (.iload 7, 2) := by decide +kernel
theorem dX9_digestLine_63 : decode cX9_digestLine 63 = .ok (.iconst 2, 1) := by decide +kernel
theorem dX9_digestLine_64 : decode cX9_digestLine 64 = .ok (.if_icmp .gt 28, 3) := by decide +kernel
theorem dX9_digestLine_67 : decode cX9_digestLine 67 = .ok (.ldc2_w 182, 3) := by decide +kernel
theorem dX9_digestLine_70 : decode cX9_digestLine 70 = .ok (.lload 4, 2) := by decide +kernel
theorem dX9_digestLine_72 : decode cX9_digestLine 72 = .ok (.lmul, 1) := by decide +kernel
theorem dX9_digestLine_73 : decode cX9_digestLine 73 = .ok (.aload_n 0, 1) := by decide +kernel
theorem dX9_digestLine_74 : decode cX9_digestLine 74 = .ok (.iload_n 3, 1) := by decide +kernel
theorem dX9_digestLine_75 : decode cX9_digestLine 75 = .ok (.iload 6, 2) := by decide +kernel
theorem dX9_digestLine_77 : decode cX9_digestLine 77 = .ok (.iload 7, 2) := by decide +kernel
theorem dX9_digestLine_79 : decode cX9_digestLine 79 = .ok (.invokevirtual 194, 3) := by decide +kernel
theorem dX9_digestLine_82 : decode cX9_digestLine 82 = .ok (.i2l, 1) := by decide +kernel
theorem dX9_digestLine_83 : decode cX9_digestLine 83 = .ok (.ladd, 1) := by decide +kernel
theorem dX9_digestLine_84 : decode cX9_digestLine 84 = .ok (.lstore 4, 2) := by decide +kernel
theorem dX9_digestLine_86 : decode cX9_digestLine 86 = .ok (.iinc 7 1, 3) := by decide +kernel
theorem dX9_digestLine_89 : decode cX9_digestLine 89 = .ok (.goto (-28), 3) := by decide +kernel
theorem dX9_digestLine_92 : decode cX9_digestLine 92 = .ok (.iinc 6 1, 3) := by decide +kernel
theorem dX9_digestLine_95 : decode cX9_digestLine 95 = .ok (.goto (-57), 3) := by decide +kernel
theorem dX9_digestLine_98 : decode cX9_digestLine 98 = .ok (.lload 4, 2) := by decide +kernel
theorem dX9_digestLine_100 : decode cX9_digestLine 100 = .ok (.lreturn, 1) := by decide +kernel
theorem dX9_refuse_0 : decode cX9_refuse 0 = .ok (.bipush (-2), 2) := by decide +kernel
theorem dX9_refuse_2 : decode cX9_refuse 2 = .ok (.iload_n 1, 1) := by decide +kernel
theorem dX9_refuse_3 : decode cX9_refuse 3 = .ok (.isub, 1) := by decide +kernel
theorem dX9_refuse_4 : decode cX9_refuse 4 = .ok (.istore_n 2, 1) := by decide +kernel
theorem dX9_refuse_5 : decode cX9_refuse 5 = .ok (.iload_n 2, 1) := by decide +kernel
theorem dX9_refuse_6 : decode cX9_refuse 6 = .ok (.ifCond .lt 22, 3) := by decide +kernel
theorem dX9_refuse_9 : decode cX9_refuse 9 = .ok (.iload_n 2, 1) := by decide +kernel
theorem dX9_refuse_10 : decode cX9_refuse 10 = .ok (.aload_n 0, 1) := by decide +kernel
theorem dX9_refuse_11 : decode cX9_refuse 11 = .ok (.getfield 32, 3) := by decide +kernel
theorem dX9_refuse_14 : decode cX9_refuse 14 = .ok (.arraylength, 1) := by decide +kernel
theorem dX9_refuse_15 : decode cX9_refuse 15 = .ok (.if_icmp .ge 13, 3) := by decide +kernel
theorem dX9_refuse_18 : decode cX9_refuse 18 = .ok (.aload_n 0, 1) := by decide +kernel
theorem dX9_refuse_19 : decode cX9_refuse 19 = .ok (.getfield 32, 3) := by decide +kernel
theorem dX9_refuse_22 : decode cX9_refuse 22 = .ok (.iload_n 2, 1) := by decide +kernel
theorem dX9_refuse_23 : decode cX9_refuse 23 = .ok (.dup2, 1) := by decide +kernel
theorem dX9_refuse_24 : decode cX9_refuse 24 = .ok (.iaload, 1) := by decide +kernel
theorem dX9_refuse_25 : decode cX9_refuse 25 = .ok (.iconst 1, 1) := by decide +kernel
theorem dX9_refuse_26 : decode cX9_refuse 26 = .ok (.iadd, 1) := by decide +kernel
theorem dX9_refuse_27 : decode cX9_refuse 27 = .ok (.iastore, 1) := by decide +kernel
theorem dX9_refuse_28 : decode cX9_refuse 28 = .ok (.iload_n 1, 1) := by decide +kernel
theorem dX9_refuse_29 : decode cX9_refuse 29 = .ok (.ireturn, 1) := by decide +kernel
theorem dX9_isByte_0 : decode cX9_isByte 0 = .ok (.iload_n 0, 1) := by decide +kernel
theorem dX9_isByte_1 : decode cX9_isByte 1 = .ok (.bipush 32, 2) := by decide +kernel
theorem dX9_isByte_3 : decode cX9_isByte 3 = .ok (.if_icmp .lt 13, 3) := by decide +kernel
theorem dX9_isByte_6 : decode cX9_isByte 6 = .ok (.iload_n 0, 1) := by decide +kernel
theorem dX9_isByte_7 : decode cX9_isByte 7 = .ok (.bipush 126, 2) := by decide +kernel
theorem dX9_isByte_9 : decode cX9_isByte 9 = .ok (.if_icmp .gt 7, 3) := by decide +kernel
theorem dX9_isByte_12 : decode cX9_isByte 12 = .ok (.iconst 1, 1) := by decide +kernel
theorem dX9_isByte_13 : decode cX9_isByte 13 = .ok (.goto 4, 3) := by decide +kernel
theorem dX9_isByte_16 : decode cX9_isByte 16 = .ok (.iconst 0, 1) := by decide +kernel
theorem dX9_isByte_17 : decode cX9_isByte 17 = .ok (.ireturn, 1) := by decide +kernel
theorem dX9_isLetter_0 : decode cX9_isLetter 0 = .ok (.iload_n 0, 1) := by decide +kernel
theorem dX9_isLetter_1 : decode cX9_isLetter 1 = .ok (.bipush 97, 2) := by decide +kernel
theorem dX9_isLetter_3 : decode cX9_isLetter 3 = .ok (.if_icmp .lt 13, 3) := by decide +kernel
theorem dX9_isLetter_6 : decode cX9_isLetter 6 = .ok (.iload_n 0, 1) := by decide +kernel
theorem dX9_isLetter_7 : decode cX9_isLetter 7 = .ok (.bipush 122, 2) := by decide +kernel
theorem dX9_isLetter_9 : decode cX9_isLetter 9 = .ok (.if_icmp .gt 7, 3) := by decide +kernel
theorem dX9_isLetter_12 : decode cX9_isLetter 12 = .ok (.iconst 1, 1) := by decide +kernel
theorem dX9_isLetter_13 : decode cX9_isLetter 13 = .ok (.goto 4, 3) := by decide +kernel
theorem dX9_isLetter_16 : decode cX9_isLetter 16 = .ok (.iconst 0, 1) := by decide +kernel
theorem dX9_isLetter_17 : decode cX9_isLetter 17 = .ok (.ireturn, 1) := by decide +kernel
theorem dX9_isFigure_0 : decode cX9_isFigure 0 = .ok (.iload_n 0, 1) := by decide +kernel
theorem dX9_isFigure_1 : decode cX9_isFigure 1 = .ok (.bipush 48, 2) := by decide +kernel
theorem dX9_isFigure_3 : decode cX9_isFigure 3 = .ok (.if_icmp .lt 13, 3) := by decide +kernel
theorem dX9_isFigure_6 : decode cX9_isFigure 6 = .ok (.iload_n 0, 1) := by decide +kernel
theorem dX9_isFigure_7 : decode cX9_isFigure 7 = .ok (.bipush 57, 2) := by decide +kernel
theorem dX9_isFigure_9 : decode cX9_isFigure 9 = .ok (.if_icmp .gt 7, 3) := by decide +kernel
theorem dX9_isFigure_12 : decode cX9_isFigure 12 = .ok (.iconst 1, 1) := by decide +kernel
theorem dX9_isFigure_13 : decode cX9_isFigure 13 = .ok (.goto 4, 3) := by decide +kernel
theorem dX9_isFigure_16 : decode cX9_isFigure 16 = .ok (.iconst 0, 1) := by decide +kernel
theorem dX9_isFigure_17 : decode cX9_isFigure 17 = .ok (.ireturn, 1) := by decide +kernel
theorem dX9_isCapital_0 : decode cX9_isCapital 0 = .ok (.iload_n 0, 1) := by decide +kernel
theorem dX9_isCapital_1 : decode cX9_isCapital 1 = .ok (.bipush 65, 2) := by decide +kernel
theorem dX9_isCapital_3 : decode cX9_isCapital 3 = .ok (.if_icmp .lt 13, 3) := by decide +kernel
theorem dX9_isCapital_6 : decode cX9_isCapital 6 = .ok (.iload_n 0, 1) := by decide +kernel
theorem dX9_isCapital_7 : decode cX9_isCapital 7 = .ok (.bipush 90, 2) := by decide +kernel
theorem dX9_isCapital_9 : decode cX9_isCapital 9 = .ok (.if_icmp .gt 7, 3) := by decide +kernel
theorem dX9_isCapital_12 : decode cX9_isCapital 12 = .ok (.iconst 1, 1) := by decide +kernel
theorem dX9_isCapital_13 : decode cX9_isCapital 13 = .ok (.goto 4, 3) := by decide +kernel
theorem dX9_isCapital_16 : decode cX9_isCapital 16 = .ok (.iconst 0, 1) := by decide +kernel
theorem dX9_isCapital_17 : decode cX9_isCapital 17 = .ok (.ireturn, 1) := by decide +kernel
theorem dX9_isQuote_0 : decode cX9_isQuote 0 = .ok (.iload_n 0, 1) := by decide +kernel
theorem dX9_isQuote_1 : decode cX9_isQuote 1 = .ok (.bipush 34, 2) := by decide +kernel
theorem dX9_isQuote_3 : decode cX9_isQuote 3 = .ok (.if_icmp .eq 9, 3) := by decide +kernel
theorem dX9_isQuote_6 : decode cX9_isQuote 6 = .ok (.iload_n 0, 1) := by decide +kernel
theorem dX9_isQuote_7 : decode cX9_isQuote 7 = .ok (.bipush 39, 2) := by decide +kernel
theorem dX9_isQuote_9 : decode cX9_isQuote 9 = .ok (.if_icmp .ne 7, 3) := by decide +kernel
theorem dX9_isQuote_12 : decode cX9_isQuote 12 = .ok (.iconst 1, 1) := by decide +kernel
theorem dX9_isQuote_13 : decode cX9_isQuote 13 = .ok (.goto 4, 3) := by decide +kernel
theorem dX9_isQuote_16 : decode cX9_isQuote 16 = .ok (.iconst 0, 1) := by decide +kernel
theorem dX9_isQuote_17 : decode cX9_isQuote 17 = .ok (.ireturn, 1) := by decide +kernel
theorem dX9_isWordLike_0 : decode cX9_isWordLike 0 = .ok (.aload_n 0, 1) := by decide +kernel
theorem dX9_isWordLike_1 : decode cX9_isWordLike 1 = .ok (.getfield 48, 3) := by decide +kernel
theorem dX9_isWordLike_4 : decode cX9_isWordLike 4 = .ok (.iconst 1, 1) := by decide +kernel
theorem dX9_isWordLike_5 : decode cX9_isWordLike 5 = .ok (.if_icmp .lt 11, 3) := by decide +kernel
theorem dX9_isWordLike_8 : decode cX9_isWordLike 8 = .ok (.aload_n 0, 1) := by decide +kernel
theorem dX9_isWordLike_9 : decode cX9_isWordLike 9 = .ok (.getfield 48, 3) := by decide +kernel
theorem dX9_isWordLike_12 : decode cX9_isWordLike 12 = .ok (.iconst 5, 1) := by decide +kernel
theorem dX9_isWordLike_13 : decode cX9_isWordLike 13 = .ok (.if_icmp .le 5, 3) := by decide +kernel
theorem dX9_isWordLike_16 : decode cX9_isWordLike 16 = .ok (.iconst 0, 1) := by decide +kernel
theorem dX9_isWordLike_17 : decode cX9_isWordLike 17 = .ok (.ireturn, 1) := by decide +kernel
theorem dX9_isWordLike_18 : decode cX9_isWordLike 18 = .ok (.iconst 0, 1) := by decide +kernel
theorem dX9_isWordLike_19 : decode cX9_isWordLike 19 = .ok (.istore_n 1, 1) := by decide +kernel
theorem dX9_isWordLike_20 : decode cX9_isWordLike 20 = .ok (.iload_n 1, 1) := by decide +kernel
theorem dX9_isWordLike_21 : decode cX9_isWordLike 21 = .ok (.aload_n 0, 1) := by decide +kernel
theorem dX9_isWordLike_22 : decode cX9_isWordLike 22 = .ok (.getfield 48, 3) := by decide +kernel
theorem dX9_isWordLike_25 : decode cX9_isWordLike 25 = .ok (.if_icmp .ge 22, 3) := by decide +kernel
theorem dX9_isWordLike_28 : decode cX9_isWordLike 28 = .ok (.aload_n 0, 1) := by decide +kernel
theorem dX9_isWordLike_29 : decode cX9_isWordLike 29 = .ok (.iload_n 1, 1) := by decide +kernel
theorem dX9_isWordLike_30 : decode cX9_isWordLike 30 = .ok (.invokevirtual 96, 3) := by decide +kernel
theorem dX9_isWordLike_33 : decode cX9_isWordLike 33 = .ok (.invokestatic 198, 3) := by decide +kernel
theorem dX9_isWordLike_36 : decode cX9_isWordLike 36 = .ok (.ifCond .ne 5, 3) := by decide +kernel
theorem dX9_isWordLike_39 : decode cX9_isWordLike 39 = .ok (.iconst 0, 1) := by decide +kernel
theorem dX9_isWordLike_40 : decode cX9_isWordLike 40 = .ok (.ireturn, 1) := by decide +kernel
theorem dX9_isWordLike_41 : decode cX9_isWordLike 41 = .ok (.iinc 1 1, 3) := by decide +kernel
theorem dX9_isWordLike_44 : decode cX9_isWordLike 44 = .ok (.goto (-24), 3) := by decide +kernel
theorem dX9_isWordLike_47 : decode cX9_isWordLike 47 = .ok (.iconst 1, 1) := by decide +kernel
theorem dX9_isWordLike_48 : decode cX9_isWordLike 48 = .ok (.ireturn, 1) := by decide +kernel
theorem dX10_init_0 : decode cX10_init 0 = .ok (.aload_n 0, 1) := by decide +kernel
theorem dX10_init_1 : decode cX10_init 1 = .ok (.invokespecial 1, 3) := by decide +kernel
theorem dX10_init_4 : decode cX10_init 4 = .ok (.aload_n 0, 1) := by decide +kernel
theorem dX10_init_5 : decode cX10_init 5 = .ok (.sipush 373, 3) := by decide +kernel
theorem dX10_init_8 : decode cX10_init 8 = .ok (.newarray .int, 2) := by decide +kernel
theorem dX10_init_10 : decode cX10_init 10 = .ok (.putfield 7, 3) := by decide +kernel
theorem dX10_init_13 : decode cX10_init 13 = .ok (.aload_n 0, 1) := by decide +kernel
theorem dX10_init_14 : decode cX10_init 14 = .ok (.sipush 1865, 3) := by decide +kernel
theorem dX10_init_17 : decode cX10_init 17 = .ok (.newarray .int, 2) := by decide +kernel
theorem dX10_init_19 : decode cX10_init 19 = .ok (.putfield 13, 3) := by decide +kernel
theorem dX10_init_22 : decode cX10_init 22 = .ok (.aload_n 0, 1) := by decide +kernel
theorem dX10_init_23 : decode cX10_init 23 = .ok (.iconst 3, 1) := by decide +kernel
theorem dX10_init_24 : decode cX10_init 24 = .ok (.newarray .int, 2) := by decide +kernel
theorem dX10_init_26 : decode cX10_init 26 = .ok (.putfield 16, 3) := by decide +kernel
theorem dX10_init_29 : decode cX10_init 29 = .ok (.aload_n 0, 1) := by decide +kernel
theorem dX10_init_30 : decode cX10_init 30 = .ok (.bipush 30, 2) := by decide +kernel
theorem dX10_init_32 : decode cX10_init 32 = .ok (.newarray .int, 2) := by decide +kernel
theorem dX10_init_34 : decode cX10_init 34 = .ok (.putfield 19, 3) := by decide +kernel
theorem dX10_init_37 : decode cX10_init 37 = .ok (.aload_n 0, 1) := by decide +kernel
theorem dX10_init_38 : decode cX10_init 38 = .ok (.sipush 300, 3) := by decide +kernel
theorem dX10_init_41 : decode cX10_init 41 = .ok (.newarray .int, 2) := by decide +kernel
theorem dX10_init_43 : decode cX10_init 43 = .ok (.putfield 22, 3) := by decide +kernel
theorem dX10_init_46 : decode cX10_init 46 = .ok (.aload_n 0, 1) := by decide +kernel
theorem dX10_init_47 : decode cX10_init 47 = .ok (.sipush 300, 3) := by decide +kernel
theorem dX10_init_50 : decode cX10_init 50 = .ok (.newarray .int, 2) := by decide +kernel
theorem dX10_init_52 : decode cX10_init 52 = .ok (.putfield 25, 3) := by decide +kernel
theorem dX10_init_55 : decode cX10_init 55 = .ok (.aload_n 0, 1) := by decide +kernel
theorem dX10_init_56 : decode cX10_init 56 = .ok (.bipush 10, 2) := by decide +kernel
theorem dX10_init_58 : decode cX10_init 58 = .ok (.newarray .int, 2) := by decide +kernel
theorem dX10_init_60 : decode cX10_init 60 = .ok (.putfield 28, 3) := by decide +kernel
theorem dX10_init_63 : decode cX10_init 63 = .ok (.aload_n 0, 1) := by decide +kernel
theorem dX10_init_64 : decode cX10_init 64 = .ok (.bipush 10, 2) := by decide +kernel
theorem dX10_init_66 : decode cX10_init 66 = .ok (.newarray .int, 2) := by decide +kernel
theorem dX10_init_68 : decode cX10_init 68 = .ok (.putfield 31, 3) := by decide +kernel
theorem dX10_init_71 : decode cX10_init 71 = .ok (.aload_n 0, 1) := by decide +kernel
theorem dX10_init_72 : decode cX10_init 72 = .ok (.bipush 10, 2) := by decide +kernel
theorem dX10_init_74 : decode cX10_init 74 = .ok (.newarray .int, 2) := by decide +kernel
theorem dX10_init_76 : decode cX10_init 76 = .ok (.putfield 34, 3) := by decide +kernel
theorem dX10_init_79 : decode cX10_init 79 = .ok (.return_, 1) := by decide +kernel
theorem dX10_in_0 : decode cX10_in 0 = .ok (.iload_n 0, 1) := by decide +kernel
theorem dX10_in_1 : decode cX10_in 1 = .ok (.iload_n 1, 1) := by decide +kernel
theorem dX10_in_2 : decode cX10_in 2 = .ok (.if_icmp .lt 12, 3) := by decide +kernel
theorem dX10_in_5 : decode cX10_in 5 = .ok (.iload_n 0, 1) := by decide +kernel
theorem dX10_in_6 : decode cX10_in 6 = .ok (.iload_n 2, 1) := by decide +kernel
theorem dX10_in_7 : decode cX10_in 7 = .ok (.if_icmp .gt 7, 3) := by decide +kernel
theorem dX10_in_10 : decode cX10_in 10 = .ok (.iconst 1, 1) := by decide +kernel
theorem dX10_in_11 : decode cX10_in 11 = .ok (.goto 4, 3) := by decide +kernel
theorem dX10_in_14 : decode cX10_in 14 = .ok (.iconst 0, 1) := by decide +kernel
theorem dX10_in_15 : decode cX10_in 15 = .ok (.ireturn, 1) := by decide +kernel
theorem dX10_refuses_0 : decode cX10_refuses 0 = .ok (.aload_n 0, 1) := by decide +kernel
theorem dX10_refuses_1 : decode cX10_refuses 1 = .ok (.getfield 16, 3) := by decide +kernel
theorem dX10_refuses_4 : decode cX10_refuses 4 = .ok (.bipush (-2), 2) := by decide +kernel
theorem dX10_refuses_6 : decode cX10_refuses 6 = .ok (.iload_n 1, 1) := by decide +kernel
theorem dX10_refuses_7 : decode cX10_refuses 7 = .ok (.isub, 1) := by decide +kernel
theorem dX10_refuses_8 : decode cX10_refuses 8 = .ok (.dup2, 1) := by decide +kernel
theorem dX10_refuses_9 : decode cX10_refuses 9 = .ok (.iaload, 1) := by decide +kernel
theorem dX10_refuses_10 : decode cX10_refuses 10 = .ok (.iconst 1, 1) := by decide +kernel
theorem dX10_refuses_11 : decode cX10_refuses 11 = .ok (.iadd, 1) := by decide +kernel
theorem dX10_refuses_12 : decode cX10_refuses 12 = .ok (.iastore, 1) := by decide +kernel
theorem dX10_refuses_13 : decode cX10_refuses 13 = .ok (.iload_n 1, 1) := by decide +kernel
theorem dX10_refuses_14 : decode cX10_refuses 14 = .ok (.ireturn, 1) := by decide +kernel
theorem dX10_remembers_0 : decode cX10_remembers 0 = .ok (.aload_n 0, 1) := by decide +kernel
theorem dX10_remembers_1 : decode cX10_remembers 1 = .ok (.getfield 37, 3) := by decide +kernel
theorem dX10_remembers_4 : decode cX10_remembers 4 = .ok (.iconst 5, 1) := by decide +kernel
theorem dX10_remembers_5 : decode cX10_remembers 5 = .ok (.if_icmp .ne 44, 3) := by decide +kernel
theorem dX10_remembers_8 : decode cX10_remembers 8 = .ok (.iconst 0, 1) := by decide +kernel
theorem dX10_remembers_9 : decode cX10_remembers 9 = .ok (.istore_n 1, 1) := by decide +kernel
theorem dX10_remembers_10 : decode cX10_remembers 10 = .ok (.iload_n 1, 1) := by decide +kernel
theorem dX10_remembers_11 : decode cX10_remembers 11 = .ok (.sipush 1492, 3) := by decide +kernel
theorem dX10_remembers_14 : decode cX10_remembers 14 = .ok (.if_icmp .ge 25, 3) := by decide +kernel
theorem dX10_remembers_17 : decode cX10_remembers 17 = .ok (.aload_n 0, 1) := by decide +kernel
theorem dX10_remembers_18 : decode cX10_remembers 18 = .ok (.getfield 13, 3) := by decide +kernel
theorem dX10_remembers_21 : decode cX10_remembers 21 = .ok (.iload_n 1, 1) := by decide +kernel
theorem dX10_remembers_22 : decode cX10_remembers 22 = .ok (.aload_n 0, 1) := by decide +kernel
theorem dX10_remembers_23 : decode cX10_remembers 23 = .ok (.getfield 13, 3) := by decide +kernel
theorem dX10_remembers_26 : decode cX10_remembers 26 = .ok (.iload_n 1, 1) := by decide +kernel
theorem dX10_remembers_27 : decode cX10_remembers 27 = .ok (.sipush 373, 3) := by decide +kernel
theorem dX10_remembers_30 : decode cX10_remembers 30 = .ok (.iadd, 1) := by decide +kernel
theorem dX10_remembers_31 : decode cX10_remembers 31 = .ok (.iaload, 1) := by decide +kernel
theorem dX10_remembers_32 : decode cX10_remembers 32 = .ok (.iastore, 1) := by decide +kernel
theorem dX10_remembers_33 : decode cX10_remembers 33 = .ok (.iinc 1 1, 3) := by decide +kernel
theorem dX10_remembers_36 : decode cX10_remembers 36 = .ok (.goto (-26), 3) := by decide +kernel
theorem dX10_remembers_39 : decode cX10_remembers 39 = .ok (.aload_n 0, 1) := by decide +kernel
theorem dX10_remembers_40 : decode cX10_remembers 40 = .ok (.dup, 1) := by decide +kernel
theorem dX10_remembers_41 : decode cX10_remembers 41 = .ok (.getfield 37, 3) := by decide +kernel
theorem dX10_remembers_44 : decode cX10_remembers 44 = .ok (.iconst 1, 1) := by decide +kernel
theorem dX10_remembers_45 : decode cX10_remembers 45 = .ok (.isub, 1) := by decide +kernel
theorem dX10_remembers_46 : decode cX10_remembers 46 = .ok (.putfield 37, 3) := by decide +kernel
theorem dX10_remembers_49 : decode cX10_remembers 49 = .ok (.iconst 0, 1) := by decide +kernel
theorem dX10_remembers_50 : decode cX10_remembers 50 = .ok (.istore_n 1, 1) := by decide +kernel
theorem dX10_remembers_51 : decode cX10_remembers 51 = .ok (.iload_n 1, 1) := by decide +kernel
theorem dX10_remembers_52 : decode cX10_remembers 52 = .ok (.sipush 373, 3) := by decide +kernel
theorem dX10_remembers_55 : decode cX10_remembers 55 = .ok (.if_icmp .ge 30, 3) := by decide +kernel
theorem dX10_remembers_58 : decode cX10_remembers 58 = .ok (.aload_n 0, 1) := by decide +kernel
theorem dX10_remembers_59 : decode cX10_remembers 59 = .ok (.getfield 13, 3) := by decide +kernel
theorem dX10_remembers_62 : decode cX10_remembers 62 = .ok (.sipush 373, 3) := by decide +kernel
theorem dX10_remembers_65 : decode cX10_remembers 65 = .ok (.aload_n 0, 1) := by decide +kernel
theorem dX10_remembers_66 : decode cX10_remembers 66 = .ok (.getfield 37, 3) := by decide +kernel
theorem dX10_remembers_69 : decode cX10_remembers 69 = .ok (.imul, 1) := by decide +kernel
theorem dX10_remembers_70 : decode cX10_remembers 70 = .ok (.iload_n 1, 1) := by decide +kernel
theorem dX10_remembers_71 : decode cX10_remembers 71 = .ok (.iadd, 1) := by decide +kernel
theorem dX10_remembers_72 : decode cX10_remembers 72 = .ok (.aload_n 0, 1) := by decide +kernel
theorem dX10_remembers_73 : decode cX10_remembers 73 = .ok (.getfield 7, 3) := by decide +kernel
theorem dX10_remembers_76 : decode cX10_remembers 76 = .ok (.iload_n 1, 1) := by decide +kernel
theorem dX10_remembers_77 : decode cX10_remembers 77 = .ok (.iaload, 1) := by decide +kernel
theorem dX10_remembers_78 : decode cX10_remembers 78 = .ok (.iastore, 1) := by decide +kernel
theorem dX10_remembers_79 : decode cX10_remembers 79 = .ok (.iinc 1 1, 3) := by decide +kernel
theorem dX10_remembers_82 : decode cX10_remembers 82 = .ok (.goto (-31), 3) := by decide +kernel
theorem dX10_remembers_85 : decode cX10_remembers 85 = .ok (.aload_n 0, 1) := by decide +kernel
theorem dX10_remembers_86 : decode cX10_remembers 86 = .ok (.dup, 1) := by decide +kernel
theorem dX10_remembers_87 : decode cX10_remembers 87 = .ok (.getfield 37, 3) := by decide +kernel
theorem dX10_remembers_90 : decode cX10_remembers 90 = .ok (.iconst 1, 1) := by decide +kernel
theorem dX10_remembers_91 : decode cX10_remembers 91 = .ok (.iadd, 1) := by decide +kernel
theorem dX10_remembers_92 : decode cX10_remembers 92 = .ok (.putfield 37, 3) := by decide +kernel
theorem dX10_remembers_95 : decode cX10_remembers 95 = .ok (.iconst 0, 1) := by decide +kernel
theorem dX10_remembers_96 : decode cX10_remembers 96 = .ok (.istore_n 1, 1) := by decide +kernel
theorem dX10_remembers_97 : decode cX10_remembers 97 = .ok (.iload_n 1, 1) := by decide +kernel
theorem dX10_remembers_98 : decode cX10_remembers 98 = .ok (.bipush 10, 2) := by decide +kernel
theorem dX10_remembers_100 : decode cX10_remembers 100 = .ok (.if_icmp .ge 28, 3) := by decide +kernel
theorem dX10_remembers_103 : decode cX10_remembers 103 = .ok (.aload_n 0, 1) := by decide +kernel
theorem dX10_remembers_104 : decode cX10_remembers 104 = .ok (.getfield 31, 3) := by decide +kernel
theorem dX10_remembers_107 : decode cX10_remembers 107 = .ok (.iload_n 1, 1) := by decide +kernel
theorem dX10_remembers_108 : decode cX10_remembers 108 = .ok (.aload_n 0, 1) := by decide +kernel
theorem dX10_remembers_109 : decode cX10_remembers 109 = .ok (.getfield 28, 3) := by decide +kernel
theorem dX10_remembers_112 : decode cX10_remembers 112 = .ok (.iload_n 1, 1) := by decide +kernel
theorem dX10_remembers_113 : decode cX10_remembers 113 = .ok (.iaload, 1) := by decide +kernel
theorem dX10_remembers_114 : decode cX10_remembers 114 = .ok (.iastore, 1) := by decide +kernel
theorem dX10_remembers_115 : decode cX10_remembers 115 = .ok (.aload_n 0, 1) := by decide +kernel
theorem dX10_remembers_116 : decode cX10_remembers 116 = .ok (.getfield 34, 3) := by decide +kernel
theorem dX10_remembers_119 : decode cX10_remembers 119 = .ok (.iload_n 1, 1) := by decide +kernel
theorem dX10_remembers_120 : decode cX10_remembers 120 = .ok (.iload_n 1, 1) := by decide +kernel
theorem dX10_remembers_121 : decode cX10_remembers 121 = .ok (.iastore, 1) := by decide +kernel
theorem dX10_remembers_122 : decode cX10_remembers 122 = .ok (.iinc 1 1, 3) := by decide +kernel
theorem dX10_remembers_125 : decode cX10_remembers 125 = .ok (.goto (-28), 3) := by decide +kernel
theorem dX10_remembers_128 : decode cX10_remembers 128 = .ok (.return_, 1) := by decide +kernel
theorem dX10_top_0 : decode cX10_top 0 = .ok (.aload_n 0, 1) := by decide +kernel
theorem dX10_top_1 : decode cX10_top 1 = .ok (.getfield 41, 3) := by decide +kernel
theorem dX10_top_4 : decode cX10_top 4 = .ok (.iconst 2, 1) := by decide +kernel
theorem dX10_top_5 : decode cX10_top 5 = .ok (.aload_n 0, 1) := by decide +kernel
theorem dX10_top_6 : decode cX10_top 6 = .ok (.getfield 44, 3) := by decide +kernel
theorem dX10_top_9 : decode cX10_top 9 = .ok (.iconst 1, 1) := by decide +kernel
theorem dX10_top_10 : decode cX10_top 10 = .ok (.isub, 1) := by decide +kernel
theorem dX10_top_11 : decode cX10_top 11 = .ok (.imul, 1) := by decide +kernel
theorem dX10_top_12 : decode cX10_top 12 = .ok (.ishr, 1) := by decide +kernel
theorem dX10_top_13 : decode cX10_top 13 = .ok (.iconst 3, 1) := by decide +kernel
theorem dX10_top_14 : decode cX10_top 14 = .ok (.iand, 1) := by decide +kernel
theorem dX10_top_15 : decode cX10_top 15 = .ok (.ireturn, 1) := by decide +kernel
theorem dX10_comesOn_0 : decode cX10_comesOn 0 = .ok (.aload_n 0, 1) := by decide +kernel
theorem dX10_comesOn_1 : decode cX10_comesOn 1 = .ok (.getfield 44, 3) := by decide +kernel
theorem dX10_comesOn_4 : decode cX10_comesOn 4 = .ok (.bipush 6, 2) := by decide +kernel
theorem dX10_comesOn_6 : decode cX10_comesOn 6 = .ok (.if_icmp .ne 5, 3) := by decide +kernel
theorem dX10_comesOn_9 : decode cX10_comesOn 9 = .ok (.iconst 0, 1) := by decide +kernel
theorem dX10_comesOn_10 : decode cX10_comesOn 10 = .ok (.ireturn, 1) := by decide +kernel
theorem dX10_comesOn_11 : decode cX10_comesOn 11 = .ok (.aload_n 0, 1) := by decide +kernel
theorem dX10_comesOn_12 : decode cX10_comesOn 12 = .ok (.dup, 1) := by decide +kernel
theorem dX10_comesOn_13 : decode cX10_comesOn 13 = .ok (.getfield 41, 3) := by decide +kernel
theorem dX10_comesOn_16 : decode cX10_comesOn 16 = .ok (.iload_n 1, 1) := by decide +kernel
theorem dX10_comesOn_17 : decode cX10_comesOn 17 = .ok (.iconst 2, 1) := by decide +kernel
theorem dX10_comesOn_18 : decode cX10_comesOn 18 = .ok (.aload_n 0, 1) := by decide +kernel
theorem dX10_comesOn_19 : decode cX10_comesOn 19 = .ok (.getfield 44, 3) := by decide +kernel
theorem dX10_comesOn_22 : decode cX10_comesOn 22 = .ok (.imul, 1) := by decide +kernel
theorem dX10_comesOn_23 : decode cX10_comesOn 23 = .ok (.ishl, 1) := by decide +kernel
theorem dX10_comesOn_24 : decode cX10_comesOn 24 = .ok (.ior, 1) := by decide +kernel
theorem dX10_comesOn_25 : decode cX10_comesOn 25 = .ok (.putfield 41, 3) := by decide +kernel
theorem dX10_comesOn_28 : decode cX10_comesOn 28 = .ok (.aload_n 0, 1) := by decide +kernel
theorem dX10_comesOn_29 : decode cX10_comesOn 29 = .ok (.dup, 1) := by decide +kernel
theorem dX10_comesOn_30 : decode cX10_comesOn 30 = .ok (.getfield 44, 3) := by decide +kernel
theorem dX10_comesOn_33 : decode cX10_comesOn 33 = .ok (.iconst 1, 1) := by decide +kernel
theorem dX10_comesOn_34 : decode cX10_comesOn 34 = .ok (.iadd, 1) := by decide +kernel
theorem dX10_comesOn_35 : decode cX10_comesOn 35 = .ok (.putfield 44, 3) := by decide +kernel
theorem dX10_comesOn_38 : decode cX10_comesOn 38 = .ok (.iconst 1, 1) := by decide +kernel
theorem dX10_comesOn_39 : decode cX10_comesOn 39 = .ok (.ireturn, 1) := by decide +kernel
theorem dX10_goesOff_0 : decode cX10_goesOff 0 = .ok (.aload_n 0, 1) := by decide +kernel
theorem dX10_goesOff_1 : decode cX10_goesOff 1 = .ok (.dup, 1) := by decide +kernel
theorem dX10_goesOff_2 : decode cX10_goesOff 2 = .ok (.getfield 44, 3) := by decide +kernel
theorem dX10_goesOff_5 : decode cX10_goesOff 5 = .ok (.iconst 1, 1) := by decide +kernel
theorem dX10_goesOff_6 : decode cX10_goesOff 6 = .ok (.isub, 1) := by decide +kernel
theorem dX10_goesOff_7 : decode cX10_goesOff 7 = .ok (.putfield 44, 3) := by decide +kernel
theorem dX10_goesOff_10 : decode cX10_goesOff 10 = .ok (.aload_n 0, 1) := by decide +kernel
theorem dX10_goesOff_11 : decode cX10_goesOff 11 = .ok (.dup, 1) := by decide +kernel
theorem dX10_goesOff_12 : decode cX10_goesOff 12 = .ok (.getfield 41, 3) := by decide +kernel
theorem dX10_goesOff_15 : decode cX10_goesOff 15 = .ok (.iconst 1, 1) := by decide +kernel
theorem dX10_goesOff_16 : decode cX10_goesOff 16 = .ok (.iconst 2, 1) := by decide +kernel
theorem dX10_goesOff_17 : decode cX10_goesOff 17 = .ok (.aload_n 0, 1) := by decide +kernel
theorem dX10_goesOff_18 : decode cX10_goesOff 18 = .ok (.getfield 44, 3) := by decide +kernel
theorem dX10_goesOff_21 : decode cX10_goesOff 21 = .ok (.imul, 1) := by decide +kernel
theorem dX10_goesOff_22 : decode cX10_goesOff 22 = .ok (.ishl, 1) := by decide +kernel
theorem dX10_goesOff_23 : decode cX10_goesOff 23 = .ok (.iconst 1, 1) := by decide +kernel
theorem dX10_goesOff_24 : decode cX10_goesOff 24 = .ok (.isub, 1) := by decide +kernel
theorem dX10_goesOff_25 : decode cX10_goesOff 25 = .ok (.iand, 1) := by decide +kernel
theorem dX10_goesOff_26 : decode cX10_goesOff 26 = .ok (.putfield 41, 3) := by decide +kernel
theorem dX10_goesOff_29 : decode cX10_goesOff 29 = .ok (.return_, 1) := by decide +kernel
theorem dX10_standing_0 : decode cX10_standing 0 = .ok (.aload_n 0, 1) := by decide +kernel
theorem dX10_standing_1 : decode cX10_standing 1 = .ok (.getfield 47, 3) := by decide +kernel
theorem dX10_standing_4 : decode cX10_standing 4 = .ok (.bipush 16, 2) := by decide +kernel
theorem dX10_standing_6 : decode cX10_standing 6 = .ok (.ishl, 1) := by decide +kernel
theorem dX10_standing_7 : decode cX10_standing 7 = .ok (.aload_n 0, 1) := by decide +kernel
theorem dX10_standing_8 : decode cX10_standing 8 = .ok (.getfield 44, 3) := by decide +kernel
theorem dX10_standing_11 : decode cX10_standing 11 = .ok (.bipush 12, 2) := by decide +kernel
theorem dX10_standing_13 : decode cX10_standing 13 = .ok (.ishl, 1) := by decide +kernel
theorem dX10_standing_14 : decode cX10_standing 14 = .ok (.ior, 1) := by decide +kernel
theorem dX10_standing_15 : decode cX10_standing 15 = .ok (.aload_n 0, 1) := by decide +kernel
theorem dX10_standing_16 : decode cX10_standing 16 = .ok (.getfield 41, 3) := by decide +kernel
theorem dX10_standing_19 : decode cX10_standing 19 = .ok (.ior, 1) := by decide +kernel
theorem dX10_standing_20 : decode cX10_standing 20 = .ok (.ireturn, 1) := by decide +kernel
theorem dX10_manyOf_0 : decode cX10_manyOf 0 = .ok (.iload_n 0, 1) := by decide +kernel
theorem dX10_manyOf_1 : decode cX10_manyOf 1 = .ok (.bipush 12, 2) := by decide +kernel
theorem dX10_manyOf_3 : decode cX10_manyOf 3 = .ok (.ishr, 1) := by decide +kernel
theorem dX10_manyOf_4 : decode cX10_manyOf 4 = .ok (.bipush 15, 2) := by decide +kernel
theorem dX10_manyOf_6 : decode cX10_manyOf 6 = .ok (.iand, 1) := by decide +kernel
theorem dX10_manyOf_7 : decode cX10_manyOf 7 = .ok (.ireturn, 1) := by decide +kernel
theorem dX10_topOf_0 : decode cX10_topOf 0 = .ok (.iload_n 0, 1) := by decide +kernel
theorem dX10_topOf_1 : decode cX10_topOf 1 = .ok (.sipush 4095, 3) := by decide +kernel
theorem dX10_topOf_4 : decode cX10_topOf 4 = .ok (.iand, 1) := by decide +kernel
theorem dX10_topOf_5 : decode cX10_topOf 5 = .ok (.iconst 2, 1) := by decide +kernel
theorem dX10_topOf_6 : decode cX10_topOf 6 = .ok (.iload_n 0, 1) := by decide +kernel
theorem dX10_topOf_7 : decode cX10_topOf 7 = .ok (.invokestatic 50, 3) := by decide +kernel
theorem dX10_topOf_10 : decode cX10_topOf 10 = .ok (.iconst 1, 1) := by decide +kernel
theorem dX10_topOf_11 : decode cX10_topOf 11 = .ok (.isub, 1) := by decide +kernel
theorem dX10_topOf_12 : decode cX10_topOf 12 = .ok (.imul, 1) := by decide +kernel
theorem dX10_topOf_13 : decode cX10_topOf 13 = .ok (.ishr, 1) := by decide +kernel
theorem dX10_topOf_14 : decode cX10_topOf 14 = .ok (.iconst 3, 1) := by decide +kernel
theorem dX10_topOf_15 : decode cX10_topOf 15 = .ok (.iand, 1) := by decide +kernel
theorem dX10_topOf_16 : decode cX10_topOf 16 = .ok (.ireturn, 1) := by decide +kernel
theorem dX10_modeOf_0 : decode cX10_modeOf 0 = .ok (.iload_n 0, 1) := by decide +kernel
theorem dX10_modeOf_1 : decode cX10_modeOf 1 = .ok (.ifCond .ne 7, 3) := by decide +kernel
theorem dX10_modeOf_4 : decode cX10_modeOf 4 = .ok (.iconst 0, 1) := by decide +kernel
theorem dX10_modeOf_5 : decode cX10_modeOf 5 = .ok (.goto 13, 3) := by decide +kernel
theorem dX10_modeOf_8 : decode cX10_modeOf 8 = .ok (.iload_n 0, 1) := by decide +kernel
theorem dX10_modeOf_9 : decode cX10_modeOf 9 = .ok (.iconst 3, 1) := by decide +kernel
theorem dX10_modeOf_10 : decode cX10_modeOf 10 = .ok (.if_icmp .ne 7, 3) := by decide +kernel
theorem dX10_modeOf_13 : decode cX10_modeOf 13 = .ok (.iconst 2, 1) := by decide +kernel
theorem dX10_modeOf_14 : decode cX10_modeOf 14 = .ok (.goto 4, 3) := by decide +kernel
theorem dX10_modeOf_17 : decode cX10_modeOf 17 = .ok (.iconst 1, 1) := by decide +kernel
theorem dX10_modeOf_18 : decode cX10_modeOf 18 = .ok (.ireturn, 1) := by decide +kernel
theorem dX10_byteAt_0 : decode cX10_byteAt 0 = .ok (.iload_n 1, 1) := by decide +kernel
theorem dX10_byteAt_1 : decode cX10_byteAt 1 = .ok (.aload_n 0, 1) := by decide +kernel
theorem dX10_byteAt_2 : decode cX10_byteAt 2 = .ok (.getfield 7, 3) := by decide +kernel
theorem dX10_byteAt_5 : decode cX10_byteAt 5 = .ok (.iconst 3, 1) := by decide +kernel
theorem dX10_byteAt_6 : decode cX10_byteAt 6 = .ok (.aload_n 0, 1) := by decide +kernel
theorem dX10_byteAt_7 : decode cX10_byteAt 7 = .ok (.getfield 54, 3) := by decide +kernel
theorem dX10_byteAt_10 : decode cX10_byteAt 10 = .ok (.iadd, 1) := by decide +kernel
theorem dX10_byteAt_11 : decode cX10_byteAt 11 = .ok (.iaload, 1) := by decide +kernel
theorem dX10_byteAt_12 : decode cX10_byteAt 12 = .ok (.if_icmp .ge 23, 3) := by decide +kernel
theorem dX10_byteAt_15 : decode cX10_byteAt 15 = .ok (.aload_n 0, 1) := by decide +kernel
theorem dX10_byteAt_16 : decode cX10_byteAt 16 = .ok (.getfield 7, 3) := by decide +kernel
theorem dX10_byteAt_19 : decode cX10_byteAt 19 = .ok (.bipush 13, 2) := by decide +kernel
theorem dX10_byteAt_21 : decode cX10_byteAt 21 = .ok (.bipush 30, 2) := by decide +kernel
theorem dX10_byteAt_23 : decode cX10_byteAt 23 = .ok (.aload_n 0, 1) := by decide +kernel
theorem dX10_byteAt_24 : decode cX10_byteAt 24 = .ok (.getfield 54, 3) := by decide +kernel
theorem dX10_byteAt_27 : decode cX10_byteAt 27 = .ok (.imul, 1) := by decide +kernel
theorem dX10_byteAt_28 : decode cX10_byteAt 28 = .ok (.iadd, 1) := by decide +kernel
theorem dX10_byteAt_29 : decode cX10_byteAt 29 = .ok (.iload_n 1, 1) := by decide +kernel
theorem dX10_byteAt_30 : decode cX10_byteAt 30 = .ok (.iadd, 1) := by decide +kernel
theorem dX10_byteAt_31 : decode cX10_byteAt 31 = .ok (.iaload, 1) := by decide +kernel
theorem dX10_byteAt_32 : decode cX10_byteAt 32 = .ok (.goto 4, 3) := by decide +kernel
theorem dX10_byteAt_35 : decode cX10_byteAt 35 = .ok (.iconst 0, 1) := by decide +kernel
theorem dX10_byteAt_36 : decode cX10_byteAt 36 = .ok (.ireturn, 1) := by decide +kernel
theorem dX10_isLetter_0 : decode cX10_isLetter 0 = .ok (.iload_n 0, 1) := by decide +kernel
theorem dX10_isLetter_1 : decode cX10_isLetter 1 = .ok (.bipush 97, 2) := by decide +kernel
theorem dX10_isLetter_3 : decode cX10_isLetter 3 = .ok (.bipush 122, 2) := by decide +kernel
theorem dX10_isLetter_5 : decode cX10_isLetter 5 = .ok (.invokestatic 57, 3) := by decide +kernel
theorem dX10_isLetter_8 : decode cX10_isLetter 8 = .ok (.ireturn, 1) := by decide +kernel
theorem dX10_isFigure_0 : decode cX10_isFigure 0 = .ok (.iload_n 0, 1) := by decide +kernel
theorem dX10_isFigure_1 : decode cX10_isFigure 1 = .ok (.bipush 48, 2) := by decide +kernel
theorem dX10_isFigure_3 : decode cX10_isFigure 3 = .ok (.bipush 57, 2) := by decide +kernel
theorem dX10_isFigure_5 : decode cX10_isFigure 5 = .ok (.invokestatic 57, 3) := by decide +kernel
theorem dX10_isFigure_8 : decode cX10_isFigure 8 = .ok (.ireturn, 1) := by decide +kernel
theorem dX10_colour_0 : decode cX10_colour 0 = .ok (.iconst 0, 1) := by decide +kernel
theorem dX10_colour_1 : decode cX10_colour 1 = .ok (.istore_n 3, 1) := by decide +kernel
theorem dX10_colour_2 : decode cX10_colour 2 = .ok (.iload_n 3, 1) := by decide +kernel
theorem dX10_colour_3 : decode cX10_colour 3 = .ok (.iload_n 1, 1) := by decide +kernel
theorem dX10_colour_4 : decode cX10_colour 4 = .ok (.if_icmp .ge 61, 3) := by decide +kernel
theorem dX10_colour_7 : decode cX10_colour 7 = .ok (.aload_n 0, 1) := by decide +kernel
theorem dX10_colour_8 : decode cX10_colour 8 = .ok (.getfield 22, 3) := by decide +kernel
theorem dX10_colour_11 : decode cX10_colour 11 = .ok (.bipush 30, 2) := by decide +kernel
theorem dX10_colour_13 : decode cX10_colour 13 = .ok (.aload_n 0, 1) := by decide +kernel
theorem dX10_colour_14 : decode cX10_colour 14 = .ok (.getfield 54, 3) := by decide +kernel
theorem dX10_colour_17 : decode cX10_colour 17 = .ok (.imul, 1) := by decide +kernel
theorem dX10_colour_18 : decode cX10_colour 18 = .ok (.aload_n 0, 1) := by decide +kernel
theorem dX10_colour_19 : decode cX10_colour 19 = .ok (.getfield 61, 3) := by decide +kernel
theorem dX10_colour_22 : decode cX10_colour 22 = .ok (.iadd, 1) := by decide +kernel
theorem dX10_colour_23 : decode cX10_colour 23 = .ok (.iload_n 2, 1) := by decide +kernel
theorem dX10_colour_24 : decode cX10_colour 24 = .ok (.iastore, 1) := by decide +kernel
theorem dX10_colour_25 : decode cX10_colour 25 = .ok (.aload_n 0, 1) := by decide +kernel
theorem dX10_colour_26 : decode cX10_colour 26 = .ok (.getfield 25, 3) := by decide +kernel
theorem dX10_colour_29 : decode cX10_colour 29 = .ok (.bipush 30, 2) := by decide +kernel
theorem dX10_colour_31 : decode cX10_colour 31 = .ok (.aload_n 0, 1) := by decide +kernel
theorem dX10_colour_32 : decode cX10_colour 32 = .ok (.getfield 54, 3) := by decide +kernel
theorem dX10_colour_35 : decode cX10_colour 35 = .ok (.imul, 1) := by decide +kernel
theorem dX10_colour_36 : decode cX10_colour 36 = .ok (.aload_n 0, 1) := by decide +kernel
theorem dX10_colour_37 : decode cX10_colour 37 = .ok (.getfield 61, 3) := by decide +kernel
theorem dX10_colour_40 : decode cX10_colour 40 = .ok (.iadd, 1) := by decide +kernel
theorem dX10_colour_41 : decode cX10_colour 41 = .ok (.aload_n 0, 1) := by decide +kernel
theorem dX10_colour_42 : decode cX10_colour 42 = .ok (.invokevirtual 64, 3) := by decide +kernel
theorem dX10_colour_45 : decode cX10_colour 45 = .ok (.invokestatic 68, 3) := by decide +kernel
theorem dX10_colour_48 : decode cX10_colour 48 = .ok (.iastore, 1) := by decide +kernel
theorem dX10_colour_49 : decode cX10_colour 49 = .ok (.aload_n 0, 1) := by decide +kernel
theorem dX10_colour_50 : decode cX10_colour 50 = .ok (.dup, 1) := by decide +kernel
theorem dX10_colour_51 : decode cX10_colour 51 = .ok (.getfield 61, 3) := by decide +kernel
theorem dX10_colour_54 : decode cX10_colour 54 = .ok (.iconst 1, 1) := by decide +kernel
theorem dX10_colour_55 : decode cX10_colour 55 = .ok (.iadd, 1) := by decide +kernel
theorem dX10_colour_56 : decode cX10_colour 56 = .ok (.putfield 61, 3) := by decide +kernel
theorem dX10_colour_59 : decode cX10_colour 59 = .ok (.iinc 3 1, 3) := by decide +kernel
theorem dX10_colour_62 : decode cX10_colour 62 = .ok (.goto (-60), 3) := by decide +kernel
theorem dX10_colour_65 : decode cX10_colour 65 = .ok (.return_, 1) := by decide +kernel
theorem dX10_pushes_0 : decode cX10_pushes 0 = .ok (.aload_n 0, 1) := by decide +kernel
theorem dX10_pushes_1 : decode cX10_pushes 1 = .ok (.getfield 44, 3) := by decide +kernel
theorem dX10_pushes_4 : decode cX10_pushes 4 = .ok (.bipush 6, 2) := by decide +kernel
theorem dX10_pushes_6 : decode cX10_pushes 6 = .ok (.if_icmp .ge 7, 3) := by decide +kernel
theorem dX10_pushes_9 : decode cX10_pushes 9 = .ok (.iconst 1, 1) := by decide +kernel
theorem dX10_pushes_10 : decode cX10_pushes 10 = .ok (.goto 4, 3) := by decide +kernel
theorem dX10_pushes_13 : decode cX10_pushes 13 = .ok (.iconst 0, 1) := by decide +kernel
theorem dX10_pushes_14 : decode cX10_pushes 14 = .ok (.istore_n 3, 1) := by decide +kernel
theorem dX10_pushes_15 : decode cX10_pushes 15 = .ok (.aload_n 0, 1) := by decide +kernel
theorem dX10_pushes_16 : decode cX10_pushes 16 = .ok (.iconst 1, 1) := by decide +kernel
theorem dX10_pushes_17 : decode cX10_pushes 17 = .ok (.iload_n 3, 1) := by decide +kernel
theorem dX10_pushes_18 : decode cX10_pushes 18 = .ok (.ifCond .eq 7, 3) := by decide +kernel
theorem dX10_pushes_21 : decode cX10_pushes 21 = .ok (.iload_n 2, 1) := by decide +kernel
theorem dX10_pushes_22 : decode cX10_pushes 22 = .ok (.goto 5, 3) := by decide +kernel
theorem dX10_pushes_25 : decode cX10_pushes 25 = .ok (.bipush 6, 2) := by decide +kernel
theorem dX10_pushes_27 : decode cX10_pushes 27 = .ok (.invokevirtual 71, 3) := by decide +kernel
theorem dX10_pushes_30 : decode cX10_pushes 30 = .ok (.iload_n 3, 1) := by decide +kernel
theorem dX10_pushes_31 : decode cX10_pushes 31 = .ok (.ifCond .eq 15, 3) := by decide +kernel
theorem dX10_pushes_34 : decode cX10_pushes 34 = .ok (.aload_n 0, 1) := by decide +kernel
theorem dX10_pushes_35 : decode cX10_pushes 35 = .ok (.iload_n 1, 1) := by decide +kernel
theorem dX10_pushes_36 : decode cX10_pushes 36 = .ok (.invokevirtual 75, 3) := by decide +kernel
theorem dX10_pushes_39 : decode cX10_pushes 39 = .ok (.ifCond .eq 7, 3) := by decide +kernel
theorem dX10_pushes_42 : decode cX10_pushes 42 = .ok (.iconst 1, 1) := by decide +kernel
theorem dX10_pushes_43 : decode cX10_pushes 43 = .ok (.goto 4, 3) := by decide +kernel
theorem dX10_pushes_46 : decode cX10_pushes 46 = .ok (.iconst 0, 1) := by decide +kernel
theorem dX10_pushes_47 : decode cX10_pushes 47 = .ok (.istore 4, 2) := by decide +kernel
theorem dX10_pushes_49 : decode cX10_pushes 49 = .ok (.return_, 1) := by decide +kernel
theorem dX10_isWord_0 : decode cX10_isWord 0 = .ok (.iconst 0, 1) := by decide +kernel
theorem dX10_isWord_1 : decode cX10_isWord 1 = .ok (.istore_n 3, 1) := by decide +kernel
theorem dX10_isWord_2 : decode cX10_isWord 2 = .ok (.iconst 0, 1) := by decide +kernel
theorem dX10_isWord_3 : decode cX10_isWord 3 = .ok (.istore 4, 2) := by decide +kernel
theorem dX10_isWord_5 : decode cX10_isWord 5 = .ok (.iload 4, 2) := by decide +kernel
theorem dX10_isWord_7 : decode cX10_isWord 7 = .ok (.aload_n 0, 1) := by decide +kernel
theorem dX10_isWord_8 : decode cX10_isWord 8 = .ok (.getfield 7, 3) := by decide +kernel
theorem dX10_isWord_11 : decode cX10_isWord 11 = .ok (.iconst 1, 1) := by decide +kernel
theorem dX10_isWord_12 : decode cX10_isWord 12 = .ok (.iaload, 1) := by decide +kernel
theorem dX10_isWord_13 : decode cX10_isWord 13 = .ok (.if_icmp .ge 100, 3) := by decide +kernel
theorem dX10_isWord_16 : decode cX10_isWord 16 = .ok (.aload_n 0, 1) := by decide +kernel
theorem dX10_isWord_17 : decode cX10_isWord 17 = .ok (.getfield 7, 3) := by decide +kernel
theorem dX10_isWord_20 : decode cX10_isWord 20 = .ok (.sipush 313, 3) := by decide +kernel
theorem dX10_isWord_23 : decode cX10_isWord 23 = .ok (.iload 4, 2) := by decide +kernel
theorem dX10_isWord_25 : decode cX10_isWord 25 = .ok (.iadd, 1) := by decide +kernel
theorem dX10_isWord_26 : decode cX10_isWord 26 = .ok (.iaload, 1) := by decide +kernel
theorem dX10_isWord_27 : decode cX10_isWord 27 = .ok (.iload_n 2, 1) := by decide +kernel
theorem dX10_isWord_28 : decode cX10_isWord 28 = .ok (.if_icmp .ne 7, 3) := by decide +kernel
theorem dX10_isWord_31 : decode cX10_isWord 31 = .ok (.iconst 1, 1) := by decide +kernel
theorem dX10_isWord_32 : decode cX10_isWord 32 = .ok (.goto 4, 3) := by decide +kernel
theorem dX10_isWord_35 : decode cX10_isWord 35 = .ok (.iconst 0, 1) := by decide +kernel
theorem dX10_isWord_36 : decode cX10_isWord 36 = .ok (.istore 5, 2) := by decide +kernel
theorem dX10_isWord_38 : decode cX10_isWord 38 = .ok (.iconst 0, 1) := by decide +kernel
theorem dX10_isWord_39 : decode cX10_isWord 39 = .ok (.istore 6, 2) := by decide +kernel
theorem dX10_isWord_41 : decode cX10_isWord 41 = .ok (.iload 6, 2) := by decide +kernel
theorem dX10_isWord_43 : decode cX10_isWord 43 = .ok (.iload_n 2, 1) := by decide +kernel
theorem dX10_isWord_44 : decode cX10_isWord 44 = .ok (.if_icmp .ge 48, 3) := by decide +kernel
theorem dX10_isWord_47 : decode cX10_isWord 47 = .ok (.iload 5, 2) := by decide +kernel
theorem dX10_isWord_49 : decode cX10_isWord 49 = .ok (.ifCond .eq 43, 3) := by decide +kernel
theorem dX10_isWord_52 : decode cX10_isWord 52 = .ok (.aload_n 0, 1) := by decide +kernel
theorem dX10_isWord_53 : decode cX10_isWord 53 = .ok (.getfield 7, 3) := by decide +kernel
theorem dX10_isWord_56 : decode cX10_isWord 56 = .ok (.sipush 317, 3) := by decide +kernel
theorem dX10_isWord_59 : decode cX10_isWord 59 = .ok (.iconst 5, 1) := by decide +kernel
theorem dX10_isWord_60 : decode cX10_isWord 60 = .ok (.iload 4, 2) := by decide +kernel
theorem dX10_isWord_62 : decode cX10_isWord 62 = .ok (.imul, 1) := by decide +kernel
theorem dX10_isWord_63 : decode cX10_isWord 63 = .ok (.iadd, 1) := by decide +kernel
theorem dX10_isWord_64 : decode cX10_isWord 64 = .ok (.iload 6, 2) := by decide +kernel
theorem dX10_isWord_66 : decode cX10_isWord 66 = .ok (.iadd, 1) := by decide +kernel
theorem dX10_isWord_67 : decode cX10_isWord 67 = .ok (.iaload, 1) := by decide +kernel
theorem dX10_isWord_68 : decode cX10_isWord 68 = .ok (.aload_n 0, 1) := by decide +kernel
theorem dX10_isWord_69 : decode cX10_isWord 69 = .ok (.iload_n 1, 1) := by decide +kernel
theorem dX10_isWord_70 : decode cX10_isWord 70 = .ok (.iload 6, 2) := by decide +kernel
theorem dX10_isWord_72 : decode cX10_isWord 72 = .ok (.iadd, 1) := by decide +kernel
theorem dX10_isWord_73 : decode cX10_isWord 73 = .ok (.invokevirtual 79, 3) := by decide +kernel
theorem dX10_isWord_76 : decode cX10_isWord 76 = .ok (.if_icmp .ne 7, 3) := by decide +kernel
theorem dX10_isWord_79 : decode cX10_isWord 79 = .ok (.iconst 1, 1) := by decide +kernel
theorem dX10_isWord_80 : decode cX10_isWord 80 = .ok (.goto 4, 3) := by decide +kernel
theorem dX10_isWord_83 : decode cX10_isWord 83 = .ok (.iconst 0, 1) := by decide +kernel
theorem dX10_isWord_84 : decode cX10_isWord 84 = .ok (.istore 5, 2) := by decide +kernel
theorem dX10_isWord_86 : decode cX10_isWord 86 = .ok (.iinc 6 1, 3) := by decide +kernel
theorem dX10_isWord_89 : decode cX10_isWord 89 = .ok (.goto (-48), 3) := by decide +kernel
theorem dX10_isWord_92 : decode cX10_isWord 92 = .ok (.iload_n 3, 1) := by decide +kernel
theorem dX10_isWord_93 : decode cX10_isWord 93 = .ok (.ifCond .ne 8, 3) := by decide +kernel
theorem dX10_isWord_96 : decode cX10_isWord 96 = .ok (.iload 5, 2) := by decide +kernel
theorem dX10_isWord_98 : decode cX10_isWord 98 = .ok (.ifCond .eq 7, 3) := by decide +kernel
theorem dX10_isWord_101 : decode cX10_isWord 101 = .ok (.iconst 1, 1) := by decide +kernel
theorem dX10_isWord_102 : decode cX10_isWord 102 = .ok (.goto 4, 3) := by decide +kernel
theorem dX10_isWord_105 : decode cX10_isWord 105 = .ok (.iconst 0, 1) := by decide +kernel
theorem dX10_isWord_106 : decode cX10_isWord 106 = .ok (.istore_n 3, 1) := by decide +kernel
theorem dX10_isWord_107 : decode cX10_isWord 107 = .ok (.iinc 4 1, 3) := by decide +kernel
theorem dX10_isWord_110 : decode cX10_isWord 110 = .ok (.goto (-105), 3) := by decide +kernel
theorem dX10_isWord_113 : decode cX10_isWord 113 = .ok (.iload_n 3, 1) := by decide +kernel
theorem dX10_isWord_114 : decode cX10_isWord 114 = .ok (.ireturn, 1) := by decide +kernel
theorem dX10_letters_0 : decode cX10_letters 0 = .ok (.iconst 0, 1) := by decide +kernel
theorem dX10_letters_1 : decode cX10_letters 1 = .ok (.istore_n 1, 1) := by decide +kernel
theorem dX10_letters_2 : decode cX10_letters 2 = .ok (.aload_n 0, 1) := by decide +kernel
theorem dX10_letters_3 : decode cX10_letters 3 = .ok (.aload_n 0, 1) := by decide +kernel
theorem dX10_letters_4 : decode cX10_letters 4 = .ok (.getfield 61, 3) := by decide +kernel
theorem dX10_letters_7 : decode cX10_letters 7 = .ok (.iload_n 1, 1) := by decide +kernel
theorem dX10_letters_8 : decode cX10_letters 8 = .ok (.iadd, 1) := by decide +kernel
theorem dX10_letters_9 : decode cX10_letters 9 = .ok (.invokevirtual 79, 3) := by decide +kernel
theorem dX10_letters_12 : decode cX10_letters 12 = .ok (.invokestatic 82, 3) := by decide +kernel
theorem dX10_letters_15 : decode cX10_letters 15 = .ok (.ifCond .eq 9, 3) := by decide +kernel
theorem dX10_letters_18 : decode cX10_letters 18 = .ok (.iinc 1 1, 3) := by decide +kernel
theorem dX10_letters_21 : decode cX10_letters 21 = .ok (.goto (-19), 3) := by decide +kernel
theorem dX10_letters_24 : decode cX10_letters 24 = .ok (.iload_n 1, 1) := by decide +kernel
theorem dX10_letters_25 : decode cX10_letters 25 = .ok (.ireturn, 1) := by decide +kernel
theorem dX10_figures_0 : decode cX10_figures 0 = .ok (.iconst 0, 1) := by decide +kernel
theorem dX10_figures_1 : decode cX10_figures 1 = .ok (.istore_n 1, 1) := by decide +kernel
theorem dX10_figures_2 : decode cX10_figures 2 = .ok (.aload_n 0, 1) := by decide +kernel
theorem dX10_figures_3 : decode cX10_figures 3 = .ok (.aload_n 0, 1) := by decide +kernel
theorem dX10_figures_4 : decode cX10_figures 4 = .ok (.getfield 61, 3) := by decide +kernel
theorem dX10_figures_7 : decode cX10_figures 7 = .ok (.iload_n 1, 1) := by decide +kernel
theorem dX10_figures_8 : decode cX10_figures 8 = .ok (.iadd, 1) := by decide +kernel
theorem dX10_figures_9 : decode cX10_figures 9 = .ok (.invokevirtual 79, 3) := by decide +kernel
theorem dX10_figures_12 : decode cX10_figures 12 = .ok (.invokestatic 85, 3) := by decide +kernel
theorem dX10_figures_15 : decode cX10_figures 15 = .ok (.ifCond .eq 9, 3) := by decide +kernel
theorem dX10_figures_18 : decode cX10_figures 18 = .ok (.iinc 1 1, 3) := by decide +kernel
theorem dX10_figures_21 : decode cX10_figures 21 = .ok (.goto (-19), 3) := by decide +kernel
theorem dX10_figures_24 : decode cX10_figures 24 = .ok (.iload_n 1, 1) := by decide +kernel
theorem dX10_figures_25 : decode cX10_figures 25 = .ok (.ireturn, 1) := by decide +kernel
theorem dX10_paintsCode_0 : decode cX10_paintsCode 0 = .ok (.aload_n 0, 1) := by decide +kernel
theorem dX10_paintsCode_1 : decode cX10_paintsCode 1 = .ok (.aload_n 0, 1) := by decide +kernel
theorem dX10_paintsCode_2 : decode cX10_paintsCode 2 = .ok (.getfield 61, 3) := by decide +kernel
theorem dX10_paintsCode_5 : decode cX10_paintsCode 5 = .ok (.invokevirtual 79, 3) := by decide +kernel
theorem dX10_paintsCode_8 : decode cX10_paintsCode 8 = .ok (.istore_n 2, 1) := by decide +kernel
theorem dX10_paintsCode_9 : decode cX10_paintsCode 9 = .ok (.iload_n 2, 1) := by decide +kernel
theorem dX10_paintsCode_10 : decode cX10_paintsCode 10 = .ok (.invokestatic 82, 3) := by decide +kernel
theorem dX10_paintsCode_13 : decode cX10_paintsCode 13 = .ok (.ifCond .eq 33, 3) := by decide +kernel
theorem dX10_paintsCode_16 : decode cX10_paintsCode 16 = .ok (.aload_n 0, 1) := by decide +kernel
theorem dX10_paintsCode_17 : decode cX10_paintsCode 17 = .ok (.invokevirtual 88, 3) := by decide +kernel
theorem dX10_paintsCode_20 : decode cX10_paintsCode 20 = .ok (.istore_n 3, 1) := by decide +kernel
theorem dX10_paintsCode_21 : decode cX10_paintsCode 21 = .ok (.aload_n 0, 1) := by decide +kernel
theorem dX10_paintsCode_22 : decode cX10_paintsCode 22 = .ok (.iload_n 3, 1) := by decide +kernel
theorem dX10_paintsCode_23 : decode cX10_paintsCode 23 = .ok (.aload_n 0, 1) := by decide +kernel
theorem dX10_paintsCode_24 : decode cX10_paintsCode 24 = .ok (.aload_n 0, 1) := by decide +kernel
theorem dX10_paintsCode_25 : decode cX10_paintsCode 25 = .ok (.getfield 61, 3) := by decide +kernel
theorem dX10_paintsCode_28 : decode cX10_paintsCode 28 = .ok (.iload_n 3, 1) := by decide +kernel
theorem dX10_paintsCode_29 : decode cX10_paintsCode 29 = .ok (.invokevirtual 91, 3) := by decide +kernel
theorem dX10_paintsCode_32 : decode cX10_paintsCode 32 = .ok (.ifCond .eq 7, 3) := by decide +kernel
theorem dX10_paintsCode_35 : decode cX10_paintsCode 35 = .ok (.iconst 2, 1) := by decide +kernel
theorem dX10_paintsCode_36 : decode cX10_paintsCode 36 = .ok (.goto 4, 3) := by decide +kernel
theorem dX10_paintsCode_39 : decode cX10_paintsCode 39 = .ok (.iconst 1, 1) := by decide +kernel
theorem dX10_paintsCode_40 : decode cX10_paintsCode 40 = .ok (.invokevirtual 71, 3) := by decide +kernel
theorem dX10_paintsCode_43 : decode cX10_paintsCode 43 = .ok (.goto 247, 3) := by decide +kernel
theorem dX10_paintsCode_46 : decode cX10_paintsCode 46 = .ok (.iload_n 2, 1) := by decide +kernel
theorem dX10_paintsCode_47 : decode cX10_paintsCode 47 = .ok (.invokestatic 85, 3) := by decide +kernel
theorem dX10_paintsCode_50 : decode cX10_paintsCode 50 = .ok (.ifCond .eq 15, 3) := by decide +kernel
theorem dX10_paintsCode_53 : decode cX10_paintsCode 53 = .ok (.aload_n 0, 1) := by decide +kernel
theorem dX10_paintsCode_54 : decode cX10_paintsCode 54 = .ok (.aload_n 0, 1) := by decide +kernel
theorem dX10_paintsCode_55 : decode cX10_paintsCode 55 = .ok (.invokevirtual 95, 3) := by decide +kernel
theorem dX10_paintsCode_58 : decode cX10_paintsCode 58 = .ok (.iconst 3, 1) := by decide +kernel
theorem dX10_paintsCode_59 : decode cX10_paintsCode 59 = .ok (.invokevirtual 71, 3) := by decide +kernel
theorem dX10_paintsCode_62 : decode cX10_paintsCode 62 = .ok (.goto 228, 3) := by decide +kernel
theorem dX10_paintsCode_65 : decode cX10_paintsCode 65 = .ok (.iload_n 2, 1) := by decide +kernel
theorem dX10_paintsCode_66 : decode cX10_paintsCode 66 = .ok (.bipush 34, 2) := by decide +kernel
theorem dX10_paintsCode_68 : decode cX10_paintsCode 68 = .ok (.if_icmp .eq 9, 3) := by decide +kernel
theorem dX10_paintsCode_71 : decode cX10_paintsCode 71 = .ok (.iload_n 2, 1) := by decide +kernel
theorem dX10_paintsCode_72 : decode cX10_paintsCode 72 = .ok (.bipush 39, 2) := by decide +kernel
theorem dX10_paintsCode_74 : decode cX10_paintsCode 74 = .ok (.if_icmp .ne 22, 3) := by decide +kernel
theorem dX10_paintsCode_77 : decode cX10_paintsCode 77 = .ok (.aload_n 0, 1) := by decide +kernel
theorem dX10_paintsCode_78 : decode cX10_paintsCode 78 = .ok (.iload_n 2, 1) := by decide +kernel
theorem dX10_paintsCode_79 : decode cX10_paintsCode 79 = .ok (.bipush 34, 2) := by decide +kernel
theorem dX10_paintsCode_81 : decode cX10_paintsCode 81 = .ok (.if_icmp .ne 7, 3) := by decide +kernel
theorem dX10_paintsCode_84 : decode cX10_paintsCode 84 = .ok (.iconst 1, 1) := by decide +kernel
theorem dX10_paintsCode_85 : decode cX10_paintsCode 85 = .ok (.goto 4, 3) := by decide +kernel
theorem dX10_paintsCode_88 : decode cX10_paintsCode 88 = .ok (.iconst 2, 1) := by decide +kernel
theorem dX10_paintsCode_89 : decode cX10_paintsCode 89 = .ok (.iconst 4, 1) := by decide +kernel
theorem dX10_paintsCode_90 : decode cX10_paintsCode 90 = .ok (.invokevirtual 98, 3) := by decide +kernel
theorem dX10_paintsCode_93 : decode cX10_paintsCode 93 = .ok (.goto 197, 3) := by decide +kernel
theorem dX10_paintsCode_96 : decode cX10_paintsCode 96 = .ok (.iload_n 2, 1) := by decide +kernel
theorem dX10_paintsCode_97 : decode cX10_paintsCode 97 = .ok (.bipush 91, 2) := by decide +kernel
theorem dX10_paintsCode_99 : decode cX10_paintsCode 99 = .ok (.if_icmp .ne 12, 3) := by decide +kernel
theorem dX10_paintsCode_102 : decode cX10_paintsCode 102 = .ok (.aload_n 0, 1) := by decide +kernel
theorem dX10_paintsCode_103 : decode cX10_paintsCode 103 = .ok (.iconst 3, 1) := by decide +kernel
theorem dX10_paintsCode_104 : decode cX10_paintsCode 104 = .ok (.iconst 5, 1) := by decide +kernel
theorem dX10_paintsCode_105 : decode cX10_paintsCode 105 = .ok (.invokevirtual 98, 3) := by decide +kernel
theorem dX10_paintsCode_108 : decode cX10_paintsCode 108 = .ok (.goto 182, 3) := by decide +kernel
theorem dX10_paintsCode_111 : decode cX10_paintsCode 111 = .ok (.iload_n 2, 1) := by decide +kernel
theorem dX10_paintsCode_112 : decode cX10_paintsCode 112 = .ok (.bipush 35, 2) := by decide +kernel
theorem dX10_paintsCode_114 : decode cX10_paintsCode 114 = .ok (.if_icmp .ne 27, 3) := by decide +kernel
theorem dX10_paintsCode_117 : decode cX10_paintsCode 117 = .ok (.aload_n 0, 1) := by decide +kernel
theorem dX10_paintsCode_118 : decode cX10_paintsCode 118 = .ok (.aload_n 0, 1) := by decide +kernel
theorem dX10_paintsCode_119 : decode cX10_paintsCode 119 = .ok (.getfield 7, 3) := by decide +kernel
theorem dX10_paintsCode_122 : decode cX10_paintsCode 122 = .ok (.iconst 3, 1) := by decide +kernel
theorem dX10_paintsCode_123 : decode cX10_paintsCode 123 = .ok (.aload_n 0, 1) := by decide +kernel
theorem dX10_paintsCode_124 : decode cX10_paintsCode 124 = .ok (.getfield 54, 3) := by decide +kernel
theorem dX10_paintsCode_127 : decode cX10_paintsCode 127 = .ok (.iadd, 1) := by decide +kernel
theorem dX10_paintsCode_128 : decode cX10_paintsCode 128 = .ok (.iaload, 1) := by decide +kernel
theorem dX10_paintsCode_129 : decode cX10_paintsCode 129 = .ok (.aload_n 0, 1) := by decide +kernel
theorem dX10_paintsCode_130 : decode cX10_paintsCode 130 = .ok (.getfield 61, 3) := by decide +kernel
theorem dX10_paintsCode_133 : decode cX10_paintsCode 133 = .ok (.isub, 1) := by decide +kernel
theorem dX10_paintsCode_134 : decode cX10_paintsCode 134 = .ok (.iconst 5, 1) := by decide +kernel
theorem dX10_paintsCode_135 : decode cX10_paintsCode 135 = .ok (.invokevirtual 71, 3) := by decide +kernel
theorem dX10_paintsCode_138 : decode cX10_paintsCode 138 = .ok (.goto 152, 3) := by decide +kernel
theorem dX10_paintsCode_141 : decode cX10_paintsCode 141 = .ok (.iload_n 2, 1) := by decide +kernel
theorem dX10_paintsCode_142 : decode cX10_paintsCode 142 = .ok (.bipush 125, 2) := by decide +kernel
theorem dX10_paintsCode_144 : decode cX10_paintsCode 144 = .ok (.if_icmp .ne 77, 3) := by decide +kernel
theorem dX10_paintsCode_147 : decode cX10_paintsCode 147 = .ok (.aload_n 0, 1) := by decide +kernel
theorem dX10_paintsCode_148 : decode cX10_paintsCode 148 = .ok (.getfield 44, 3) := by decide +kernel
theorem dX10_paintsCode_151 : decode cX10_paintsCode 151 = .ok (.iconst 1, 1) := by decide +kernel
theorem dX10_paintsCode_152 : decode cX10_paintsCode 152 = .ok (.if_icmp .le 21, 3) := by decide +kernel
theorem dX10_paintsCode_155 : decode cX10_paintsCode 155 = .ok (.aload_n 0, 1) := by decide +kernel
theorem dX10_paintsCode_156 : decode cX10_paintsCode 156 = .ok (.getfield 41, 3) := by decide +kernel
theorem dX10_paintsCode_159 : decode cX10_paintsCode 159 = .ok (.iconst 2, 1) := by decide +kernel
theorem dX10_paintsCode_160 : decode cX10_paintsCode 160 = .ok (.aload_n 0, 1) := by decide +kernel
theorem dX10_paintsCode_161 : decode cX10_paintsCode 161 = .ok (.getfield 44, 3) := by decide +kernel
theorem dX10_paintsCode_164 : decode cX10_paintsCode 164 = .ok (.iconst 2, 1) := by decide +kernel
theorem dX10_paintsCode_165 : decode cX10_paintsCode 165 = .ok (.isub, 1) := by decide +kernel
theorem dX10_paintsCode_166 : decode cX10_paintsCode 166 = .ok (.imul, 1) := by decide +kernel
theorem dX10_paintsCode_167 : decode cX10_paintsCode 167 = .ok (.ishr, 1) := by decide +kernel
theorem dX10_paintsCode_168 : decode cX10_paintsCode 168 = .ok (.iconst 3, 1) := by decide +kernel
theorem dX10_paintsCode_169 : decode cX10_paintsCode 169 = .ok (.iand, 1) := by decide +kernel
theorem dX10_paintsCode_170 : decode cX10_paintsCode 170 = .ok (.goto 4, 3) := by decide +kernel
theorem dX10_paintsCode_173 : decode cX10_paintsCode 173 = .ok (.iconst 0, 1) := by decide +kernel
theorem dX10_paintsCode_174 : decode cX10_paintsCode 174 = .ok (.istore_n 3, 1) := by decide +kernel
theorem dX10_paintsCode_175 : decode cX10_paintsCode 175 = .ok (.iload_n 3, 1) := by decide +kernel
theorem dX10_paintsCode_176 : decode cX10_paintsCode 176 = .ok (.iconst 2, 1) := by decide +kernel
theorem dX10_paintsCode_177 : decode cX10_paintsCode 177 = .ok (.if_icmp .eq 8, 3) := by decide +kernel
theorem dX10_paintsCode_180 : decode cX10_paintsCode 180 = .ok (.iload_n 3, 1) := by decide +kernel
theorem dX10_paintsCode_181 : decode cX10_paintsCode 181 = .ok (.iconst 1, 1) := by decide +kernel
theorem dX10_paintsCode_182 : decode cX10_paintsCode 182 = .ok (.if_icmp .ne 7, 3) := by decide +kernel
theorem dX10_paintsCode_185 : decode cX10_paintsCode 185 = .ok (.iconst 1, 1) := by decide +kernel
theorem dX10_paintsCode_186 : decode cX10_paintsCode 186 = .ok (.goto 4, 3) := by decide +kernel
theorem dX10_paintsCode_189 : decode cX10_paintsCode 189 = .ok (.iconst 0, 1) := by decide +kernel
theorem dX10_paintsCode_190 : decode cX10_paintsCode 190 = .ok (.istore 4, 2) := by decide +kernel
theorem dX10_paintsCode_192 : decode cX10_paintsCode 192 = .ok (.aload_n 0, 1) := by decide +kernel
theorem dX10_paintsCode_193 : decode cX10_paintsCode 193 = .ok (.iconst 1, 1) := by decide +kernel
theorem dX10_paintsCode_194 : decode cX10_paintsCode 194 = .ok (.iload 4, 2) := by decide +kernel
theorem dX10_paintsCode_196 : decode cX10_paintsCode 196 = .ok (.ifCond .eq 8, 3) := by decide +kernel
theorem dX10_paintsCode_199 : decode cX10_paintsCode 199 = .ok (.bipush 7, 2) := by decide +kernel
theorem dX10_paintsCode_201 : decode cX10_paintsCode 201 = .ok (.goto 5, 3) := by decide +kernel
theorem dX10_paintsCode_204 : decode cX10_paintsCode 204 = .ok (.bipush 6, 2) := by decide +kernel
theorem dX10_paintsCode_206 : decode cX10_paintsCode 206 = .ok (.invokevirtual 71, 3) := by decide +kernel
theorem dX10_paintsCode_209 : decode cX10_paintsCode 209 = .ok (.iload 4, 2) := by decide +kernel
theorem dX10_paintsCode_211 : decode cX10_paintsCode 211 = .ok (.ifCond .eq 7, 3) := by decide +kernel
theorem dX10_paintsCode_214 : decode cX10_paintsCode 214 = .ok (.aload_n 0, 1) := by decide +kernel
theorem dX10_paintsCode_215 : decode cX10_paintsCode 215 = .ok (.invokevirtual 101, 3) := by decide +kernel
theorem dX10_paintsCode_218 : decode cX10_paintsCode 218 = .ok (.goto 72, 3) := by decide +kernel
theorem dX10_paintsCode_221 : decode cX10_paintsCode 221 = .ok (.iload_n 2, 1) := by decide +kernel
theorem dX10_paintsCode_222 : decode cX10_paintsCode 222 = .ok (.bipush 60, 2) := by decide +kernel
theorem dX10_paintsCode_224 : decode cX10_paintsCode 224 = .ok (.if_icmp .ne 60, 3) := by decide +kernel
theorem dX10_paintsCode_227 : decode cX10_paintsCode 227 = .ok (.aload_n 0, 1) := by decide +kernel
theorem dX10_paintsCode_228 : decode cX10_paintsCode 228 = .ok (.aload_n 0, 1) := by decide +kernel
theorem dX10_paintsCode_229 : decode cX10_paintsCode 229 = .ok (.getfield 61, 3) := by decide +kernel
theorem dX10_paintsCode_232 : decode cX10_paintsCode 232 = .ok (.iconst 1, 1) := by decide +kernel
theorem dX10_paintsCode_233 : decode cX10_paintsCode 233 = .ok (.iadd, 1) := by decide +kernel
theorem dX10_paintsCode_234 : decode cX10_paintsCode 234 = .ok (.invokevirtual 79, 3) := by decide +kernel
theorem dX10_paintsCode_237 : decode cX10_paintsCode 237 = .ok (.bipush 65, 2) := by decide +kernel
theorem dX10_paintsCode_239 : decode cX10_paintsCode 239 = .ok (.bipush 90, 2) := by decide +kernel
theorem dX10_paintsCode_241 : decode cX10_paintsCode 241 = .ok (.invokestatic 57, 3) := by decide +kernel
theorem dX10_paintsCode_244 : decode cX10_paintsCode 244 = .ok (.ifCond .eq 40, 3) := by decide +kernel
theorem dX10_paintsCode_247 : decode cX10_paintsCode 247 = .ok (.aload_n 0, 1) := by decide +kernel
theorem dX10_paintsCode_248 : decode cX10_paintsCode 248 = .ok (.getfield 44, 3) := by decide +kernel
theorem dX10_paintsCode_251 : decode cX10_paintsCode 251 = .ok (.iconst 1, 1) := by decide +kernel
theorem dX10_paintsCode_252 : decode cX10_paintsCode 252 = .ok (.if_icmp .ne 32, 3) := by decide +kernel
theorem dX10_paintsCode_255 : decode cX10_paintsCode 255 = .ok (.iload_n 1, 1) := by decide +kernel
theorem dX10_paintsCode_256 : decode cX10_paintsCode 256 = .ok (.ifCond .ne 28, 3) := by decide +kernel
theorem dX10_paintsCode_259 : decode cX10_paintsCode 259 = .ok (.aload_n 0, 1) := by decide +kernel
theorem dX10_paintsCode_260 : decode cX10_paintsCode 260 = .ok (.aload_n 0, 1) := by decide +kernel
theorem dX10_paintsCode_261 : decode cX10_paintsCode 261 = .ok (.getfield 61, 3) := by decide +kernel
theorem dX10_paintsCode_264 : decode cX10_paintsCode 264 = .ok (.iconst 1, 1) := by decide +kernel
theorem dX10_paintsCode_265 : decode cX10_paintsCode 265 = .ok (.iadd, 1) := by decide +kernel
theorem dX10_paintsCode_266 : decode cX10_paintsCode 266 = .ok (.invokevirtual 79, 3) := by decide +kernel
theorem dX10_paintsCode_269 : decode cX10_paintsCode 269 = .ok (.bipush 65, 2) := by decide +kernel
theorem dX10_paintsCode_271 : decode cX10_paintsCode 271 = .ok (.isub, 1) := by decide +kernel
theorem dX10_paintsCode_272 : decode cX10_paintsCode 272 = .ok (.iconst 1, 1) := by decide +kernel
theorem dX10_paintsCode_273 : decode cX10_paintsCode 273 = .ok (.iadd, 1) := by decide +kernel
theorem dX10_paintsCode_274 : decode cX10_paintsCode 274 = .ok (.istore_n 3, 1) := by decide +kernel
theorem dX10_paintsCode_275 : decode cX10_paintsCode 275 = .ok (.aload_n 0, 1) := by decide +kernel
theorem dX10_paintsCode_276 : decode cX10_paintsCode 276 = .ok (.iconst 2, 1) := by decide +kernel
theorem dX10_paintsCode_277 : decode cX10_paintsCode 277 = .ok (.bipush 7, 2) := by decide +kernel
theorem dX10_paintsCode_279 : decode cX10_paintsCode 279 = .ok (.invokevirtual 71, 3) := by decide +kernel
theorem dX10_paintsCode_282 : decode cX10_paintsCode 282 = .ok (.iload_n 3, 1) := by decide +kernel
theorem dX10_paintsCode_283 : decode cX10_paintsCode 283 = .ok (.ireturn, 1) := by decide +kernel
theorem dX10_paintsCode_284 : decode cX10_paintsCode 284 = .ok (.aload_n 0, 1) := by decide +kernel
theorem dX10_paintsCode_285 : decode cX10_paintsCode 285 = .ok (.iconst 1, 1) := by decide +kernel
theorem dX10_paintsCode_286 : decode cX10_paintsCode 286 = .ok (.iconst 0, 1) := by decide +kernel
theorem dX10_paintsCode_287 : decode cX10_paintsCode 287 = .ok (.invokevirtual 71, 3) := by decide +kernel
theorem dX10_paintsCode_290 : decode cX10_paintsCode 290 = .ok (.iload_n 1, 1) := by decide +kernel
theorem dX10_paintsCode_291 : decode cX10_paintsCode 291 = .ok (.ireturn, 1) := by decide +kernel
theorem dX10_paintsString_0 : decode cX10_paintsString 0 = .ok (.aload_n 0, 1) := by decide +kernel
theorem dX10_paintsString_1 : decode cX10_paintsString 1 = .ok (.aload_n 0, 1) := by decide +kernel
theorem dX10_paintsString_2 : decode cX10_paintsString 2 = .ok (.getfield 61, 3) := by decide +kernel
theorem dX10_paintsString_5 : decode cX10_paintsString 5 = .ok (.invokevirtual 79, 3) := by decide +kernel
theorem dX10_paintsString_8 : decode cX10_paintsString 8 = .ok (.istore_n 1, 1) := by decide +kernel
theorem dX10_paintsString_9 : decode cX10_paintsString 9 = .ok (.iload_n 1, 1) := by decide +kernel
theorem dX10_paintsString_10 : decode cX10_paintsString 10 = .ok (.bipush 92, 2) := by decide +kernel
theorem dX10_paintsString_12 : decode cX10_paintsString 12 = .ok (.if_icmp .ne 33, 3) := by decide +kernel
theorem dX10_paintsString_15 : decode cX10_paintsString 15 = .ok (.aload_n 0, 1) := by decide +kernel
theorem dX10_paintsString_16 : decode cX10_paintsString 16 = .ok (.getfield 61, 3) := by decide +kernel
theorem dX10_paintsString_19 : decode cX10_paintsString 19 = .ok (.iconst 1, 1) := by decide +kernel
theorem dX10_paintsString_20 : decode cX10_paintsString 20 = .ok (.iadd, 1) := by decide +kernel
theorem dX10_paintsString_21 : decode cX10_paintsString 21 = .ok (.aload_n 0, 1) := by decide +kernel
theorem dX10_paintsString_22 : decode cX10_paintsString 22 = .ok (.getfield 7, 3) := by decide +kernel
theorem dX10_paintsString_25 : decode cX10_paintsString 25 = .ok (.iconst 3, 1) := by decide +kernel
theorem dX10_paintsString_26 : decode cX10_paintsString 26 = .ok (.aload_n 0, 1) := by decide +kernel
theorem dX10_paintsString_27 : decode cX10_paintsString 27 = .ok (.getfield 54, 3) := by decide +kernel
theorem dX10_paintsString_30 : decode cX10_paintsString 30 = .ok (.iadd, 1) := by decide +kernel
theorem dX10_paintsString_31 : decode cX10_paintsString 31 = .ok (.iaload, 1) := by decide +kernel
theorem dX10_paintsString_32 : decode cX10_paintsString 32 = .ok (.if_icmp .ge 13, 3) := by decide +kernel
theorem dX10_paintsString_35 : decode cX10_paintsString 35 = .ok (.aload_n 0, 1) := by decide +kernel
theorem dX10_paintsString_36 : decode cX10_paintsString 36 = .ok (.iconst 2, 1) := by decide +kernel
theorem dX10_paintsString_37 : decode cX10_paintsString 37 = .ok (.bipush 7, 2) := by decide +kernel
theorem dX10_paintsString_39 : decode cX10_paintsString 39 = .ok (.invokevirtual 71, 3) := by decide +kernel
theorem dX10_paintsString_42 : decode cX10_paintsString 42 = .ok (.goto 58, 3) := by decide +kernel
theorem dX10_paintsString_45 : decode cX10_paintsString 45 = .ok (.iload_n 1, 1) := by decide +kernel
theorem dX10_paintsString_46 : decode cX10_paintsString 46 = .ok (.bipush 123, 2) := by decide +kernel
theorem dX10_paintsString_48 : decode cX10_paintsString 48 = .ok (.if_icmp .ne 13, 3) := by decide +kernel
theorem dX10_paintsString_51 : decode cX10_paintsString 51 = .ok (.aload_n 0, 1) := by decide +kernel
theorem dX10_paintsString_52 : decode cX10_paintsString 52 = .ok (.iconst 0, 1) := by decide +kernel
theorem dX10_paintsString_53 : decode cX10_paintsString 53 = .ok (.bipush 7, 2) := by decide +kernel
theorem dX10_paintsString_55 : decode cX10_paintsString 55 = .ok (.invokevirtual 98, 3) := by decide +kernel
theorem dX10_paintsString_58 : decode cX10_paintsString 58 = .ok (.goto 42, 3) := by decide +kernel
theorem dX10_paintsString_61 : decode cX10_paintsString 61 = .ok (.iload_n 1, 1) := by decide +kernel
theorem dX10_paintsString_62 : decode cX10_paintsString 62 = .ok (.aload_n 0, 1) := by decide +kernel
theorem dX10_paintsString_63 : decode cX10_paintsString 63 = .ok (.invokevirtual 64, 3) := by decide +kernel
theorem dX10_paintsString_66 : decode cX10_paintsString 66 = .ok (.iconst 1, 1) := by decide +kernel
theorem dX10_paintsString_67 : decode cX10_paintsString 67 = .ok (.if_icmp .ne 8, 3) := by decide +kernel
theorem dX10_paintsString_70 : decode cX10_paintsString 70 = .ok (.bipush 34, 2) := by decide +kernel
theorem dX10_paintsString_72 : decode cX10_paintsString 72 = .ok (.goto 5, 3) := by decide +kernel
theorem dX10_paintsString_75 : decode cX10_paintsString 75 = .ok (.bipush 39, 2) := by decide +kernel
theorem dX10_paintsString_77 : decode cX10_paintsString 77 = .ok (.if_icmp .ne 7, 3) := by decide +kernel
theorem dX10_paintsString_80 : decode cX10_paintsString 80 = .ok (.iconst 1, 1) := by decide +kernel
theorem dX10_paintsString_81 : decode cX10_paintsString 81 = .ok (.goto 4, 3) := by decide +kernel
theorem dX10_paintsString_84 : decode cX10_paintsString 84 = .ok (.iconst 0, 1) := by decide +kernel
theorem dX10_paintsString_85 : decode cX10_paintsString 85 = .ok (.istore_n 2, 1) := by decide +kernel
theorem dX10_paintsString_86 : decode cX10_paintsString 86 = .ok (.aload_n 0, 1) := by decide +kernel
theorem dX10_paintsString_87 : decode cX10_paintsString 87 = .ok (.iconst 1, 1) := by decide +kernel
theorem dX10_paintsString_88 : decode cX10_paintsString 88 = .ok (.iconst 4, 1) := by decide +kernel
theorem dX10_paintsString_89 : decode cX10_paintsString 89 = .ok (.invokevirtual 71, 3) := by decide +kernel
theorem dX10_paintsString_92 : decode cX10_paintsString 92 = .ok (.iload_n 2, 1) := by decide +kernel
theorem dX10_paintsString_93 : decode cX10_paintsString 93 = .ok (.ifCond .eq 7, 3) := by decide +kernel
theorem dX10_paintsString_96 : decode cX10_paintsString 96 = .ok (.aload_n 0, 1) := by decide +kernel
theorem dX10_paintsString_97 : decode cX10_paintsString 97 = .ok (.invokevirtual 101, 3) := by decide +kernel
theorem dX10_paintsString_100 : decode cX10_paintsString 100 = .ok (.return_, 1) := by decide +kernel
theorem dX10_paintsRemark_0 : decode cX10_paintsRemark 0 = .ok (.aload_n 0, 1) := by decide +kernel
theorem dX10_paintsRemark_1 : decode cX10_paintsRemark 1 = .ok (.aload_n 0, 1) := by decide +kernel
theorem dX10_paintsRemark_2 : decode cX10_paintsRemark 2 = .ok (.getfield 61, 3) := by decide +kernel
theorem dX10_paintsRemark_5 : decode cX10_paintsRemark 5 = .ok (.invokevirtual 79, 3) := by decide +kernel
theorem dX10_paintsRemark_8 : decode cX10_paintsRemark 8 = .ok (.istore_n 1, 1) := by decide +kernel
theorem dX10_paintsRemark_9 : decode cX10_paintsRemark 9 = .ok (.iload_n 1, 1) := by decide +kernel
theorem dX10_paintsRemark_10 : decode cX10_paintsRemark 10 = .ok (.bipush 91, 2) := by decide +kernel
theorem dX10_paintsRemark_12 : decode cX10_paintsRemark 12 = .ok (.if_icmp .ne 10, 3) := by decide +kernel
theorem dX10_paintsRemark_15 : decode cX10_paintsRemark 15 = .ok (.aload_n 0, 1) := by decide +kernel
theorem dX10_paintsRemark_16 : decode cX10_paintsRemark 16 = .ok (.iconst 3, 1) := by decide +kernel
theorem dX10_paintsRemark_17 : decode cX10_paintsRemark 17 = .ok (.iconst 5, 1) := by decide +kernel
theorem dX10_paintsRemark_18 : decode cX10_paintsRemark 18 = .ok (.invokevirtual 98, 3) := by decide +kernel
theorem dX10_paintsRemark_21 : decode cX10_paintsRemark 21 = .ok (.return_, 1) := by decide +kernel
theorem dX10_paintsRemark_22 : decode cX10_paintsRemark 22 = .ok (.aload_n 0, 1) := by decide +kernel
theorem dX10_paintsRemark_23 : decode cX10_paintsRemark 23 = .ok (.iconst 1, 1) := by decide +kernel
theorem dX10_paintsRemark_24 : decode cX10_paintsRemark 24 = .ok (.iconst 5, 1) := by decide +kernel
theorem dX10_paintsRemark_25 : decode cX10_paintsRemark 25 = .ok (.invokevirtual 71, 3) := by decide +kernel
theorem dX10_paintsRemark_28 : decode cX10_paintsRemark 28 = .ok (.iload_n 1, 1) := by decide +kernel
theorem dX10_paintsRemark_29 : decode cX10_paintsRemark 29 = .ok (.bipush 93, 2) := by decide +kernel
theorem dX10_paintsRemark_31 : decode cX10_paintsRemark 31 = .ok (.if_icmp .ne 7, 3) := by decide +kernel
theorem dX10_paintsRemark_34 : decode cX10_paintsRemark 34 = .ok (.aload_n 0, 1) := by decide +kernel
theorem dX10_paintsRemark_35 : decode cX10_paintsRemark 35 = .ok (.invokevirtual 101, 3) := by decide +kernel
theorem dX10_paintsRemark_38 : decode cX10_paintsRemark 38 = .ok (.return_, 1) := by decide +kernel
theorem dX10_paintsMarked_0 : decode cX10_paintsMarked 0 = .ok (.aload_n 0, 1) := by decide +kernel
theorem dX10_paintsMarked_1 : decode cX10_paintsMarked 1 = .ok (.getfield 7, 3) := by decide +kernel
theorem dX10_paintsMarked_4 : decode cX10_paintsMarked 4 = .ok (.iconst 3, 1) := by decide +kernel
theorem dX10_paintsMarked_5 : decode cX10_paintsMarked 5 = .ok (.aload_n 0, 1) := by decide +kernel
theorem dX10_paintsMarked_6 : decode cX10_paintsMarked 6 = .ok (.getfield 54, 3) := by decide +kernel
theorem dX10_paintsMarked_9 : decode cX10_paintsMarked 9 = .ok (.iadd, 1) := by decide +kernel
theorem dX10_paintsMarked_10 : decode cX10_paintsMarked 10 = .ok (.iaload, 1) := by decide +kernel
theorem dX10_paintsMarked_11 : decode cX10_paintsMarked 11 = .ok (.iconst 1, 1) := by decide +kernel
theorem dX10_paintsMarked_12 : decode cX10_paintsMarked 12 = .ok (.if_icmp .ne 24, 3) := by decide +kernel
theorem dX10_paintsMarked_15 : decode cX10_paintsMarked 15 = .ok (.aload_n 0, 1) := by decide +kernel
theorem dX10_paintsMarked_16 : decode cX10_paintsMarked 16 = .ok (.iconst 0, 1) := by decide +kernel
theorem dX10_paintsMarked_17 : decode cX10_paintsMarked 17 = .ok (.invokevirtual 79, 3) := by decide +kernel
theorem dX10_paintsMarked_20 : decode cX10_paintsMarked 20 = .ok (.bipush 65, 2) := by decide +kernel
theorem dX10_paintsMarked_22 : decode cX10_paintsMarked 22 = .ok (.aload_n 0, 1) := by decide +kernel
theorem dX10_paintsMarked_23 : decode cX10_paintsMarked 23 = .ok (.getfield 47, 3) := by decide +kernel
theorem dX10_paintsMarked_26 : decode cX10_paintsMarked 26 = .ok (.iadd, 1) := by decide +kernel
theorem dX10_paintsMarked_27 : decode cX10_paintsMarked 27 = .ok (.iconst 1, 1) := by decide +kernel
theorem dX10_paintsMarked_28 : decode cX10_paintsMarked 28 = .ok (.isub, 1) := by decide +kernel
theorem dX10_paintsMarked_29 : decode cX10_paintsMarked 29 = .ok (.if_icmp .ne 7, 3) := by decide +kernel
theorem dX10_paintsMarked_32 : decode cX10_paintsMarked 32 = .ok (.iconst 1, 1) := by decide +kernel
theorem dX10_paintsMarked_33 : decode cX10_paintsMarked 33 = .ok (.goto 4, 3) := by decide +kernel
theorem dX10_paintsMarked_36 : decode cX10_paintsMarked 36 = .ok (.iconst 0, 1) := by decide +kernel
theorem dX10_paintsMarked_37 : decode cX10_paintsMarked 37 = .ok (.istore_n 1, 1) := by decide +kernel
theorem dX10_paintsMarked_38 : decode cX10_paintsMarked 38 = .ok (.iconst 0, 1) := by decide +kernel
theorem dX10_paintsMarked_39 : decode cX10_paintsMarked 39 = .ok (.istore_n 2, 1) := by decide +kernel
theorem dX10_paintsMarked_40 : decode cX10_paintsMarked 40 = .ok (.iload_n 2, 1) := by decide +kernel
theorem dX10_paintsMarked_41 : decode cX10_paintsMarked 41 = .ok (.aload_n 0, 1) := by decide +kernel
theorem dX10_paintsMarked_42 : decode cX10_paintsMarked 42 = .ok (.getfield 7, 3) := by decide +kernel
theorem dX10_paintsMarked_45 : decode cX10_paintsMarked 45 = .ok (.iconst 3, 1) := by decide +kernel
theorem dX10_paintsMarked_46 : decode cX10_paintsMarked 46 = .ok (.aload_n 0, 1) := by decide +kernel
theorem dX10_paintsMarked_47 : decode cX10_paintsMarked 47 = .ok (.getfield 54, 3) := by decide +kernel
theorem dX10_paintsMarked_50 : decode cX10_paintsMarked 50 = .ok (.iadd, 1) := by decide +kernel
theorem dX10_paintsMarked_51 : decode cX10_paintsMarked 51 = .ok (.iaload, 1) := by decide +kernel
theorem dX10_paintsMarked_52 : decode cX10_paintsMarked 52 = .ok (.if_icmp .ge 48, 3) := by decide +kernel
theorem dX10_paintsMarked_55 : decode cX10_paintsMarked 55 = .ok (.aload_n 0, 1) := by decide +kernel
theorem dX10_paintsMarked_56 : decode cX10_paintsMarked 56 = .ok (.getfield 22, 3) := by decide +kernel
theorem dX10_paintsMarked_59 : decode cX10_paintsMarked 59 = .ok (.bipush 30, 2) := by decide +kernel
theorem dX10_paintsMarked_61 : decode cX10_paintsMarked 61 = .ok (.aload_n 0, 1) := by decide +kernel
theorem dX10_paintsMarked_62 : decode cX10_paintsMarked 62 = .ok (.getfield 54, 3) := by decide +kernel
theorem dX10_paintsMarked_65 : decode cX10_paintsMarked 65 = .ok (.imul, 1) := by decide +kernel
theorem dX10_paintsMarked_66 : decode cX10_paintsMarked 66 = .ok (.iload_n 2, 1) := by decide +kernel
theorem dX10_paintsMarked_67 : decode cX10_paintsMarked 67 = .ok (.iadd, 1) := by decide +kernel
theorem dX10_paintsMarked_68 : decode cX10_paintsMarked 68 = .ok (.iload_n 1, 1) := by decide +kernel
theorem dX10_paintsMarked_69 : decode cX10_paintsMarked 69 = .ok (.ifCond .eq 8, 3) := by decide +kernel
theorem dX10_paintsMarked_72 : decode cX10_paintsMarked 72 = .ok (.bipush 7, 2) := by decide +kernel
theorem dX10_paintsMarked_74 : decode cX10_paintsMarked 74 = .ok (.goto 4, 3) := by decide +kernel
theorem dX10_paintsMarked_77 : decode cX10_paintsMarked 77 = .ok (.iconst 4, 1) := by decide +kernel
theorem dX10_paintsMarked_78 : decode cX10_paintsMarked 78 = .ok (.iastore, 1) := by decide +kernel
theorem dX10_paintsMarked_79 : decode cX10_paintsMarked 79 = .ok (.aload_n 0, 1) := by decide +kernel
theorem dX10_paintsMarked_80 : decode cX10_paintsMarked 80 = .ok (.getfield 25, 3) := by decide +kernel
theorem dX10_paintsMarked_83 : decode cX10_paintsMarked 83 = .ok (.bipush 30, 2) := by decide +kernel
theorem dX10_paintsMarked_85 : decode cX10_paintsMarked 85 = .ok (.aload_n 0, 1) := by decide +kernel
theorem dX10_paintsMarked_86 : decode cX10_paintsMarked 86 = .ok (.getfield 54, 3) := by decide +kernel
