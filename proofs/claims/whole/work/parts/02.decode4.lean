theorem dX10_unword_118 : decode cX10_unword 118 = .ok (.iaload, 1) := by decide +kernel
theorem dX10_unword_119 : decode cX10_unword 119 = .ok (.iastore, 1) := by decide +kernel
theorem dX10_unword_120 : decode cX10_unword 120 = .ok (.iinc 5 1, 3) := by decide +kernel
theorem dX10_unword_123 : decode cX10_unword 123 = .ok (.goto (-40), 3) := by decide +kernel
theorem dX10_unword_126 : decode cX10_unword 126 = .ok (.iinc 2 1, 3) := by decide +kernel
theorem dX10_unword_129 : decode cX10_unword 129 = .ok (.iinc 4 1, 3) := by decide +kernel
theorem dX10_unword_132 : decode cX10_unword 132 = .ok (.goto (-99), 3) := by decide +kernel
theorem dX10_unword_135 : decode cX10_unword 135 = .ok (.aload_n 0, 1) := by decide +kernel
theorem dX10_unword_136 : decode cX10_unword 136 = .ok (.getfield 7, 3) := by decide +kernel
theorem dX10_unword_139 : decode cX10_unword 139 = .ok (.iconst 1, 1) := by decide +kernel
theorem dX10_unword_140 : decode cX10_unword 140 = .ok (.iload_n 2, 1) := by decide +kernel
theorem dX10_unword_141 : decode cX10_unword 141 = .ok (.iastore, 1) := by decide +kernel
theorem dX10_unword_142 : decode cX10_unword 142 = .ok (.aload_n 0, 1) := by decide +kernel
theorem dX10_unword_143 : decode cX10_unword 143 = .ok (.iconst 0, 1) := by decide +kernel
theorem dX10_unword_144 : decode cX10_unword 144 = .ok (.aload_n 0, 1) := by decide +kernel
theorem dX10_unword_145 : decode cX10_unword 145 = .ok (.getfield 7, 3) := by decide +kernel
theorem dX10_unword_148 : decode cX10_unword 148 = .ok (.iconst 0, 1) := by decide +kernel
theorem dX10_unword_149 : decode cX10_unword 149 = .ok (.iaload, 1) := by decide +kernel
theorem dX10_unword_150 : decode cX10_unword 150 = .ok (.invokevirtual 147, 3) := by decide +kernel
theorem dX10_unword_153 : decode cX10_unword 153 = .ok (.iload_n 3, 1) := by decide +kernel
theorem dX10_unword_154 : decode cX10_unword 154 = .ok (.iload_n 2, 1) := by decide +kernel
theorem dX10_unword_155 : decode cX10_unword 155 = .ok (.isub, 1) := by decide +kernel
theorem dX10_unword_156 : decode cX10_unword 156 = .ok (.ireturn, 1) := by decide +kernel
theorem dX10_rule_0 : decode cX10_rule 0 = .ok (.iload_n 1, 1) := by decide +kernel
theorem dX10_rule_1 : decode cX10_rule 1 = .ok (.iconst (-1), 1) := by decide +kernel
theorem dX10_rule_2 : decode cX10_rule 2 = .ok (.bipush 7, 2) := by decide +kernel
theorem dX10_rule_4 : decode cX10_rule 4 = .ok (.invokestatic 57, 3) := by decide +kernel
theorem dX10_rule_7 : decode cX10_rule 7 = .ok (.ifCond .eq 22, 3) := by decide +kernel
theorem dX10_rule_10 : decode cX10_rule 10 = .ok (.iload_n 2, 1) := by decide +kernel
theorem dX10_rule_11 : decode cX10_rule 11 = .ok (.iconst (-1), 1) := by decide +kernel
theorem dX10_rule_12 : decode cX10_rule 12 = .ok (.iconst 2, 1) := by decide +kernel
theorem dX10_rule_13 : decode cX10_rule 13 = .ok (.invokestatic 57, 3) := by decide +kernel
theorem dX10_rule_16 : decode cX10_rule 16 = .ok (.ifCond .eq 13, 3) := by decide +kernel
theorem dX10_rule_19 : decode cX10_rule 19 = .ok (.iload_n 3, 1) := by decide +kernel
theorem dX10_rule_20 : decode cX10_rule 20 = .ok (.iconst 0, 1) := by decide +kernel
theorem dX10_rule_21 : decode cX10_rule 21 = .ok (.bipush 99, 2) := by decide +kernel
theorem dX10_rule_23 : decode cX10_rule 23 = .ok (.invokestatic 57, 3) := by decide +kernel
theorem dX10_rule_26 : decode cX10_rule 26 = .ok (.ifCond .ne 10, 3) := by decide +kernel
theorem dX10_rule_29 : decode cX10_rule 29 = .ok (.aload_n 0, 1) := by decide +kernel
theorem dX10_rule_30 : decode cX10_rule 30 = .ok (.bipush (-2), 2) := by decide +kernel
theorem dX10_rule_32 : decode cX10_rule 32 = .ok (.invokevirtual 128, 3) := by decide +kernel
theorem dX10_rule_35 : decode cX10_rule 35 = .ok (.ireturn, 1) := by decide +kernel
theorem dX10_rule_36 : decode cX10_rule 36 = .ok (.aload_n 0, 1) := by decide +kernel
theorem dX10_rule_37 : decode cX10_rule 37 = .ok (.getfield 7, 3) := by decide +kernel
theorem dX10_rule_40 : decode cX10_rule 40 = .ok (.iconst 2, 1) := by decide +kernel
theorem dX10_rule_41 : decode cX10_rule 41 = .ok (.iaload, 1) := by decide +kernel
theorem dX10_rule_42 : decode cX10_rule 42 = .ok (.bipush 12, 2) := by decide +kernel
theorem dX10_rule_44 : decode cX10_rule 44 = .ok (.if_icmp .ne 10, 3) := by decide +kernel
theorem dX10_rule_47 : decode cX10_rule 47 = .ok (.aload_n 0, 1) := by decide +kernel
theorem dX10_rule_48 : decode cX10_rule 48 = .ok (.bipush (-4), 2) := by decide +kernel
theorem dX10_rule_50 : decode cX10_rule 50 = .ok (.invokevirtual 128, 3) := by decide +kernel
theorem dX10_rule_53 : decode cX10_rule 53 = .ok (.ireturn, 1) := by decide +kernel
theorem dX10_rule_54 : decode cX10_rule 54 = .ok (.aload_n 0, 1) := by decide +kernel
theorem dX10_rule_55 : decode cX10_rule 55 = .ok (.invokevirtual 137, 3) := by decide +kernel
theorem dX10_rule_58 : decode cX10_rule 58 = .ok (.sipush 337, 3) := by decide +kernel
theorem dX10_rule_61 : decode cX10_rule 61 = .ok (.iconst 3, 1) := by decide +kernel
theorem dX10_rule_62 : decode cX10_rule 62 = .ok (.aload_n 0, 1) := by decide +kernel
theorem dX10_rule_63 : decode cX10_rule 63 = .ok (.getfield 7, 3) := by decide +kernel
theorem dX10_rule_66 : decode cX10_rule 66 = .ok (.iconst 2, 1) := by decide +kernel
theorem dX10_rule_67 : decode cX10_rule 67 = .ok (.iaload, 1) := by decide +kernel
theorem dX10_rule_68 : decode cX10_rule 68 = .ok (.imul, 1) := by decide +kernel
theorem dX10_rule_69 : decode cX10_rule 69 = .ok (.iadd, 1) := by decide +kernel
theorem dX10_rule_70 : decode cX10_rule 70 = .ok (.istore 4, 2) := by decide +kernel
theorem dX10_rule_72 : decode cX10_rule 72 = .ok (.aload_n 0, 1) := by decide +kernel
theorem dX10_rule_73 : decode cX10_rule 73 = .ok (.getfield 7, 3) := by decide +kernel
theorem dX10_rule_76 : decode cX10_rule 76 = .ok (.iload 4, 2) := by decide +kernel
theorem dX10_rule_78 : decode cX10_rule 78 = .ok (.iload_n 1, 1) := by decide +kernel
theorem dX10_rule_79 : decode cX10_rule 79 = .ok (.iastore, 1) := by decide +kernel
theorem dX10_rule_80 : decode cX10_rule 80 = .ok (.aload_n 0, 1) := by decide +kernel
theorem dX10_rule_81 : decode cX10_rule 81 = .ok (.getfield 7, 3) := by decide +kernel
theorem dX10_rule_84 : decode cX10_rule 84 = .ok (.iload 4, 2) := by decide +kernel
theorem dX10_rule_86 : decode cX10_rule 86 = .ok (.iconst 1, 1) := by decide +kernel
theorem dX10_rule_87 : decode cX10_rule 87 = .ok (.iadd, 1) := by decide +kernel
theorem dX10_rule_88 : decode cX10_rule 88 = .ok (.iload_n 2, 1) := by decide +kernel
theorem dX10_rule_89 : decode cX10_rule 89 = .ok (.iastore, 1) := by decide +kernel
theorem dX10_rule_90 : decode cX10_rule 90 = .ok (.aload_n 0, 1) := by decide +kernel
theorem dX10_rule_91 : decode cX10_rule 91 = .ok (.getfield 7, 3) := by decide +kernel
theorem dX10_rule_94 : decode cX10_rule 94 = .ok (.iload 4, 2) := by decide +kernel
theorem dX10_rule_96 : decode cX10_rule 96 = .ok (.iconst 2, 1) := by decide +kernel
theorem dX10_rule_97 : decode cX10_rule 97 = .ok (.iadd, 1) := by decide +kernel
theorem dX10_rule_98 : decode cX10_rule 98 = .ok (.iload_n 3, 1) := by decide +kernel
theorem dX10_rule_99 : decode cX10_rule 99 = .ok (.iastore, 1) := by decide +kernel
theorem dX10_rule_100 : decode cX10_rule 100 = .ok (.aload_n 0, 1) := by decide +kernel
theorem dX10_rule_101 : decode cX10_rule 101 = .ok (.getfield 7, 3) := by decide +kernel
theorem dX10_rule_104 : decode cX10_rule 104 = .ok (.iconst 2, 1) := by decide +kernel
theorem dX10_rule_105 : decode cX10_rule 105 = .ok (.dup2, 1) := by decide +kernel
theorem dX10_rule_106 : decode cX10_rule 106 = .ok (.iaload, 1) := by decide +kernel
theorem dX10_rule_107 : decode cX10_rule 107 = .ok (.iconst 1, 1) := by decide +kernel
theorem dX10_rule_108 : decode cX10_rule 108 = .ok (.iadd, 1) := by decide +kernel
theorem dX10_rule_109 : decode cX10_rule 109 = .ok (.iastore, 1) := by decide +kernel
theorem dX10_rule_110 : decode cX10_rule 110 = .ok (.aload_n 0, 1) := by decide +kernel
theorem dX10_rule_111 : decode cX10_rule 111 = .ok (.getfield 7, 3) := by decide +kernel
theorem dX10_rule_114 : decode cX10_rule 114 = .ok (.iconst 2, 1) := by decide +kernel
theorem dX10_rule_115 : decode cX10_rule 115 = .ok (.iaload, 1) := by decide +kernel
theorem dX10_rule_116 : decode cX10_rule 116 = .ok (.iconst 1, 1) := by decide +kernel
theorem dX10_rule_117 : decode cX10_rule 117 = .ok (.isub, 1) := by decide +kernel
theorem dX10_rule_118 : decode cX10_rule 118 = .ok (.ireturn, 1) := by decide +kernel
theorem dX10_shadeOf_0 : decode cX10_shadeOf 0 = .ok (.iconst 0, 1) := by decide +kernel
theorem dX10_shadeOf_1 : decode cX10_shadeOf 1 = .ok (.istore_n 3, 1) := by decide +kernel
theorem dX10_shadeOf_2 : decode cX10_shadeOf 2 = .ok (.iconst 0, 1) := by decide +kernel
theorem dX10_shadeOf_3 : decode cX10_shadeOf 3 = .ok (.istore 4, 2) := by decide +kernel
theorem dX10_shadeOf_5 : decode cX10_shadeOf 5 = .ok (.iconst 0, 1) := by decide +kernel
theorem dX10_shadeOf_6 : decode cX10_shadeOf 6 = .ok (.istore 5, 2) := by decide +kernel
theorem dX10_shadeOf_8 : decode cX10_shadeOf 8 = .ok (.iload 5, 2) := by decide +kernel
theorem dX10_shadeOf_10 : decode cX10_shadeOf 10 = .ok (.aload_n 0, 1) := by decide +kernel
theorem dX10_shadeOf_11 : decode cX10_shadeOf 11 = .ok (.getfield 7, 3) := by decide +kernel
theorem dX10_shadeOf_14 : decode cX10_shadeOf 14 = .ok (.iconst 2, 1) := by decide +kernel
theorem dX10_shadeOf_15 : decode cX10_shadeOf 15 = .ok (.iaload, 1) := by decide +kernel
theorem dX10_shadeOf_16 : decode cX10_shadeOf 16 = .ok (.if_icmp .ge 118, 3) := by decide +kernel
theorem dX10_shadeOf_19 : decode cX10_shadeOf 19 = .ok (.aload_n 0, 1) := by decide +kernel
theorem dX10_shadeOf_20 : decode cX10_shadeOf 20 = .ok (.getfield 7, 3) := by decide +kernel
theorem dX10_shadeOf_23 : decode cX10_shadeOf 23 = .ok (.sipush 337, 3) := by decide +kernel
theorem dX10_shadeOf_26 : decode cX10_shadeOf 26 = .ok (.iconst 3, 1) := by decide +kernel
theorem dX10_shadeOf_27 : decode cX10_shadeOf 27 = .ok (.iload 5, 2) := by decide +kernel
theorem dX10_shadeOf_29 : decode cX10_shadeOf 29 = .ok (.imul, 1) := by decide +kernel
theorem dX10_shadeOf_30 : decode cX10_shadeOf 30 = .ok (.iadd, 1) := by decide +kernel
theorem dX10_shadeOf_31 : decode cX10_shadeOf 31 = .ok (.iaload, 1) := by decide +kernel
theorem dX10_shadeOf_32 : decode cX10_shadeOf 32 = .ok (.istore 6, 2) := by decide +kernel
theorem dX10_shadeOf_34 : decode cX10_shadeOf 34 = .ok (.aload_n 0, 1) := by decide +kernel
theorem dX10_shadeOf_35 : decode cX10_shadeOf 35 = .ok (.getfield 7, 3) := by decide +kernel
theorem dX10_shadeOf_38 : decode cX10_shadeOf 38 = .ok (.sipush 337, 3) := by decide +kernel
theorem dX10_shadeOf_41 : decode cX10_shadeOf 41 = .ok (.iconst 3, 1) := by decide +kernel
theorem dX10_shadeOf_42 : decode cX10_shadeOf 42 = .ok (.iload 5, 2) := by decide +kernel
theorem dX10_shadeOf_44 : decode cX10_shadeOf 44 = .ok (.imul, 1) := by decide +kernel
theorem dX10_shadeOf_45 : decode cX10_shadeOf 45 = .ok (.iadd, 1) := by decide +kernel
theorem dX10_shadeOf_46 : decode cX10_shadeOf 46 = .ok (.iconst 1, 1) := by decide +kernel
theorem dX10_shadeOf_47 : decode cX10_shadeOf 47 = .ok (.iadd, 1) := by decide +kernel
theorem dX10_shadeOf_48 : decode cX10_shadeOf 48 = .ok (.iaload, 1) := by decide +kernel
theorem dX10_shadeOf_49 : decode cX10_shadeOf 49 = .ok (.istore 7, 2) := by decide +kernel
theorem dX10_shadeOf_51 : decode cX10_shadeOf 51 = .ok (.iconst 1, 1) := by decide +kernel
theorem dX10_shadeOf_52 : decode cX10_shadeOf 52 = .ok (.iload 6, 2) := by decide +kernel
theorem dX10_shadeOf_54 : decode cX10_shadeOf 54 = .ok (.iconst (-1), 1) := by decide +kernel
theorem dX10_shadeOf_55 : decode cX10_shadeOf 55 = .ok (.if_icmp .ne 7, 3) := by decide +kernel
theorem dX10_shadeOf_58 : decode cX10_shadeOf 58 = .ok (.iconst 0, 1) := by decide +kernel
theorem dX10_shadeOf_59 : decode cX10_shadeOf 59 = .ok (.goto 4, 3) := by decide +kernel
theorem dX10_shadeOf_62 : decode cX10_shadeOf 62 = .ok (.iconst 2, 1) := by decide +kernel
theorem dX10_shadeOf_63 : decode cX10_shadeOf 63 = .ok (.iadd, 1) := by decide +kernel
theorem dX10_shadeOf_64 : decode cX10_shadeOf 64 = .ok (.iload 7, 2) := by decide +kernel
theorem dX10_shadeOf_66 : decode cX10_shadeOf 66 = .ok (.iconst (-1), 1) := by decide +kernel
theorem dX10_shadeOf_67 : decode cX10_shadeOf 67 = .ok (.if_icmp .ne 7, 3) := by decide +kernel
theorem dX10_shadeOf_70 : decode cX10_shadeOf 70 = .ok (.iconst 0, 1) := by decide +kernel
theorem dX10_shadeOf_71 : decode cX10_shadeOf 71 = .ok (.goto 4, 3) := by decide +kernel
theorem dX10_shadeOf_74 : decode cX10_shadeOf 74 = .ok (.iconst 1, 1) := by decide +kernel
theorem dX10_shadeOf_75 : decode cX10_shadeOf 75 = .ok (.iadd, 1) := by decide +kernel
theorem dX10_shadeOf_76 : decode cX10_shadeOf 76 = .ok (.istore 8, 2) := by decide +kernel
theorem dX10_shadeOf_78 : decode cX10_shadeOf 78 = .ok (.iload 6, 2) := by decide +kernel
theorem dX10_shadeOf_80 : decode cX10_shadeOf 80 = .ok (.iconst (-1), 1) := by decide +kernel
theorem dX10_shadeOf_81 : decode cX10_shadeOf 81 = .ok (.if_icmp .eq 9, 3) := by decide +kernel
theorem dX10_shadeOf_84 : decode cX10_shadeOf 84 = .ok (.iload 6, 2) := by decide +kernel
theorem dX10_shadeOf_86 : decode cX10_shadeOf 86 = .ok (.iload_n 1, 1) := by decide +kernel
theorem dX10_shadeOf_87 : decode cX10_shadeOf 87 = .ok (.if_icmp .ne 41, 3) := by decide +kernel
theorem dX10_shadeOf_90 : decode cX10_shadeOf 90 = .ok (.iload 7, 2) := by decide +kernel
theorem dX10_shadeOf_92 : decode cX10_shadeOf 92 = .ok (.iconst (-1), 1) := by decide +kernel
theorem dX10_shadeOf_93 : decode cX10_shadeOf 93 = .ok (.if_icmp .eq 9, 3) := by decide +kernel
theorem dX10_shadeOf_96 : decode cX10_shadeOf 96 = .ok (.iload 7, 2) := by decide +kernel
theorem dX10_shadeOf_98 : decode cX10_shadeOf 98 = .ok (.iload_n 2, 1) := by decide +kernel
theorem dX10_shadeOf_99 : decode cX10_shadeOf 99 = .ok (.if_icmp .ne 29, 3) := by decide +kernel
theorem dX10_shadeOf_102 : decode cX10_shadeOf 102 = .ok (.iload 8, 2) := by decide +kernel
theorem dX10_shadeOf_104 : decode cX10_shadeOf 104 = .ok (.iload_n 3, 1) := by decide +kernel
theorem dX10_shadeOf_105 : decode cX10_shadeOf 105 = .ok (.if_icmp .lt 23, 3) := by decide +kernel
theorem dX10_shadeOf_108 : decode cX10_shadeOf 108 = .ok (.iload 8, 2) := by decide +kernel
theorem dX10_shadeOf_110 : decode cX10_shadeOf 110 = .ok (.istore_n 3, 1) := by decide +kernel
theorem dX10_shadeOf_111 : decode cX10_shadeOf 111 = .ok (.aload_n 0, 1) := by decide +kernel
theorem dX10_shadeOf_112 : decode cX10_shadeOf 112 = .ok (.getfield 7, 3) := by decide +kernel
theorem dX10_shadeOf_115 : decode cX10_shadeOf 115 = .ok (.sipush 337, 3) := by decide +kernel
theorem dX10_shadeOf_118 : decode cX10_shadeOf 118 = .ok (.iconst 3, 1) := by decide +kernel
theorem dX10_shadeOf_119 : decode cX10_shadeOf 119 = .ok (.iload 5, 2) := by decide +kernel
theorem dX10_shadeOf_121 : decode cX10_shadeOf 121 = .ok (.imul, 1) := by decide +kernel
theorem dX10_shadeOf_122 : decode cX10_shadeOf 122 = .ok (.iadd, 1) := by decide +kernel
theorem dX10_shadeOf_123 : decode cX10_shadeOf 123 = .ok (.iconst 2, 1) := by decide +kernel
theorem dX10_shadeOf_124 : decode cX10_shadeOf 124 = .ok (.iadd, 1) := by decide +kernel
theorem dX10_shadeOf_125 : decode cX10_shadeOf 125 = .ok (.iaload, 1) := by decide +kernel
theorem dX10_shadeOf_126 : decode cX10_shadeOf 126 = .ok (.istore 4, 2) := by decide +kernel
theorem dX10_shadeOf_128 : decode cX10_shadeOf 128 = .ok (.iinc 5 1, 3) := by decide +kernel
theorem dX10_shadeOf_131 : decode cX10_shadeOf 131 = .ok (.goto (-123), 3) := by decide +kernel
theorem dX10_shadeOf_134 : decode cX10_shadeOf 134 = .ok (.iload 4, 2) := by decide +kernel
theorem dX10_shadeOf_136 : decode cX10_shadeOf 136 = .ok (.ireturn, 1) := by decide +kernel
theorem dX10_byteTold_0 : decode cX10_byteTold 0 = .ok (.bipush 30, 2) := by decide +kernel
theorem dX10_byteTold_2 : decode cX10_byteTold 2 = .ok (.iload_n 1, 1) := by decide +kernel
theorem dX10_byteTold_3 : decode cX10_byteTold 3 = .ok (.imul, 1) := by decide +kernel
theorem dX10_byteTold_4 : decode cX10_byteTold 4 = .ok (.iload_n 2, 1) := by decide +kernel
theorem dX10_byteTold_5 : decode cX10_byteTold 5 = .ok (.iadd, 1) := by decide +kernel
theorem dX10_byteTold_6 : decode cX10_byteTold 6 = .ok (.istore 4, 2) := by decide +kernel
theorem dX10_byteTold_8 : decode cX10_byteTold 8 = .ok (.iload_n 3, 1) := by decide +kernel
theorem dX10_byteTold_9 : decode cX10_byteTold 9 = .ok (.ifCond .ne 16, 3) := by decide +kernel
theorem dX10_byteTold_12 : decode cX10_byteTold 12 = .ok (.aload_n 0, 1) := by decide +kernel
theorem dX10_byteTold_13 : decode cX10_byteTold 13 = .ok (.getfield 7, 3) := by decide +kernel
theorem dX10_byteTold_16 : decode cX10_byteTold 16 = .ok (.bipush 13, 2) := by decide +kernel
theorem dX10_byteTold_18 : decode cX10_byteTold 18 = .ok (.iload 4, 2) := by decide +kernel
theorem dX10_byteTold_20 : decode cX10_byteTold 20 = .ok (.iadd, 1) := by decide +kernel
theorem dX10_byteTold_21 : decode cX10_byteTold 21 = .ok (.iaload, 1) := by decide +kernel
theorem dX10_byteTold_22 : decode cX10_byteTold 22 = .ok (.goto 36, 3) := by decide +kernel
theorem dX10_byteTold_25 : decode cX10_byteTold 25 = .ok (.iload_n 3, 1) := by decide +kernel
theorem dX10_byteTold_26 : decode cX10_byteTold 26 = .ok (.iconst 1, 1) := by decide +kernel
theorem dX10_byteTold_27 : decode cX10_byteTold 27 = .ok (.if_icmp .ne 13, 3) := by decide +kernel
theorem dX10_byteTold_30 : decode cX10_byteTold 30 = .ok (.aload_n 0, 1) := by decide +kernel
theorem dX10_byteTold_31 : decode cX10_byteTold 31 = .ok (.getfield 22, 3) := by decide +kernel
theorem dX10_byteTold_34 : decode cX10_byteTold 34 = .ok (.iload 4, 2) := by decide +kernel
theorem dX10_byteTold_36 : decode cX10_byteTold 36 = .ok (.iaload, 1) := by decide +kernel
theorem dX10_byteTold_37 : decode cX10_byteTold 37 = .ok (.goto 21, 3) := by decide +kernel
theorem dX10_byteTold_40 : decode cX10_byteTold 40 = .ok (.aload_n 0, 1) := by decide +kernel
theorem dX10_byteTold_41 : decode cX10_byteTold 41 = .ok (.aload_n 0, 1) := by decide +kernel
theorem dX10_byteTold_42 : decode cX10_byteTold 42 = .ok (.getfield 22, 3) := by decide +kernel
theorem dX10_byteTold_45 : decode cX10_byteTold 45 = .ok (.iload 4, 2) := by decide +kernel
theorem dX10_byteTold_47 : decode cX10_byteTold 47 = .ok (.iaload, 1) := by decide +kernel
theorem dX10_byteTold_48 : decode cX10_byteTold 48 = .ok (.aload_n 0, 1) := by decide +kernel
theorem dX10_byteTold_49 : decode cX10_byteTold 49 = .ok (.getfield 25, 3) := by decide +kernel
theorem dX10_byteTold_52 : decode cX10_byteTold 52 = .ok (.iload 4, 2) := by decide +kernel
theorem dX10_byteTold_54 : decode cX10_byteTold 54 = .ok (.iaload, 1) := by decide +kernel
theorem dX10_byteTold_55 : decode cX10_byteTold 55 = .ok (.invokevirtual 160, 3) := by decide +kernel
theorem dX10_byteTold_58 : decode cX10_byteTold 58 = .ok (.ireturn, 1) := by decide +kernel
theorem dX10_at_0 : decode cX10_at 0 = .ok (.aload_n 0, 1) := by decide +kernel
theorem dX10_at_1 : decode cX10_at 1 = .ok (.iload_n 1, 1) := by decide +kernel
theorem dX10_at_2 : decode cX10_at 2 = .ok (.invokevirtual 150, 3) := by decide +kernel
theorem dX10_at_5 : decode cX10_at 5 = .ok (.ifCond .eq 34, 3) := by decide +kernel
theorem dX10_at_8 : decode cX10_at 8 = .ok (.iload_n 2, 1) := by decide +kernel
theorem dX10_at_9 : decode cX10_at 9 = .ok (.iconst 0, 1) := by decide +kernel
theorem dX10_at_10 : decode cX10_at 10 = .ok (.aload_n 0, 1) := by decide +kernel
theorem dX10_at_11 : decode cX10_at 11 = .ok (.getfield 7, 3) := by decide +kernel
theorem dX10_at_14 : decode cX10_at 14 = .ok (.iconst 3, 1) := by decide +kernel
theorem dX10_at_15 : decode cX10_at 15 = .ok (.iload_n 1, 1) := by decide +kernel
theorem dX10_at_16 : decode cX10_at 16 = .ok (.iadd, 1) := by decide +kernel
theorem dX10_at_17 : decode cX10_at 17 = .ok (.iaload, 1) := by decide +kernel
theorem dX10_at_18 : decode cX10_at 18 = .ok (.iconst 1, 1) := by decide +kernel
theorem dX10_at_19 : decode cX10_at 19 = .ok (.isub, 1) := by decide +kernel
theorem dX10_at_20 : decode cX10_at 20 = .ok (.invokestatic 57, 3) := by decide +kernel
theorem dX10_at_23 : decode cX10_at 23 = .ok (.ifCond .eq 16, 3) := by decide +kernel
theorem dX10_at_26 : decode cX10_at 26 = .ok (.iload_n 3, 1) := by decide +kernel
theorem dX10_at_27 : decode cX10_at 27 = .ok (.iconst 0, 1) := by decide +kernel
theorem dX10_at_28 : decode cX10_at 28 = .ok (.iconst 2, 1) := by decide +kernel
theorem dX10_at_29 : decode cX10_at 29 = .ok (.invokestatic 57, 3) := by decide +kernel
theorem dX10_at_32 : decode cX10_at 32 = .ok (.ifCond .eq 7, 3) := by decide +kernel
theorem dX10_at_35 : decode cX10_at 35 = .ok (.iconst 1, 1) := by decide +kernel
theorem dX10_at_36 : decode cX10_at 36 = .ok (.goto 4, 3) := by decide +kernel
theorem dX10_at_39 : decode cX10_at 39 = .ok (.iconst 0, 1) := by decide +kernel
theorem dX10_at_40 : decode cX10_at 40 = .ok (.istore 4, 2) := by decide +kernel
theorem dX10_at_42 : decode cX10_at 42 = .ok (.iload 4, 2) := by decide +kernel
theorem dX10_at_44 : decode cX10_at 44 = .ok (.ifCond .eq 13, 3) := by decide +kernel
theorem dX10_at_47 : decode cX10_at 47 = .ok (.aload_n 0, 1) := by decide +kernel
theorem dX10_at_48 : decode cX10_at 48 = .ok (.iload_n 1, 1) := by decide +kernel
theorem dX10_at_49 : decode cX10_at 49 = .ok (.iload_n 2, 1) := by decide +kernel
theorem dX10_at_50 : decode cX10_at 50 = .ok (.iload_n 3, 1) := by decide +kernel
theorem dX10_at_51 : decode cX10_at 51 = .ok (.invokevirtual 164, 3) := by decide +kernel
theorem dX10_at_54 : decode cX10_at 54 = .ok (.goto 9, 3) := by decide +kernel
theorem dX10_at_57 : decode cX10_at 57 = .ok (.aload_n 0, 1) := by decide +kernel
theorem dX10_at_58 : decode cX10_at 58 = .ok (.bipush (-2), 2) := by decide +kernel
theorem dX10_at_60 : decode cX10_at 60 = .ok (.invokevirtual 128, 3) := by decide +kernel
theorem dX10_at_63 : decode cX10_at 63 = .ok (.ireturn, 1) := by decide +kernel
theorem dX10_begins_0 : decode cX10_begins 0 = .ok (.iload_n 2, 1) := by decide +kernel
theorem dX10_begins_1 : decode cX10_begins 1 = .ok (.ifCond .eq 30, 3) := by decide +kernel
theorem dX10_begins_4 : decode cX10_begins 4 = .ok (.aload_n 0, 1) := by decide +kernel
theorem dX10_begins_5 : decode cX10_begins 5 = .ok (.getfield 22, 3) := by decide +kernel
theorem dX10_begins_8 : decode cX10_begins 8 = .ok (.bipush 30, 2) := by decide +kernel
theorem dX10_begins_10 : decode cX10_begins 10 = .ok (.iload_n 1, 1) := by decide +kernel
theorem dX10_begins_11 : decode cX10_begins 11 = .ok (.imul, 1) := by decide +kernel
theorem dX10_begins_12 : decode cX10_begins 12 = .ok (.iload_n 2, 1) := by decide +kernel
theorem dX10_begins_13 : decode cX10_begins 13 = .ok (.iadd, 1) := by decide +kernel
theorem dX10_begins_14 : decode cX10_begins 14 = .ok (.iaload, 1) := by decide +kernel
theorem dX10_begins_15 : decode cX10_begins 15 = .ok (.aload_n 0, 1) := by decide +kernel
theorem dX10_begins_16 : decode cX10_begins 16 = .ok (.getfield 22, 3) := by decide +kernel
theorem dX10_begins_19 : decode cX10_begins 19 = .ok (.bipush 30, 2) := by decide +kernel
theorem dX10_begins_21 : decode cX10_begins 21 = .ok (.iload_n 1, 1) := by decide +kernel
theorem dX10_begins_22 : decode cX10_begins 22 = .ok (.imul, 1) := by decide +kernel
theorem dX10_begins_23 : decode cX10_begins 23 = .ok (.iload_n 2, 1) := by decide +kernel
theorem dX10_begins_24 : decode cX10_begins 24 = .ok (.iadd, 1) := by decide +kernel
theorem dX10_begins_25 : decode cX10_begins 25 = .ok (.iconst 1, 1) := by decide +kernel
theorem dX10_begins_26 : decode cX10_begins 26 = .ok (.isub, 1) := by decide +kernel
theorem dX10_begins_27 : decode cX10_begins 27 = .ok (.iaload, 1) := by decide +kernel
theorem dX10_begins_28 : decode cX10_begins 28 = .ok (.if_icmp .eq 7, 3) := by decide +kernel
theorem dX10_begins_31 : decode cX10_begins 31 = .ok (.iconst 1, 1) := by decide +kernel
theorem dX10_begins_32 : decode cX10_begins 32 = .ok (.goto 4, 3) := by decide +kernel
theorem dX10_begins_35 : decode cX10_begins 35 = .ok (.iconst 0, 1) := by decide +kernel
theorem dX10_begins_36 : decode cX10_begins 36 = .ok (.ireturn, 1) := by decide +kernel
theorem dX10_spansOf_0 : decode cX10_spansOf 0 = .ok (.iconst 0, 1) := by decide +kernel
theorem dX10_spansOf_1 : decode cX10_spansOf 1 = .ok (.istore_n 2, 1) := by decide +kernel
theorem dX10_spansOf_2 : decode cX10_spansOf 2 = .ok (.iconst 0, 1) := by decide +kernel
theorem dX10_spansOf_3 : decode cX10_spansOf 3 = .ok (.istore_n 3, 1) := by decide +kernel
theorem dX10_spansOf_4 : decode cX10_spansOf 4 = .ok (.iload_n 3, 1) := by decide +kernel
theorem dX10_spansOf_5 : decode cX10_spansOf 5 = .ok (.aload_n 0, 1) := by decide +kernel
theorem dX10_spansOf_6 : decode cX10_spansOf 6 = .ok (.getfield 7, 3) := by decide +kernel
theorem dX10_spansOf_9 : decode cX10_spansOf 9 = .ok (.iconst 3, 1) := by decide +kernel
theorem dX10_spansOf_10 : decode cX10_spansOf 10 = .ok (.iload_n 1, 1) := by decide +kernel
theorem dX10_spansOf_11 : decode cX10_spansOf 11 = .ok (.iadd, 1) := by decide +kernel
theorem dX10_spansOf_12 : decode cX10_spansOf 12 = .ok (.iaload, 1) := by decide +kernel
theorem dX10_spansOf_13 : decode cX10_spansOf 13 = .ok (.if_icmp .ge 26, 3) := by decide +kernel
theorem dX10_spansOf_16 : decode cX10_spansOf 16 = .ok (.iload_n 2, 1) := by decide +kernel
theorem dX10_spansOf_17 : decode cX10_spansOf 17 = .ok (.aload_n 0, 1) := by decide +kernel
theorem dX10_spansOf_18 : decode cX10_spansOf 18 = .ok (.iload_n 1, 1) := by decide +kernel
theorem dX10_spansOf_19 : decode cX10_spansOf 19 = .ok (.iload_n 3, 1) := by decide +kernel
theorem dX10_spansOf_20 : decode cX10_spansOf 20 = .ok (.invokevirtual 168, 3) := by decide +kernel
theorem dX10_spansOf_23 : decode cX10_spansOf 23 = .ok (.ifCond .eq 7, 3) := by decide +kernel
theorem dX10_spansOf_26 : decode cX10_spansOf 26 = .ok (.iconst 1, 1) := by decide +kernel
theorem dX10_spansOf_27 : decode cX10_spansOf 27 = .ok (.goto 4, 3) := by decide +kernel
theorem dX10_spansOf_30 : decode cX10_spansOf 30 = .ok (.iconst 0, 1) := by decide +kernel
theorem dX10_spansOf_31 : decode cX10_spansOf 31 = .ok (.iadd, 1) := by decide +kernel
theorem dX10_spansOf_32 : decode cX10_spansOf 32 = .ok (.istore_n 2, 1) := by decide +kernel
theorem dX10_spansOf_33 : decode cX10_spansOf 33 = .ok (.iinc 3 1, 3) := by decide +kernel
theorem dX10_spansOf_36 : decode cX10_spansOf 36 = .ok (.goto (-32), 3) := by decide +kernel
theorem dX10_spansOf_39 : decode cX10_spansOf 39 = .ok (.iload_n 2, 1) := by decide +kernel
theorem dX10_spansOf_40 : decode cX10_spansOf 40 = .ok (.ireturn, 1) := by decide +kernel
theorem dX10_lineTold_0 : decode cX10_lineTold 0 = .ok (.aload_n 0, 1) := by decide +kernel
theorem dX10_lineTold_1 : decode cX10_lineTold 1 = .ok (.getfield 28, 3) := by decide +kernel
theorem dX10_lineTold_4 : decode cX10_lineTold 4 = .ok (.iload_n 1, 1) := by decide +kernel
theorem dX10_lineTold_5 : decode cX10_lineTold 5 = .ok (.iaload, 1) := by decide +kernel
theorem dX10_lineTold_6 : decode cX10_lineTold 6 = .ok (.istore_n 3, 1) := by decide +kernel
theorem dX10_lineTold_7 : decode cX10_lineTold 7 = .ok (.iload_n 3, 1) := by decide +kernel
theorem dX10_lineTold_8 : decode cX10_lineTold 8 = .ok (.invokestatic 171, 3) := by decide +kernel
theorem dX10_lineTold_11 : decode cX10_lineTold 11 = .ok (.istore 4, 2) := by decide +kernel
theorem dX10_lineTold_13 : decode cX10_lineTold 13 = .ok (.iload_n 2, 1) := by decide +kernel
theorem dX10_lineTold_14 : decode cX10_lineTold 14 = .ok (.tableswitch 84 0 4 #[34, 43, 49, 54, 60], 34) := by decide +kernel
theorem dX10_lineTold_48 : decode cX10_lineTold 48 = .ok (.aload_n 0, 1) := by decide +kernel
theorem dX10_lineTold_49 : decode cX10_lineTold 49 = .ok (.getfield 7, 3) := by decide +kernel
theorem dX10_lineTold_52 : decode cX10_lineTold 52 = .ok (.iconst 3, 1) := by decide +kernel
theorem dX10_lineTold_53 : decode cX10_lineTold 53 = .ok (.iload_n 1, 1) := by decide +kernel
theorem dX10_lineTold_54 : decode cX10_lineTold 54 = .ok (.iadd, 1) := by decide +kernel
theorem dX10_lineTold_55 : decode cX10_lineTold 55 = .ok (.iaload, 1) := by decide +kernel
theorem dX10_lineTold_56 : decode cX10_lineTold 56 = .ok (.ireturn, 1) := by decide +kernel
theorem dX10_lineTold_57 : decode cX10_lineTold 57 = .ok (.aload_n 0, 1) := by decide +kernel
theorem dX10_lineTold_58 : decode cX10_lineTold 58 = .ok (.iload_n 1, 1) := by decide +kernel
theorem dX10_lineTold_59 : decode cX10_lineTold 59 = .ok (.invokevirtual 174, 3) := by decide +kernel
theorem dX10_lineTold_62 : decode cX10_lineTold 62 = .ok (.ireturn, 1) := by decide +kernel
theorem dX10_lineTold_63 : decode cX10_lineTold 63 = .ok (.iload_n 3, 1) := by decide +kernel
theorem dX10_lineTold_64 : decode cX10_lineTold 64 = .ok (.invokestatic 50, 3) := by decide +kernel
theorem dX10_lineTold_67 : decode cX10_lineTold 67 = .ok (.ireturn, 1) := by decide +kernel
theorem dX10_lineTold_68 : decode cX10_lineTold 68 = .ok (.iload 4, 2) := by decide +kernel
theorem dX10_lineTold_70 : decode cX10_lineTold 70 = .ok (.invokestatic 68, 3) := by decide +kernel
theorem dX10_lineTold_73 : decode cX10_lineTold 73 = .ok (.ireturn, 1) := by decide +kernel
theorem dX10_lineTold_74 : decode cX10_lineTold 74 = .ok (.iload 4, 2) := by decide +kernel
theorem dX10_lineTold_76 : decode cX10_lineTold 76 = .ok (.iconst 1, 1) := by decide +kernel
theorem dX10_lineTold_77 : decode cX10_lineTold 77 = .ok (.if_icmp .ne 8, 3) := by decide +kernel
theorem dX10_lineTold_80 : decode cX10_lineTold 80 = .ok (.bipush 34, 2) := by decide +kernel
theorem dX10_lineTold_82 : decode cX10_lineTold 82 = .ok (.goto 15, 3) := by decide +kernel
theorem dX10_lineTold_85 : decode cX10_lineTold 85 = .ok (.iload 4, 2) := by decide +kernel
theorem dX10_lineTold_87 : decode cX10_lineTold 87 = .ok (.iconst 2, 1) := by decide +kernel
theorem dX10_lineTold_88 : decode cX10_lineTold 88 = .ok (.if_icmp .ne 8, 3) := by decide +kernel
theorem dX10_lineTold_91 : decode cX10_lineTold 91 = .ok (.bipush 39, 2) := by decide +kernel
theorem dX10_lineTold_93 : decode cX10_lineTold 93 = .ok (.goto 4, 3) := by decide +kernel
theorem dX10_lineTold_96 : decode cX10_lineTold 96 = .ok (.iconst (-1), 1) := by decide +kernel
theorem dX10_lineTold_97 : decode cX10_lineTold 97 = .ok (.ireturn, 1) := by decide +kernel
theorem dX10_lineTold_98 : decode cX10_lineTold 98 = .ok (.iload_n 3, 1) := by decide +kernel
theorem dX10_lineTold_99 : decode cX10_lineTold 99 = .ok (.bipush 16, 2) := by decide +kernel
theorem dX10_lineTold_101 : decode cX10_lineTold 101 = .ok (.ishr, 1) := by decide +kernel
theorem dX10_lineTold_102 : decode cX10_lineTold 102 = .ok (.ifCond .ne 7, 3) := by decide +kernel
theorem dX10_lineTold_105 : decode cX10_lineTold 105 = .ok (.iconst (-1), 1) := by decide +kernel
theorem dX10_lineTold_106 : decode cX10_lineTold 106 = .ok (.goto 12, 3) := by decide +kernel
theorem dX10_lineTold_109 : decode cX10_lineTold 109 = .ok (.bipush 65, 2) := by decide +kernel
theorem dX10_lineTold_111 : decode cX10_lineTold 111 = .ok (.iload_n 3, 1) := by decide +kernel
theorem dX10_lineTold_112 : decode cX10_lineTold 112 = .ok (.bipush 16, 2) := by decide +kernel
theorem dX10_lineTold_114 : decode cX10_lineTold 114 = .ok (.ishr, 1) := by decide +kernel
theorem dX10_lineTold_115 : decode cX10_lineTold 115 = .ok (.iadd, 1) := by decide +kernel
theorem dX10_lineTold_116 : decode cX10_lineTold 116 = .ok (.iconst 1, 1) := by decide +kernel
theorem dX10_lineTold_117 : decode cX10_lineTold 117 = .ok (.isub, 1) := by decide +kernel
theorem dX10_lineTold_118 : decode cX10_lineTold 118 = .ok (.ireturn, 1) := by decide +kernel
theorem dX10_of_0 : decode cX10_of 0 = .ok (.aload_n 0, 1) := by decide +kernel
theorem dX10_of_1 : decode cX10_of 1 = .ok (.iload_n 1, 1) := by decide +kernel
theorem dX10_of_2 : decode cX10_of 2 = .ok (.invokevirtual 150, 3) := by decide +kernel
theorem dX10_of_5 : decode cX10_of 5 = .ok (.ifCond .eq 21, 3) := by decide +kernel
theorem dX10_of_8 : decode cX10_of 8 = .ok (.iload_n 2, 1) := by decide +kernel
theorem dX10_of_9 : decode cX10_of 9 = .ok (.iconst 0, 1) := by decide +kernel
theorem dX10_of_10 : decode cX10_of 10 = .ok (.iconst 5, 1) := by decide +kernel
theorem dX10_of_11 : decode cX10_of 11 = .ok (.invokestatic 57, 3) := by decide +kernel
theorem dX10_of_14 : decode cX10_of 14 = .ok (.ifCond .eq 12, 3) := by decide +kernel
theorem dX10_of_17 : decode cX10_of 17 = .ok (.aload_n 0, 1) := by decide +kernel
theorem dX10_of_18 : decode cX10_of 18 = .ok (.iload_n 1, 1) := by decide +kernel
theorem dX10_of_19 : decode cX10_of 19 = .ok (.iload_n 2, 1) := by decide +kernel
theorem dX10_of_20 : decode cX10_of 20 = .ok (.invokevirtual 177, 3) := by decide +kernel
theorem dX10_of_23 : decode cX10_of 23 = .ok (.goto 9, 3) := by decide +kernel
theorem dX10_of_26 : decode cX10_of 26 = .ok (.aload_n 0, 1) := by decide +kernel
theorem dX10_of_27 : decode cX10_of 27 = .ok (.bipush (-2), 2) := by decide +kernel
theorem dX10_of_29 : decode cX10_of 29 = .ok (.invokevirtual 128, 3) := by decide +kernel
theorem dX10_of_32 : decode cX10_of 32 = .ok (.ireturn, 1) := by decide +kernel
theorem dX10_span_0 : decode cX10_span 0 = .ok (.aload_n 0, 1) := by decide +kernel
theorem dX10_span_1 : decode cX10_span 1 = .ok (.iload_n 1, 1) := by decide +kernel
theorem dX10_span_2 : decode cX10_span 2 = .ok (.invokevirtual 150, 3) := by decide +kernel
theorem dX10_span_5 : decode cX10_span 5 = .ok (.ifCond .eq 16, 3) := by decide +kernel
theorem dX10_span_8 : decode cX10_span 8 = .ok (.iload_n 2, 1) := by decide +kernel
theorem dX10_span_9 : decode cX10_span 9 = .ok (.ifCond .lt 12, 3) := by decide +kernel
theorem dX10_span_12 : decode cX10_span 12 = .ok (.iload_n 3, 1) := by decide +kernel
theorem dX10_span_13 : decode cX10_span 13 = .ok (.iconst 0, 1) := by decide +kernel
theorem dX10_span_14 : decode cX10_span 14 = .ok (.iconst 2, 1) := by decide +kernel
theorem dX10_span_15 : decode cX10_span 15 = .ok (.invokestatic 57, 3) := by decide +kernel
theorem dX10_span_18 : decode cX10_span 18 = .ok (.ifCond .ne 10, 3) := by decide +kernel
theorem dX10_span_21 : decode cX10_span 21 = .ok (.aload_n 0, 1) := by decide +kernel
theorem dX10_span_22 : decode cX10_span 22 = .ok (.bipush (-2), 2) := by decide +kernel
theorem dX10_span_24 : decode cX10_span 24 = .ok (.invokevirtual 128, 3) := by decide +kernel
theorem dX10_span_27 : decode cX10_span 27 = .ok (.ireturn, 1) := by decide +kernel
theorem dX10_span_28 : decode cX10_span 28 = .ok (.iload_n 2, 1) := by decide +kernel
theorem dX10_span_29 : decode cX10_span 29 = .ok (.istore 4, 2) := by decide +kernel
theorem dX10_span_31 : decode cX10_span 31 = .ok (.iconst 0, 1) := by decide +kernel
theorem dX10_span_32 : decode cX10_span 32 = .ok (.istore 5, 2) := by decide +kernel
theorem dX10_span_34 : decode cX10_span 34 = .ok (.iload 5, 2) := by decide +kernel
theorem dX10_span_36 : decode cX10_span 36 = .ok (.aload_n 0, 1) := by decide +kernel
theorem dX10_span_37 : decode cX10_span 37 = .ok (.getfield 7, 3) := by decide +kernel
theorem dX10_span_40 : decode cX10_span 40 = .ok (.iconst 3, 1) := by decide +kernel
theorem dX10_span_41 : decode cX10_span 41 = .ok (.iload_n 1, 1) := by decide +kernel
theorem dX10_span_42 : decode cX10_span 42 = .ok (.iadd, 1) := by decide +kernel
theorem dX10_span_43 : decode cX10_span 43 = .ok (.iaload, 1) := by decide +kernel
theorem dX10_span_44 : decode cX10_span 44 = .ok (.if_icmp .ge 97, 3) := by decide +kernel
theorem dX10_span_47 : decode cX10_span 47 = .ok (.aload_n 0, 1) := by decide +kernel
theorem dX10_span_48 : decode cX10_span 48 = .ok (.iload_n 1, 1) := by decide +kernel
theorem dX10_span_49 : decode cX10_span 49 = .ok (.iload 5, 2) := by decide +kernel
theorem dX10_span_51 : decode cX10_span 51 = .ok (.invokevirtual 168, 3) := by decide +kernel
theorem dX10_span_54 : decode cX10_span 54 = .ok (.ifCond .eq 81, 3) := by decide +kernel
theorem dX10_span_57 : decode cX10_span 57 = .ok (.iload 4, 2) := by decide +kernel
theorem dX10_span_59 : decode cX10_span 59 = .ok (.ifCond .ne 73, 3) := by decide +kernel
theorem dX10_span_62 : decode cX10_span 62 = .ok (.iload 5, 2) := by decide +kernel
theorem dX10_span_64 : decode cX10_span 64 = .ok (.iconst 1, 1) := by decide +kernel
theorem dX10_span_65 : decode cX10_span 65 = .ok (.iadd, 1) := by decide +kernel
theorem dX10_span_66 : decode cX10_span 66 = .ok (.istore 6, 2) := by decide +kernel
theorem dX10_span_68 : decode cX10_span 68 = .ok (.iload 6, 2) := by decide +kernel
theorem dX10_span_70 : decode cX10_span 70 = .ok (.aload_n 0, 1) := by decide +kernel
theorem dX10_span_71 : decode cX10_span 71 = .ok (.getfield 7, 3) := by decide +kernel
theorem dX10_span_74 : decode cX10_span 74 = .ok (.iconst 3, 1) := by decide +kernel
theorem dX10_span_75 : decode cX10_span 75 = .ok (.iload_n 1, 1) := by decide +kernel
theorem dX10_span_76 : decode cX10_span 76 = .ok (.iadd, 1) := by decide +kernel
theorem dX10_span_77 : decode cX10_span 77 = .ok (.iaload, 1) := by decide +kernel
theorem dX10_span_78 : decode cX10_span 78 = .ok (.if_icmp .ge 19, 3) := by decide +kernel
theorem dX10_span_81 : decode cX10_span 81 = .ok (.aload_n 0, 1) := by decide +kernel
theorem dX10_span_82 : decode cX10_span 82 = .ok (.iload_n 1, 1) := by decide +kernel
theorem dX10_span_83 : decode cX10_span 83 = .ok (.iload 6, 2) := by decide +kernel
theorem dX10_span_85 : decode cX10_span 85 = .ok (.invokevirtual 168, 3) := by decide +kernel
theorem dX10_span_88 : decode cX10_span 88 = .ok (.ifCond .ne 9, 3) := by decide +kernel
theorem dX10_span_91 : decode cX10_span 91 = .ok (.iinc 6 1, 3) := by decide +kernel
theorem dX10_span_94 : decode cX10_span 94 = .ok (.goto (-26), 3) := by decide +kernel
theorem dX10_span_97 : decode cX10_span 97 = .ok (.iload_n 3, 1) := by decide +kernel
theorem dX10_span_98 : decode cX10_span 98 = .ok (.ifCond .ne 8, 3) := by decide +kernel
theorem dX10_span_101 : decode cX10_span 101 = .ok (.iload 5, 2) := by decide +kernel
theorem dX10_span_103 : decode cX10_span 103 = .ok (.goto 28, 3) := by decide +kernel
theorem dX10_span_106 : decode cX10_span 106 = .ok (.iload_n 3, 1) := by decide +kernel
theorem dX10_span_107 : decode cX10_span 107 = .ok (.iconst 1, 1) := by decide +kernel
theorem dX10_span_108 : decode cX10_span 108 = .ok (.if_icmp .ne 11, 3) := by decide +kernel
theorem dX10_span_111 : decode cX10_span 111 = .ok (.iload 6, 2) := by decide +kernel
theorem dX10_span_113 : decode cX10_span 113 = .ok (.iload 5, 2) := by decide +kernel
theorem dX10_span_115 : decode cX10_span 115 = .ok (.isub, 1) := by decide +kernel
theorem dX10_span_116 : decode cX10_span 116 = .ok (.goto 15, 3) := by decide +kernel
theorem dX10_span_119 : decode cX10_span 119 = .ok (.aload_n 0, 1) := by decide +kernel
theorem dX10_span_120 : decode cX10_span 120 = .ok (.getfield 22, 3) := by decide +kernel
theorem dX10_span_123 : decode cX10_span 123 = .ok (.bipush 30, 2) := by decide +kernel
theorem dX10_span_125 : decode cX10_span 125 = .ok (.iload_n 1, 1) := by decide +kernel
theorem dX10_span_126 : decode cX10_span 126 = .ok (.imul, 1) := by decide +kernel
theorem dX10_span_127 : decode cX10_span 127 = .ok (.iload 5, 2) := by decide +kernel
theorem dX10_span_129 : decode cX10_span 129 = .ok (.iadd, 1) := by decide +kernel
theorem dX10_span_130 : decode cX10_span 130 = .ok (.iaload, 1) := by decide +kernel
theorem dX10_span_131 : decode cX10_span 131 = .ok (.ireturn, 1) := by decide +kernel
theorem dX10_span_132 : decode cX10_span 132 = .ok (.iinc 4 (-1), 3) := by decide +kernel
theorem dX10_span_135 : decode cX10_span 135 = .ok (.iinc 5 1, 3) := by decide +kernel
theorem dX10_span_138 : decode cX10_span 138 = .ok (.goto (-104), 3) := by decide +kernel
theorem dX10_span_141 : decode cX10_span 141 = .ok (.iconst (-1), 1) := by decide +kernel
theorem dX10_span_142 : decode cX10_span 142 = .ok (.ireturn, 1) := by decide +kernel
theorem dX10_anew_0 : decode cX10_anew 0 = .ok (.aload_n 0, 1) := by decide +kernel
theorem dX10_anew_1 : decode cX10_anew 1 = .ok (.getfield 125, 3) := by decide +kernel
theorem dX10_anew_4 : decode cX10_anew 4 = .ok (.ireturn, 1) := by decide +kernel
theorem dX10_painted_0 : decode cX10_painted 0 = .ok (.iload_n 1, 1) := by decide +kernel
theorem dX10_painted_1 : decode cX10_painted 1 = .ok (.iconst 0, 1) := by decide +kernel
theorem dX10_painted_2 : decode cX10_painted 2 = .ok (.bipush 7, 2) := by decide +kernel
theorem dX10_painted_4 : decode cX10_painted 4 = .ok (.invokestatic 57, 3) := by decide +kernel
theorem dX10_painted_7 : decode cX10_painted 7 = .ok (.ifCond .ne 10, 3) := by decide +kernel
theorem dX10_painted_10 : decode cX10_painted 10 = .ok (.aload_n 0, 1) := by decide +kernel
theorem dX10_painted_11 : decode cX10_painted 11 = .ok (.bipush (-2), 2) := by decide +kernel
theorem dX10_painted_13 : decode cX10_painted 13 = .ok (.invokevirtual 128, 3) := by decide +kernel
theorem dX10_painted_16 : decode cX10_painted 16 = .ok (.ireturn, 1) := by decide +kernel
theorem dX10_painted_17 : decode cX10_painted 17 = .ok (.iconst 0, 1) := by decide +kernel
theorem dX10_painted_18 : decode cX10_painted 18 = .ok (.istore_n 2, 1) := by decide +kernel
theorem dX10_painted_19 : decode cX10_painted 19 = .ok (.iconst 0, 1) := by decide +kernel
theorem dX10_painted_20 : decode cX10_painted 20 = .ok (.istore_n 3, 1) := by decide +kernel
theorem dX10_painted_21 : decode cX10_painted 21 = .ok (.iload_n 3, 1) := by decide +kernel
theorem dX10_painted_22 : decode cX10_painted 22 = .ok (.aload_n 0, 1) := by decide +kernel
theorem dX10_painted_23 : decode cX10_painted 23 = .ok (.getfield 7, 3) := by decide +kernel
theorem dX10_painted_26 : decode cX10_painted 26 = .ok (.iconst 0, 1) := by decide +kernel
theorem dX10_painted_27 : decode cX10_painted 27 = .ok (.iaload, 1) := by decide +kernel
theorem dX10_painted_28 : decode cX10_painted 28 = .ok (.if_icmp .ge 55, 3) := by decide +kernel
theorem dX10_painted_31 : decode cX10_painted 31 = .ok (.iconst 0, 1) := by decide +kernel
theorem dX10_painted_32 : decode cX10_painted 32 = .ok (.istore 4, 2) := by decide +kernel
theorem dX10_painted_34 : decode cX10_painted 34 = .ok (.iload 4, 2) := by decide +kernel
theorem dX10_painted_36 : decode cX10_painted 36 = .ok (.aload_n 0, 1) := by decide +kernel
theorem dX10_painted_37 : decode cX10_painted 37 = .ok (.getfield 7, 3) := by decide +kernel
theorem dX10_painted_40 : decode cX10_painted 40 = .ok (.iconst 3, 1) := by decide +kernel
theorem dX10_painted_41 : decode cX10_painted 41 = .ok (.iload_n 3, 1) := by decide +kernel
theorem dX10_painted_42 : decode cX10_painted 42 = .ok (.iadd, 1) := by decide +kernel
theorem dX10_painted_43 : decode cX10_painted 43 = .ok (.iaload, 1) := by decide +kernel
theorem dX10_painted_44 : decode cX10_painted 44 = .ok (.if_icmp .ge 33, 3) := by decide +kernel
theorem dX10_painted_47 : decode cX10_painted 47 = .ok (.iload_n 2, 1) := by decide +kernel
theorem dX10_painted_48 : decode cX10_painted 48 = .ok (.aload_n 0, 1) := by decide +kernel
theorem dX10_painted_49 : decode cX10_painted 49 = .ok (.getfield 22, 3) := by decide +kernel
theorem dX10_painted_52 : decode cX10_painted 52 = .ok (.bipush 30, 2) := by decide +kernel
theorem dX10_painted_54 : decode cX10_painted 54 = .ok (.iload_n 3, 1) := by decide +kernel
theorem dX10_painted_55 : decode cX10_painted 55 = .ok (.imul, 1) := by decide +kernel
theorem dX10_painted_56 : decode cX10_painted 56 = .ok (.iload 4, 2) := by decide +kernel
theorem dX10_painted_58 : decode cX10_painted 58 = .ok (.iadd, 1) := by decide +kernel
theorem dX10_painted_59 : decode cX10_painted 59 = .ok (.iaload, 1) := by decide +kernel
theorem dX10_painted_60 : decode cX10_painted 60 = .ok (.iload_n 1, 1) := by decide +kernel
theorem dX10_painted_61 : decode cX10_painted 61 = .ok (.if_icmp .ne 7, 3) := by decide +kernel
theorem dX10_painted_64 : decode cX10_painted 64 = .ok (.iconst 1, 1) := by decide +kernel
theorem dX10_painted_65 : decode cX10_painted 65 = .ok (.goto 4, 3) := by decide +kernel
theorem dX10_painted_68 : decode cX10_painted 68 = .ok (.iconst 0, 1) := by decide +kernel
theorem dX10_painted_69 : decode cX10_painted 69 = .ok (.iadd, 1) := by decide +kernel
theorem dX10_painted_70 : decode cX10_painted 70 = .ok (.istore_n 2, 1) := by decide +kernel
theorem dX10_painted_71 : decode cX10_painted 71 = .ok (.iinc 4 1, 3) := by decide +kernel
theorem dX10_painted_74 : decode cX10_painted 74 = .ok (.goto (-40), 3) := by decide +kernel
theorem dX10_painted_77 : decode cX10_painted 77 = .ok (.iinc 3 1, 3) := by decide +kernel
theorem dX10_painted_80 : decode cX10_painted 80 = .ok (.goto (-59), 3) := by decide +kernel
theorem dX10_painted_83 : decode cX10_painted 83 = .ok (.iload_n 2, 1) := by decide +kernel
theorem dX10_painted_84 : decode cX10_painted 84 = .ok (.ireturn, 1) := by decide +kernel
theorem dX10_back_0 : decode cX10_back 0 = .ok (.aload_n 0, 1) := by decide +kernel
theorem dX10_back_1 : decode cX10_back 1 = .ok (.getfield 37, 3) := by decide +kernel
theorem dX10_back_4 : decode cX10_back 4 = .ok (.ifCond .ne 10, 3) := by decide +kernel
theorem dX10_back_7 : decode cX10_back 7 = .ok (.aload_n 0, 1) := by decide +kernel
theorem dX10_back_8 : decode cX10_back 8 = .ok (.bipush (-3), 2) := by decide +kernel
theorem dX10_back_10 : decode cX10_back 10 = .ok (.invokevirtual 128, 3) := by decide +kernel
theorem dX10_back_13 : decode cX10_back 13 = .ok (.ireturn, 1) := by decide +kernel
theorem dX10_back_14 : decode cX10_back 14 = .ok (.aload_n 0, 1) := by decide +kernel
theorem dX10_back_15 : decode cX10_back 15 = .ok (.dup, 1) := by decide +kernel
theorem dX10_back_16 : decode cX10_back 16 = .ok (.getfield 37, 3) := by decide +kernel
theorem dX10_back_19 : decode cX10_back 19 = .ok (.iconst 1, 1) := by decide +kernel
theorem dX10_back_20 : decode cX10_back 20 = .ok (.isub, 1) := by decide +kernel
theorem dX10_back_21 : decode cX10_back 21 = .ok (.putfield 37, 3) := by decide +kernel
theorem dX10_back_24 : decode cX10_back 24 = .ok (.iconst 0, 1) := by decide +kernel
theorem dX10_back_25 : decode cX10_back 25 = .ok (.istore_n 1, 1) := by decide +kernel
theorem dX10_back_26 : decode cX10_back 26 = .ok (.iload_n 1, 1) := by decide +kernel
theorem dX10_back_27 : decode cX10_back 27 = .ok (.sipush 373, 3) := by decide +kernel
theorem dX10_back_30 : decode cX10_back 30 = .ok (.if_icmp .ge 30, 3) := by decide +kernel
theorem dX10_back_33 : decode cX10_back 33 = .ok (.aload_n 0, 1) := by decide +kernel
theorem dX10_back_34 : decode cX10_back 34 = .ok (.getfield 7, 3) := by decide +kernel
theorem dX10_back_37 : decode cX10_back 37 = .ok (.iload_n 1, 1) := by decide +kernel
theorem dX10_back_38 : decode cX10_back 38 = .ok (.aload_n 0, 1) := by decide +kernel
theorem dX10_back_39 : decode cX10_back 39 = .ok (.getfield 13, 3) := by decide +kernel
theorem dX10_back_42 : decode cX10_back 42 = .ok (.sipush 373, 3) := by decide +kernel
theorem dX10_back_45 : decode cX10_back 45 = .ok (.aload_n 0, 1) := by decide +kernel
theorem dX10_back_46 : decode cX10_back 46 = .ok (.getfield 37, 3) := by decide +kernel
theorem dX10_back_49 : decode cX10_back 49 = .ok (.imul, 1) := by decide +kernel
theorem dX10_back_50 : decode cX10_back 50 = .ok (.iload_n 1, 1) := by decide +kernel
theorem dX10_back_51 : decode cX10_back 51 = .ok (.iadd, 1) := by decide +kernel
theorem dX10_back_52 : decode cX10_back 52 = .ok (.iaload, 1) := by decide +kernel
theorem dX10_back_53 : decode cX10_back 53 = .ok (.iastore, 1) := by decide +kernel
theorem dX10_back_54 : decode cX10_back 54 = .ok (.iinc 1 1, 3) := by decide +kernel
theorem dX10_back_57 : decode cX10_back 57 = .ok (.goto (-31), 3) := by decide +kernel
theorem dX10_back_60 : decode cX10_back 60 = .ok (.aload_n 0, 1) := by decide +kernel
theorem dX10_back_61 : decode cX10_back 61 = .ok (.invokevirtual 122, 3) := by decide +kernel
theorem dX10_back_64 : decode cX10_back 64 = .ok (.aload_n 0, 1) := by decide +kernel
theorem dX10_back_65 : decode cX10_back 65 = .ok (.iconst 0, 1) := by decide +kernel
theorem dX10_back_66 : decode cX10_back 66 = .ok (.putfield 125, 3) := by decide +kernel
theorem dX10_back_69 : decode cX10_back 69 = .ok (.aload_n 0, 1) := by decide +kernel
theorem dX10_back_70 : decode cX10_back 70 = .ok (.getfield 37, 3) := by decide +kernel
theorem dX10_back_73 : decode cX10_back 73 = .ok (.ireturn, 1) := by decide +kernel
theorem dX10_toldOf_0 : decode cX10_toldOf 0 = .ok (.iload_n 1, 1) := by decide +kernel
theorem dX10_toldOf_1 : decode cX10_toldOf 1 = .ok (.tableswitch 54 3 7 #[35, 40, 40, 40, 49], 35) := by decide +kernel
theorem dX10_toldOf_36 : decode cX10_toldOf 36 = .ok (.aload_n 0, 1) := by decide +kernel
theorem dX10_toldOf_37 : decode cX10_toldOf 37 = .ok (.getfield 131, 3) := by decide +kernel
theorem dX10_toldOf_40 : decode cX10_toldOf 40 = .ok (.ireturn, 1) := by decide +kernel
theorem dX10_toldOf_41 : decode cX10_toldOf 41 = .ok (.aload_n 0, 1) := by decide +kernel
theorem dX10_toldOf_42 : decode cX10_toldOf 42 = .ok (.getfield 7, 3) := by decide +kernel
theorem dX10_toldOf_45 : decode cX10_toldOf 45 = .ok (.iload_n 1, 1) := by decide +kernel
theorem dX10_toldOf_46 : decode cX10_toldOf 46 = .ok (.iconst 4, 1) := by decide +kernel
theorem dX10_toldOf_47 : decode cX10_toldOf 47 = .ok (.isub, 1) := by decide +kernel
theorem dX10_toldOf_48 : decode cX10_toldOf 48 = .ok (.iaload, 1) := by decide +kernel
theorem dX10_toldOf_49 : decode cX10_toldOf 49 = .ok (.ireturn, 1) := by decide +kernel
theorem dX10_toldOf_50 : decode cX10_toldOf 50 = .ok (.aload_n 0, 1) := by decide +kernel
theorem dX10_toldOf_51 : decode cX10_toldOf 51 = .ok (.getfield 37, 3) := by decide +kernel
theorem dX10_toldOf_54 : decode cX10_toldOf 54 = .ok (.ireturn, 1) := by decide +kernel
theorem dX10_toldOf_55 : decode cX10_toldOf 55 = .ok (.aload_n 0, 1) := by decide +kernel
theorem dX10_toldOf_56 : decode cX10_toldOf 56 = .ok (.getfield 16, 3) := by decide +kernel
theorem dX10_toldOf_59 : decode cX10_toldOf 59 = .ok (.iload_n 1, 1) := by decide +kernel
theorem dX10_toldOf_60 : decode cX10_toldOf 60 = .ok (.iaload, 1) := by decide +kernel
theorem dX10_toldOf_61 : decode cX10_toldOf 61 = .ok (.ireturn, 1) := by decide +kernel
theorem dX10_told_0 : decode cX10_told 0 = .ok (.iload_n 1, 1) := by decide +kernel
theorem dX10_told_1 : decode cX10_told 1 = .ok (.iconst 0, 1) := by decide +kernel
theorem dX10_told_2 : decode cX10_told 2 = .ok (.bipush 7, 2) := by decide +kernel
theorem dX10_told_4 : decode cX10_told 4 = .ok (.invokestatic 57, 3) := by decide +kernel
theorem dX10_told_7 : decode cX10_told 7 = .ok (.ifCond .eq 11, 3) := by decide +kernel
theorem dX10_told_10 : decode cX10_told 10 = .ok (.aload_n 0, 1) := by decide +kernel
theorem dX10_told_11 : decode cX10_told 11 = .ok (.iload_n 1, 1) := by decide +kernel
theorem dX10_told_12 : decode cX10_told 12 = .ok (.invokevirtual 180, 3) := by decide +kernel
theorem dX10_told_15 : decode cX10_told 15 = .ok (.goto 9, 3) := by decide +kernel
theorem dX10_told_18 : decode cX10_told 18 = .ok (.aload_n 0, 1) := by decide +kernel
theorem dX10_told_19 : decode cX10_told 19 = .ok (.bipush (-2), 2) := by decide +kernel
theorem dX10_told_21 : decode cX10_told 21 = .ok (.invokevirtual 128, 3) := by decide +kernel
theorem dX10_told_24 : decode cX10_told 24 = .ok (.ireturn, 1) := by decide +kernel
theorem dX10_mix_0 : decode cX10_mix 0 = .ok (.aload_n 0, 1) := by decide +kernel
theorem dX10_mix_1 : decode cX10_mix 1 = .ok (.ldc2_w 183, 3) := by decide +kernel
theorem dX10_mix_4 : decode cX10_mix 4 = .ok (.aload_n 0, 1) := by decide +kernel
theorem dX10_mix_5 : decode cX10_mix 5 = .ok (.getfield 185, 3) := by decide +kernel
theorem dX10_mix_8 : decode cX10_mix 8 = .ok (.lmul, 1) := by decide +kernel
theorem dX10_mix_9 : decode cX10_mix 9 = .ok (.lload_n 1, 1) := by decide +kernel
theorem dX10_mix_10 : decode cX10_mix 10 = .ok (.ladd, 1) := by decide +kernel
theorem dX10_mix_11 : decode cX10_mix 11 = .ok (.putfield 185, 3) := by decide +kernel
theorem dX10_mix_14 : decode cX10_mix 14 = .ok (.return_, 1) := by decide +kernel
theorem dX10_digest_0 : decode cX10_digest 0 = .ok (.aload_n 0, 1) := by decide +kernel
theorem dX10_digest_1 : decode cX10_digest 1 = .ok (.ldc2_w 189, 3) := by decide +kernel
theorem dX10_digest_4 : decode cX10_digest 4 = .ok (.putfield 185, 3) := by decide +kernel
theorem dX10_digest_7 : decode cX10_digest 7 = .ok (.iconst 0, 1) := by decide +kernel
theorem dX10_digest_8 : decode cX10_digest 8 = .ok (.istore_n 1, 1) := by decide +kernel
theorem dX10_digest_9 : decode cX10_digest 9 = .ok (.iload_n 1, 1) := by decide +kernel
theorem dX10_digest_10 : decode cX10_digest 10 = .ok (.bipush 8, 2) := by decide +kernel
theorem dX10_digest_12 : decode cX10_digest 12 = .ok (.if_icmp .ge 19, 3) := by decide +kernel
theorem dX10_digest_15 : decode cX10_digest 15 = .ok (.aload_n 0, 1) := by decide +kernel
theorem dX10_digest_16 : decode cX10_digest 16 = .ok (.aload_n 0, 1) := by decide +kernel
theorem dX10_digest_17 : decode cX10_digest 17 = .ok (.iload_n 1, 1) := by decide +kernel
theorem dX10_digest_18 : decode cX10_digest 18 = .ok (.invokevirtual 180, 3) := by decide +kernel
theorem dX10_digest_21 : decode cX10_digest 21 = .ok (.i2l, 1) := by decide +kernel
theorem dX10_digest_22 : decode cX10_digest 22 = .ok (.invokevirtual 191, 3) := by decide +kernel
theorem dX10_digest_25 : decode cX10_digest 25 = .ok (.iinc 1 1, 3) := by decide +kernel
theorem dX10_digest_28 : decode cX10_digest 28 = .ok (.goto (-19), 3) := by decide +kernel
theorem dX10_digest_31 : decode cX10_digest 31 = .ok (.aload_n 0, 1) := by decide +kernel
theorem dX10_digest_32 : decode cX10_digest 32 = .ok (.aload_n 0, 1) := by decide +kernel
theorem dX10_digest_33 : decode cX10_digest 33 = .ok (.getfield 125, 3) := by decide +kernel
theorem dX10_digest_36 : decode cX10_digest 36 = .ok (.i2l, 1) := by decide +kernel
theorem dX10_digest_37 : decode cX10_digest 37 = .ok (.invokevirtual 191, 3) := by decide +kernel
theorem dX10_digest_40 : decode cX10_digest 40 = .ok (.iconst 0, 1) := by decide +kernel
theorem dX10_digest_41 : decode cX10_digest 41 = .ok (.istore_n 1, 1) := by decide +kernel
theorem dX10_digest_42 : decode cX10_digest 42 = .ok (.iload_n 1, 1) := by decide +kernel
theorem dX10_digest_43 : decode cX10_digest 43 = .ok (.aload_n 0, 1) := by decide +kernel
theorem dX10_digest_44 : decode cX10_digest 44 = .ok (.getfield 7, 3) := by decide +kernel
theorem dX10_digest_47 : decode cX10_digest 47 = .ok (.iconst 0, 1) := by decide +kernel
theorem dX10_digest_48 : decode cX10_digest 48 = .ok (.iaload, 1) := by decide +kernel
theorem dX10_digest_49 : decode cX10_digest 49 = .ok (.if_icmp .ge 79, 3) := by decide +kernel
theorem dX10_digest_52 : decode cX10_digest 52 = .ok (.iconst 0, 1) := by decide +kernel
theorem dX10_digest_53 : decode cX10_digest 53 = .ok (.istore_n 2, 1) := by decide +kernel
theorem dX10_digest_54 : decode cX10_digest 54 = .ok (.iload_n 2, 1) := by decide +kernel
theorem dX10_digest_55 : decode cX10_digest 55 = .ok (.bipush 6, 2) := by decide +kernel
theorem dX10_digest_57 : decode cX10_digest 57 = .ok (.if_icmp .ge 20, 3) := by decide +kernel
theorem dX10_digest_60 : decode cX10_digest 60 = .ok (.aload_n 0, 1) := by decide +kernel
theorem dX10_digest_61 : decode cX10_digest 61 = .ok (.aload_n 0, 1) := by decide +kernel
theorem dX10_digest_62 : decode cX10_digest 62 = .ok (.iload_n 1, 1) := by decide +kernel
theorem dX10_digest_63 : decode cX10_digest 63 = .ok (.iload_n 2, 1) := by decide +kernel
theorem dX10_digest_64 : decode cX10_digest 64 = .ok (.invokevirtual 177, 3) := by decide +kernel
theorem dX10_digest_67 : decode cX10_digest 67 = .ok (.i2l, 1) := by decide +kernel
theorem dX10_digest_68 : decode cX10_digest 68 = .ok (.invokevirtual 191, 3) := by decide +kernel
theorem dX10_digest_71 : decode cX10_digest 71 = .ok (.iinc 2 1, 3) := by decide +kernel
theorem dX10_digest_74 : decode cX10_digest 74 = .ok (.goto (-20), 3) := by decide +kernel
theorem dX10_digest_77 : decode cX10_digest 77 = .ok (.iconst 0, 1) := by decide +kernel
theorem dX10_digest_78 : decode cX10_digest 78 = .ok (.istore_n 2, 1) := by decide +kernel
theorem dX10_digest_79 : decode cX10_digest 79 = .ok (.iload_n 2, 1) := by decide +kernel
theorem dX10_digest_80 : decode cX10_digest 80 = .ok (.aload_n 0, 1) := by decide +kernel
theorem dX10_digest_81 : decode cX10_digest 81 = .ok (.getfield 7, 3) := by decide +kernel
theorem dX10_digest_84 : decode cX10_digest 84 = .ok (.iconst 3, 1) := by decide +kernel
theorem dX10_digest_85 : decode cX10_digest 85 = .ok (.iload_n 1, 1) := by decide +kernel
theorem dX10_digest_86 : decode cX10_digest 86 = .ok (.iadd, 1) := by decide +kernel
theorem dX10_digest_87 : decode cX10_digest 87 = .ok (.iaload, 1) := by decide +kernel
theorem dX10_digest_88 : decode cX10_digest 88 = .ok (.if_icmp .ge 34, 3) := by decide +kernel
theorem dX10_digest_91 : decode cX10_digest 91 = .ok (.iconst 0, 1) := by decide +kernel
theorem dX10_digest_92 : decode cX10_digest 92 = .ok (.istore_n 3, 1) := by decide +kernel
theorem dX10_digest_93 : decode cX10_digest 93 = .ok (.iload_n 3, 1) := by decide +kernel
theorem dX10_digest_94 : decode cX10_digest 94 = .ok (.iconst 3, 1) := by decide +kernel
theorem dX10_digest_95 : decode cX10_digest 95 = .ok (.if_icmp .ge 21, 3) := by decide +kernel
theorem dX10_digest_98 : decode cX10_digest 98 = .ok (.aload_n 0, 1) := by decide +kernel
theorem dX10_digest_99 : decode cX10_digest 99 = .ok (.aload_n 0, 1) := by decide +kernel
theorem dX10_digest_100 : decode cX10_digest 100 = .ok (.iload_n 1, 1) := by decide +kernel
theorem dX10_digest_101 : decode cX10_digest 101 = .ok (.iload_n 2, 1) := by decide +kernel
theorem dX10_digest_102 : decode cX10_digest 102 = .ok (.iload_n 3, 1) := by decide +kernel
theorem dX10_digest_103 : decode cX10_digest 103 = .ok (.invokevirtual 164, 3) := by decide +kernel
theorem dX10_digest_106 : decode cX10_digest 106 = .ok (.i2l, 1) := by decide +kernel
theorem dX10_digest_107 : decode cX10_digest 107 = .ok (.invokevirtual 191, 3) := by decide +kernel
theorem dX10_digest_110 : decode cX10_digest 110 = .ok (.iinc 3 1, 3) := by decide +kernel
theorem dX10_digest_113 : decode cX10_digest 113 = .ok (.goto (-20), 3) := by decide +kernel
theorem dX10_digest_116 : decode cX10_digest 116 = .ok (.iinc 2 1, 3) := by decide +kernel
theorem dX10_digest_119 : decode cX10_digest 119 = .ok (.goto (-40), 3) := by decide +kernel
theorem dX10_digest_122 : decode cX10_digest 122 = .ok (.iinc 1 1, 3) := by decide +kernel
theorem dX10_digest_125 : decode cX10_digest 125 = .ok (.goto (-83), 3) := by decide +kernel
theorem dX10_digest_128 : decode cX10_digest 128 = .ok (.aload_n 0, 1) := by decide +kernel
theorem dX10_digest_129 : decode cX10_digest 129 = .ok (.getfield 185, 3) := by decide +kernel
theorem dX10_digest_132 : decode cX10_digest 132 = .ok (.lreturn, 1) := by decide +kernel
theorem dL_law_0 : decode cL_law 0 = .ok (.new 7, 3) := by decide +kernel
theorem dL_law_3 : decode cL_law 3 = .ok (.dup, 1) := by decide +kernel
theorem dL_law_4 : decode cL_law 4 = .ok (.invokespecial 9, 3) := by decide +kernel
theorem dL_law_7 : decode cL_law 7 = .ok (.astore_n 1, 1) := by decide +kernel
theorem dL_law_8 : decode cL_law 8 = .ok (.new 10, 3) := by decide +kernel
theorem dL_law_11 : decode cL_law 11 = .ok (.dup, 1) := by decide +kernel
theorem dL_law_12 : decode cL_law 12 = .ok (.invokespecial 12, 3) := by decide +kernel
theorem dL_law_15 : decode cL_law 15 = .ok (.astore_n 2, 1) := by decide +kernel
theorem dL_law_16 : decode cL_law 16 = .ok (.iconst 0, 1) := by decide +kernel
theorem dL_law_17 : decode cL_law 17 = .ok (.istore_n 3, 1) := by decide +kernel
theorem dL_law_18 : decode cL_law 18 = .ok (.iload_n 3, 1) := by decide +kernel
theorem dL_law_19 : decode cL_law 19 = .ok (.aload_n 0, 1) := by decide +kernel
theorem dL_law_20 : decode cL_law 20 = .ok (.arraylength, 1) := by decide +kernel
theorem dL_law_21 : decode cL_law 21 = .ok (.iconst 4, 1) := by decide +kernel
theorem dL_law_22 : decode cL_law 22 = .ok (.isub, 1) := by decide +kernel
theorem dL_law_23 : decode cL_law 23 = .ok (.if_icmp .gt 605, 3) := by decide +kernel
theorem dL_law_26 : decode cL_law 26 = .ok (.aload_n 0, 1) := by decide +kernel
theorem dL_law_27 : decode cL_law 27 = .ok (.iload_n 3, 1) := by decide +kernel
theorem dL_law_28 : decode cL_law 28 = .ok (.iaload, 1) := by decide +kernel
theorem dL_law_29 : decode cL_law 29 = .ok (.bipush 31, 2) := by decide +kernel
theorem dL_law_31 : decode cL_law 31 = .ok (.iand, 1) := by decide +kernel
theorem dL_law_32 : decode cL_law 32 = .ok (.tableswitch 590 0 18 #[92, 115, 128, 151, 174, 197, 240, 273, 306, 319, 342, 385, 428, 461, 504, 517, 540, 553, 576], 92) := by decide +kernel
theorem dL_law_124 : decode cL_law 124 = .ok (.aload_n 1, 1) := by decide +kernel
theorem dL_law_125 : decode cL_law 125 = .ok (.aload_n 0, 1) := by decide +kernel
theorem dL_law_126 : decode cL_law 126 = .ok (.iload_n 3, 1) := by decide +kernel
theorem dL_law_127 : decode cL_law 127 = .ok (.iconst 1, 1) := by decide +kernel
theorem dL_law_128 : decode cL_law 128 = .ok (.iadd, 1) := by decide +kernel
theorem dL_law_129 : decode cL_law 129 = .ok (.iaload, 1) := by decide +kernel
theorem dL_law_130 : decode cL_law 130 = .ok (.invokevirtual 13, 3) := by decide +kernel
theorem dL_law_133 : decode cL_law 133 = .ok (.aload_n 2, 1) := by decide +kernel
theorem dL_law_134 : decode cL_law 134 = .ok (.aload_n 0, 1) := by decide +kernel
theorem dL_law_135 : decode cL_law 135 = .ok (.iload_n 3, 1) := by decide +kernel
theorem dL_law_136 : decode cL_law 136 = .ok (.iconst 1, 1) := by decide +kernel
theorem dL_law_137 : decode cL_law 137 = .ok (.iadd, 1) := by decide +kernel
theorem dL_law_138 : decode cL_law 138 = .ok (.iaload, 1) := by decide +kernel
theorem dL_law_139 : decode cL_law 139 = .ok (.invokevirtual 17, 3) := by decide +kernel
theorem dL_law_142 : decode cL_law 142 = .ok (.if_icmp .eq 480, 3) := by decide +kernel
theorem dL_law_145 : decode cL_law 145 = .ok (.iconst 0, 1) := by decide +kernel
theorem dL_law_146 : decode cL_law 146 = .ok (.ireturn, 1) := by decide +kernel
theorem dL_law_147 : decode cL_law 147 = .ok (.aload_n 1, 1) := by decide +kernel
theorem dL_law_148 : decode cL_law 148 = .ok (.invokevirtual 18, 3) := by decide +kernel
theorem dL_law_151 : decode cL_law 151 = .ok (.aload_n 2, 1) := by decide +kernel
theorem dL_law_152 : decode cL_law 152 = .ok (.invokevirtual 22, 3) := by decide +kernel
theorem dL_law_155 : decode cL_law 155 = .ok (.if_icmp .eq 467, 3) := by decide +kernel
theorem dL_law_158 : decode cL_law 158 = .ok (.iconst 0, 1) := by decide +kernel
theorem dL_law_159 : decode cL_law 159 = .ok (.ireturn, 1) := by decide +kernel
theorem dL_law_160 : decode cL_law 160 = .ok (.aload_n 1, 1) := by decide +kernel
theorem dL_law_161 : decode cL_law 161 = .ok (.aload_n 0, 1) := by decide +kernel
theorem dL_law_162 : decode cL_law 162 = .ok (.iload_n 3, 1) := by decide +kernel
theorem dL_law_163 : decode cL_law 163 = .ok (.iconst 1, 1) := by decide +kernel
theorem dL_law_164 : decode cL_law 164 = .ok (.iadd, 1) := by decide +kernel
theorem dL_law_165 : decode cL_law 165 = .ok (.iaload, 1) := by decide +kernel
theorem dL_law_166 : decode cL_law 166 = .ok (.invokevirtual 23, 3) := by decide +kernel
theorem dL_law_169 : decode cL_law 169 = .ok (.aload_n 2, 1) := by decide +kernel
theorem dL_law_170 : decode cL_law 170 = .ok (.aload_n 0, 1) := by decide +kernel
theorem dL_law_171 : decode cL_law 171 = .ok (.iload_n 3, 1) := by decide +kernel
theorem dL_law_172 : decode cL_law 172 = .ok (.iconst 1, 1) := by decide +kernel
theorem dL_law_173 : decode cL_law 173 = .ok (.iadd, 1) := by decide +kernel
theorem dL_law_174 : decode cL_law 174 = .ok (.iaload, 1) := by decide +kernel
theorem dL_law_175 : decode cL_law 175 = .ok (.invokevirtual 26, 3) := by decide +kernel
theorem dL_law_178 : decode cL_law 178 = .ok (.if_icmp .eq 444, 3) := by decide +kernel
theorem dL_law_181 : decode cL_law 181 = .ok (.iconst 0, 1) := by decide +kernel
theorem dL_law_182 : decode cL_law 182 = .ok (.ireturn, 1) := by decide +kernel
theorem dL_law_183 : decode cL_law 183 = .ok (.aload_n 1, 1) := by decide +kernel
theorem dL_law_184 : decode cL_law 184 = .ok (.aload_n 0, 1) := by decide +kernel
theorem dL_law_185 : decode cL_law 185 = .ok (.iload_n 3, 1) := by decide +kernel
theorem dL_law_186 : decode cL_law 186 = .ok (.iconst 1, 1) := by decide +kernel
theorem dL_law_187 : decode cL_law 187 = .ok (.iadd, 1) := by decide +kernel
theorem dL_law_188 : decode cL_law 188 = .ok (.iaload, 1) := by decide +kernel
theorem dL_law_189 : decode cL_law 189 = .ok (.invokevirtual 27, 3) := by decide +kernel
theorem dL_law_192 : decode cL_law 192 = .ok (.aload_n 2, 1) := by decide +kernel
theorem dL_law_193 : decode cL_law 193 = .ok (.aload_n 0, 1) := by decide +kernel
theorem dL_law_194 : decode cL_law 194 = .ok (.iload_n 3, 1) := by decide +kernel
theorem dL_law_195 : decode cL_law 195 = .ok (.iconst 1, 1) := by decide +kernel
theorem dL_law_196 : decode cL_law 196 = .ok (.iadd, 1) := by decide +kernel
theorem dL_law_197 : decode cL_law 197 = .ok (.iaload, 1) := by decide +kernel
theorem dL_law_198 : decode cL_law 198 = .ok (.invokevirtual 30, 3) := by decide +kernel
theorem dL_law_201 : decode cL_law 201 = .ok (.if_icmp .eq 421, 3) := by decide +kernel
theorem dL_law_204 : decode cL_law 204 = .ok (.iconst 0, 1) := by decide +kernel
theorem dL_law_205 : decode cL_law 205 = .ok (.ireturn, 1) := by decide +kernel
theorem dL_law_206 : decode cL_law 206 = .ok (.aload_n 1, 1) := by decide +kernel
theorem dL_law_207 : decode cL_law 207 = .ok (.aload_n 0, 1) := by decide +kernel
theorem dL_law_208 : decode cL_law 208 = .ok (.iload_n 3, 1) := by decide +kernel
theorem dL_law_209 : decode cL_law 209 = .ok (.iconst 1, 1) := by decide +kernel
theorem dL_law_210 : decode cL_law 210 = .ok (.iadd, 1) := by decide +kernel
theorem dL_law_211 : decode cL_law 211 = .ok (.iaload, 1) := by decide +kernel
theorem dL_law_212 : decode cL_law 212 = .ok (.invokevirtual 31, 3) := by decide +kernel
theorem dL_law_215 : decode cL_law 215 = .ok (.aload_n 2, 1) := by decide +kernel
theorem dL_law_216 : decode cL_law 216 = .ok (.aload_n 0, 1) := by decide +kernel
theorem dL_law_217 : decode cL_law 217 = .ok (.iload_n 3, 1) := by decide +kernel
theorem dL_law_218 : decode cL_law 218 = .ok (.iconst 1, 1) := by decide +kernel
theorem dL_law_219 : decode cL_law 219 = .ok (.iadd, 1) := by decide +kernel
theorem dL_law_220 : decode cL_law 220 = .ok (.iaload, 1) := by decide +kernel
theorem dL_law_221 : decode cL_law 221 = .ok (.invokevirtual 34, 3) := by decide +kernel
theorem dL_law_224 : decode cL_law 224 = .ok (.if_icmp .eq 398, 3) := by decide +kernel
theorem dL_law_227 : decode cL_law 227 = .ok (.iconst 0, 1) := by decide +kernel
theorem dL_law_228 : decode cL_law 228 = .ok (.ireturn, 1) := by decide +kernel
theorem dL_law_229 : decode cL_law 229 = .ok (.aload_n 1, 1) := by decide +kernel
theorem dL_law_230 : decode cL_law 230 = .ok (.aload_n 0, 1) := by decide +kernel
theorem dL_law_231 : decode cL_law 231 = .ok (.iload_n 3, 1) := by decide +kernel
theorem dL_law_232 : decode cL_law 232 = .ok (.iconst 1, 1) := by decide +kernel
theorem dL_law_233 : decode cL_law 233 = .ok (.iadd, 1) := by decide +kernel
theorem dL_law_234 : decode cL_law 234 = .ok (.iaload, 1) := by decide +kernel
theorem dL_law_235 : decode cL_law 235 = .ok (.aload_n 0, 1) := by decide +kernel
theorem dL_law_236 : decode cL_law 236 = .ok (.iload_n 3, 1) := by decide +kernel
theorem dL_law_237 : decode cL_law 237 = .ok (.iconst 2, 1) := by decide +kernel
theorem dL_law_238 : decode cL_law 238 = .ok (.iadd, 1) := by decide +kernel
theorem dL_law_239 : decode cL_law 239 = .ok (.iaload, 1) := by decide +kernel
theorem dL_law_240 : decode cL_law 240 = .ok (.aload_n 0, 1) := by decide +kernel
theorem dL_law_241 : decode cL_law 241 = .ok (.iload_n 3, 1) := by decide +kernel
theorem dL_law_242 : decode cL_law 242 = .ok (.iconst 3, 1) := by decide +kernel
theorem dL_law_243 : decode cL_law 243 = .ok (.iadd, 1) := by decide +kernel
theorem dL_law_244 : decode cL_law 244 = .ok (.iaload, 1) := by decide +kernel
theorem dL_law_245 : decode cL_law 245 = .ok (.invokevirtual 35, 3) := by decide +kernel
theorem dL_law_248 : decode cL_law 248 = .ok (.aload_n 2, 1) := by decide +kernel
theorem dL_law_249 : decode cL_law 249 = .ok (.aload_n 0, 1) := by decide +kernel
theorem dL_law_250 : decode cL_law 250 = .ok (.iload_n 3, 1) := by decide +kernel
theorem dL_law_251 : decode cL_law 251 = .ok (.iconst 1, 1) := by decide +kernel
theorem dL_law_252 : decode cL_law 252 = .ok (.iadd, 1) := by decide +kernel
theorem dL_law_253 : decode cL_law 253 = .ok (.iaload, 1) := by decide +kernel
theorem dL_law_254 : decode cL_law 254 = .ok (.aload_n 0, 1) := by decide +kernel
theorem dL_law_255 : decode cL_law 255 = .ok (.iload_n 3, 1) := by decide +kernel
theorem dL_law_256 : decode cL_law 256 = .ok (.iconst 2, 1) := by decide +kernel
theorem dL_law_257 : decode cL_law 257 = .ok (.iadd, 1) := by decide +kernel
theorem dL_law_258 : decode cL_law 258 = .ok (.iaload, 1) := by decide +kernel
theorem dL_law_259 : decode cL_law 259 = .ok (.aload_n 0, 1) := by decide +kernel
theorem dL_law_260 : decode cL_law 260 = .ok (.iload_n 3, 1) := by decide +kernel
theorem dL_law_261 : decode cL_law 261 = .ok (.iconst 3, 1) := by decide +kernel
theorem dL_law_262 : decode cL_law 262 = .ok (.iadd, 1) := by decide +kernel
theorem dL_law_263 : decode cL_law 263 = .ok (.iaload, 1) := by decide +kernel
theorem dL_law_264 : decode cL_law 264 = .ok (.invokevirtual 39, 3) := by decide +kernel
theorem dL_law_267 : decode cL_law 267 = .ok (.if_icmp .eq 355, 3) := by decide +kernel
theorem dL_law_270 : decode cL_law 270 = .ok (.iconst 0, 1) := by decide +kernel
theorem dL_law_271 : decode cL_law 271 = .ok (.ireturn, 1) := by decide +kernel
theorem dL_law_272 : decode cL_law 272 = .ok (.aload_n 1, 1) := by decide +kernel
theorem dL_law_273 : decode cL_law 273 = .ok (.aload_n 0, 1) := by decide +kernel
theorem dL_law_274 : decode cL_law 274 = .ok (.iload_n 3, 1) := by decide +kernel
theorem dL_law_275 : decode cL_law 275 = .ok (.iconst 1, 1) := by decide +kernel
theorem dL_law_276 : decode cL_law 276 = .ok (.iadd, 1) := by decide +kernel
theorem dL_law_277 : decode cL_law 277 = .ok (.iaload, 1) := by decide +kernel
theorem dL_law_278 : decode cL_law 278 = .ok (.aload_n 0, 1) := by decide +kernel
theorem dL_law_279 : decode cL_law 279 = .ok (.iload_n 3, 1) := by decide +kernel
theorem dL_law_280 : decode cL_law 280 = .ok (.iconst 2, 1) := by decide +kernel
theorem dL_law_281 : decode cL_law 281 = .ok (.iadd, 1) := by decide +kernel
theorem dL_law_282 : decode cL_law 282 = .ok (.iaload, 1) := by decide +kernel
theorem dL_law_283 : decode cL_law 283 = .ok (.invokevirtual 40, 3) := by decide +kernel
theorem dL_law_286 : decode cL_law 286 = .ok (.aload_n 2, 1) := by decide +kernel
theorem dL_law_287 : decode cL_law 287 = .ok (.aload_n 0, 1) := by decide +kernel
theorem dL_law_288 : decode cL_law 288 = .ok (.iload_n 3, 1) := by decide +kernel
theorem dL_law_289 : decode cL_law 289 = .ok (.iconst 1, 1) := by decide +kernel
theorem dL_law_290 : decode cL_law 290 = .ok (.iadd, 1) := by decide +kernel
theorem dL_law_291 : decode cL_law 291 = .ok (.iaload, 1) := by decide +kernel
theorem dL_law_292 : decode cL_law 292 = .ok (.aload_n 0, 1) := by decide +kernel
theorem dL_law_293 : decode cL_law 293 = .ok (.iload_n 3, 1) := by decide +kernel
theorem dL_law_294 : decode cL_law 294 = .ok (.iconst 2, 1) := by decide +kernel
theorem dL_law_295 : decode cL_law 295 = .ok (.iadd, 1) := by decide +kernel
theorem dL_law_296 : decode cL_law 296 = .ok (.iaload, 1) := by decide +kernel
theorem dL_law_297 : decode cL_law 297 = .ok (.invokevirtual 44, 3) := by decide +kernel
theorem dL_law_300 : decode cL_law 300 = .ok (.if_icmp .eq 322, 3) := by decide +kernel
theorem dL_law_303 : decode cL_law 303 = .ok (.iconst 0, 1) := by decide +kernel
theorem dL_law_304 : decode cL_law 304 = .ok (.ireturn, 1) := by decide +kernel
theorem dL_law_305 : decode cL_law 305 = .ok (.aload_n 1, 1) := by decide +kernel
theorem dL_law_306 : decode cL_law 306 = .ok (.aload_n 0, 1) := by decide +kernel
theorem dL_law_307 : decode cL_law 307 = .ok (.iload_n 3, 1) := by decide +kernel
theorem dL_law_308 : decode cL_law 308 = .ok (.iconst 1, 1) := by decide +kernel
theorem dL_law_309 : decode cL_law 309 = .ok (.iadd, 1) := by decide +kernel
theorem dL_law_310 : decode cL_law 310 = .ok (.iaload, 1) := by decide +kernel
theorem dL_law_311 : decode cL_law 311 = .ok (.aload_n 0, 1) := by decide +kernel
theorem dL_law_312 : decode cL_law 312 = .ok (.iload_n 3, 1) := by decide +kernel
theorem dL_law_313 : decode cL_law 313 = .ok (.iconst 2, 1) := by decide +kernel
theorem dL_law_314 : decode cL_law 314 = .ok (.iadd, 1) := by decide +kernel
theorem dL_law_315 : decode cL_law 315 = .ok (.iaload, 1) := by decide +kernel
theorem dL_law_316 : decode cL_law 316 = .ok (.invokevirtual 45, 3) := by decide +kernel
theorem dL_law_319 : decode cL_law 319 = .ok (.aload_n 2, 1) := by decide +kernel
theorem dL_law_320 : decode cL_law 320 = .ok (.aload_n 0, 1) := by decide +kernel
theorem dL_law_321 : decode cL_law 321 = .ok (.iload_n 3, 1) := by decide +kernel
theorem dL_law_322 : decode cL_law 322 = .ok (.iconst 1, 1) := by decide +kernel
theorem dL_law_323 : decode cL_law 323 = .ok (.iadd, 1) := by decide +kernel
theorem dL_law_324 : decode cL_law 324 = .ok (.iaload, 1) := by decide +kernel
theorem dL_law_325 : decode cL_law 325 = .ok (.aload_n 0, 1) := by decide +kernel
theorem dL_law_326 : decode cL_law 326 = .ok (.iload_n 3, 1) := by decide +kernel
theorem dL_law_327 : decode cL_law 327 = .ok (.iconst 2, 1) := by decide +kernel
theorem dL_law_328 : decode cL_law 328 = .ok (.iadd, 1) := by decide +kernel
theorem dL_law_329 : decode cL_law 329 = .ok (.iaload, 1) := by decide +kernel
theorem dL_law_330 : decode cL_law 330 = .ok (.invokevirtual 48, 3) := by decide +kernel
theorem dL_law_333 : decode cL_law 333 = .ok (.if_icmp .eq 289, 3) := by decide +kernel
theorem dL_law_336 : decode cL_law 336 = .ok (.iconst 0, 1) := by decide +kernel
theorem dL_law_337 : decode cL_law 337 = .ok (.ireturn, 1) := by decide +kernel
theorem dL_law_338 : decode cL_law 338 = .ok (.aload_n 1, 1) := by decide +kernel
theorem dL_law_339 : decode cL_law 339 = .ok (.invokevirtual 49, 3) := by decide +kernel
theorem dL_law_342 : decode cL_law 342 = .ok (.aload_n 2, 1) := by decide +kernel
theorem dL_law_343 : decode cL_law 343 = .ok (.invokevirtual 52, 3) := by decide +kernel
theorem dL_law_346 : decode cL_law 346 = .ok (.if_icmp .eq 276, 3) := by decide +kernel
theorem dL_law_349 : decode cL_law 349 = .ok (.iconst 0, 1) := by decide +kernel
theorem dL_law_350 : decode cL_law 350 = .ok (.ireturn, 1) := by decide +kernel
theorem dL_law_351 : decode cL_law 351 = .ok (.aload_n 1, 1) := by decide +kernel
theorem dL_law_352 : decode cL_law 352 = .ok (.aload_n 0, 1) := by decide +kernel
theorem dL_law_353 : decode cL_law 353 = .ok (.iload_n 3, 1) := by decide +kernel
theorem dL_law_354 : decode cL_law 354 = .ok (.iconst 1, 1) := by decide +kernel
theorem dL_law_355 : decode cL_law 355 = .ok (.iadd, 1) := by decide +kernel
theorem dL_law_356 : decode cL_law 356 = .ok (.iaload, 1) := by decide +kernel
theorem dL_law_357 : decode cL_law 357 = .ok (.invokevirtual 53, 3) := by decide +kernel
theorem dL_law_360 : decode cL_law 360 = .ok (.aload_n 2, 1) := by decide +kernel
theorem dL_law_361 : decode cL_law 361 = .ok (.aload_n 0, 1) := by decide +kernel
theorem dL_law_362 : decode cL_law 362 = .ok (.iload_n 3, 1) := by decide +kernel
theorem dL_law_363 : decode cL_law 363 = .ok (.iconst 1, 1) := by decide +kernel
theorem dL_law_364 : decode cL_law 364 = .ok (.iadd, 1) := by decide +kernel
theorem dL_law_365 : decode cL_law 365 = .ok (.iaload, 1) := by decide +kernel
theorem dL_law_366 : decode cL_law 366 = .ok (.invokevirtual 56, 3) := by decide +kernel
theorem dL_law_369 : decode cL_law 369 = .ok (.if_icmp .eq 253, 3) := by decide +kernel
theorem dL_law_372 : decode cL_law 372 = .ok (.iconst 0, 1) := by decide +kernel
theorem dL_law_373 : decode cL_law 373 = .ok (.ireturn, 1) := by decide +kernel
theorem dL_law_374 : decode cL_law 374 = .ok (.aload_n 1, 1) := by decide +kernel
theorem dL_law_375 : decode cL_law 375 = .ok (.aload_n 0, 1) := by decide +kernel
theorem dL_law_376 : decode cL_law 376 = .ok (.iload_n 3, 1) := by decide +kernel
theorem dL_law_377 : decode cL_law 377 = .ok (.iconst 1, 1) := by decide +kernel
theorem dL_law_378 : decode cL_law 378 = .ok (.iadd, 1) := by decide +kernel
theorem dL_law_379 : decode cL_law 379 = .ok (.iaload, 1) := by decide +kernel
theorem dL_law_380 : decode cL_law 380 = .ok (.aload_n 0, 1) := by decide +kernel
theorem dL_law_381 : decode cL_law 381 = .ok (.iload_n 3, 1) := by decide +kernel
theorem dL_law_382 : decode cL_law 382 = .ok (.iconst 2, 1) := by decide +kernel
theorem dL_law_383 : decode cL_law 383 = .ok (.iadd, 1) := by decide +kernel
theorem dL_law_384 : decode cL_law 384 = .ok (.iaload, 1) := by decide +kernel
theorem dL_law_385 : decode cL_law 385 = .ok (.aload_n 0, 1) := by decide +kernel
theorem dL_law_386 : decode cL_law 386 = .ok (.iload_n 3, 1) := by decide +kernel
theorem dL_law_387 : decode cL_law 387 = .ok (.iconst 3, 1) := by decide +kernel
theorem dL_law_388 : decode cL_law 388 = .ok (.iadd, 1) := by decide +kernel
theorem dL_law_389 : decode cL_law 389 = .ok (.iaload, 1) := by decide +kernel
theorem dL_law_390 : decode cL_law 390 = .ok (.invokevirtual 57, 3) := by decide +kernel
theorem dL_law_393 : decode cL_law 393 = .ok (.aload_n 2, 1) := by decide +kernel
theorem dL_law_394 : decode cL_law 394 = .ok (.aload_n 0, 1) := by decide +kernel
theorem dL_law_395 : decode cL_law 395 = .ok (.iload_n 3, 1) := by decide +kernel
theorem dL_law_396 : decode cL_law 396 = .ok (.iconst 1, 1) := by decide +kernel
theorem dL_law_397 : decode cL_law 397 = .ok (.iadd, 1) := by decide +kernel
theorem dL_law_398 : decode cL_law 398 = .ok (.iaload, 1) := by decide +kernel
theorem dL_law_399 : decode cL_law 399 = .ok (.aload_n 0, 1) := by decide +kernel
theorem dL_law_400 : decode cL_law 400 = .ok (.iload_n 3, 1) := by decide +kernel
theorem dL_law_401 : decode cL_law 401 = .ok (.iconst 2, 1) := by decide +kernel
theorem dL_law_402 : decode cL_law 402 = .ok (.iadd, 1) := by decide +kernel
theorem dL_law_403 : decode cL_law 403 = .ok (.iaload, 1) := by decide +kernel
theorem dL_law_404 : decode cL_law 404 = .ok (.aload_n 0, 1) := by decide +kernel
theorem dL_law_405 : decode cL_law 405 = .ok (.iload_n 3, 1) := by decide +kernel
theorem dL_law_406 : decode cL_law 406 = .ok (.iconst 3, 1) := by decide +kernel
theorem dL_law_407 : decode cL_law 407 = .ok (.iadd, 1) := by decide +kernel
theorem dL_law_408 : decode cL_law 408 = .ok (.iaload, 1) := by decide +kernel
theorem dL_law_409 : decode cL_law 409 = .ok (.invokevirtual 60, 3) := by decide +kernel
theorem dL_law_412 : decode cL_law 412 = .ok (.if_icmp .eq 210, 3) := by decide +kernel
theorem dL_law_415 : decode cL_law 415 = .ok (.iconst 0, 1) := by decide +kernel
theorem dL_law_416 : decode cL_law 416 = .ok (.ireturn, 1) := by decide +kernel
theorem dL_law_417 : decode cL_law 417 = .ok (.aload_n 1, 1) := by decide +kernel
theorem dL_law_418 : decode cL_law 418 = .ok (.aload_n 0, 1) := by decide +kernel
theorem dL_law_419 : decode cL_law 419 = .ok (.iload_n 3, 1) := by decide +kernel
theorem dL_law_420 : decode cL_law 420 = .ok (.iconst 1, 1) := by decide +kernel
theorem dL_law_421 : decode cL_law 421 = .ok (.iadd, 1) := by decide +kernel
theorem dL_law_422 : decode cL_law 422 = .ok (.iaload, 1) := by decide +kernel
theorem dL_law_423 : decode cL_law 423 = .ok (.aload_n 0, 1) := by decide +kernel
theorem dL_law_424 : decode cL_law 424 = .ok (.iload_n 3, 1) := by decide +kernel
theorem dL_law_425 : decode cL_law 425 = .ok (.iconst 2, 1) := by decide +kernel
theorem dL_law_426 : decode cL_law 426 = .ok (.iadd, 1) := by decide +kernel
theorem dL_law_427 : decode cL_law 427 = .ok (.iaload, 1) := by decide +kernel
theorem dL_law_428 : decode cL_law 428 = .ok (.aload_n 0, 1) := by decide +kernel
theorem dL_law_429 : decode cL_law 429 = .ok (.iload_n 3, 1) := by decide +kernel
theorem dL_law_430 : decode cL_law 430 = .ok (.iconst 3, 1) := by decide +kernel
theorem dL_law_431 : decode cL_law 431 = .ok (.iadd, 1) := by decide +kernel
theorem dL_law_432 : decode cL_law 432 = .ok (.iaload, 1) := by decide +kernel
theorem dL_law_433 : decode cL_law 433 = .ok (.invokevirtual 61, 3) := by decide +kernel
theorem dL_law_436 : decode cL_law 436 = .ok (.aload_n 2, 1) := by decide +kernel
theorem dL_law_437 : decode cL_law 437 = .ok (.aload_n 0, 1) := by decide +kernel
theorem dL_law_438 : decode cL_law 438 = .ok (.iload_n 3, 1) := by decide +kernel
theorem dL_law_439 : decode cL_law 439 = .ok (.iconst 1, 1) := by decide +kernel
theorem dL_law_440 : decode cL_law 440 = .ok (.iadd, 1) := by decide +kernel
theorem dL_law_441 : decode cL_law 441 = .ok (.iaload, 1) := by decide +kernel
theorem dL_law_442 : decode cL_law 442 = .ok (.aload_n 0, 1) := by decide +kernel
theorem dL_law_443 : decode cL_law 443 = .ok (.iload_n 3, 1) := by decide +kernel
theorem dL_law_444 : decode cL_law 444 = .ok (.iconst 2, 1) := by decide +kernel
theorem dL_law_445 : decode cL_law 445 = .ok (.iadd, 1) := by decide +kernel
theorem dL_law_446 : decode cL_law 446 = .ok (.iaload, 1) := by decide +kernel
theorem dL_law_447 : decode cL_law 447 = .ok (.aload_n 0, 1) := by decide +kernel
theorem dL_law_448 : decode cL_law 448 = .ok (.iload_n 3, 1) := by decide +kernel
theorem dL_law_449 : decode cL_law 449 = .ok (.iconst 3, 1) := by decide +kernel
theorem dL_law_450 : decode cL_law 450 = .ok (.iadd, 1) := by decide +kernel
theorem dL_law_451 : decode cL_law 451 = .ok (.iaload, 1) := by decide +kernel
theorem dL_law_452 : decode cL_law 452 = .ok (.invokevirtual 64, 3) := by decide +kernel
theorem dL_law_455 : decode cL_law 455 = .ok (.if_icmp .eq 167, 3) := by decide +kernel
theorem dL_law_458 : decode cL_law 458 = .ok (.iconst 0, 1) := by decide +kernel
theorem dL_law_459 : decode cL_law 459 = .ok (.ireturn, 1) := by decide +kernel
theorem dL_law_460 : decode cL_law 460 = .ok (.aload_n 1, 1) := by decide +kernel
theorem dL_law_461 : decode cL_law 461 = .ok (.aload_n 0, 1) := by decide +kernel
theorem dL_law_462 : decode cL_law 462 = .ok (.iload_n 3, 1) := by decide +kernel
theorem dL_law_463 : decode cL_law 463 = .ok (.iconst 1, 1) := by decide +kernel
theorem dL_law_464 : decode cL_law 464 = .ok (.iadd, 1) := by decide +kernel
theorem dL_law_465 : decode cL_law 465 = .ok (.iaload, 1) := by decide +kernel
theorem dL_law_466 : decode cL_law 466 = .ok (.aload_n 0, 1) := by decide +kernel
theorem dL_law_467 : decode cL_law 467 = .ok (.iload_n 3, 1) := by decide +kernel
theorem dL_law_468 : decode cL_law 468 = .ok (.iconst 2, 1) := by decide +kernel
theorem dL_law_469 : decode cL_law 469 = .ok (.iadd, 1) := by decide +kernel
theorem dL_law_470 : decode cL_law 470 = .ok (.iaload, 1) := by decide +kernel
theorem dL_law_471 : decode cL_law 471 = .ok (.invokevirtual 65, 3) := by decide +kernel
theorem dL_law_474 : decode cL_law 474 = .ok (.aload_n 2, 1) := by decide +kernel
theorem dL_law_475 : decode cL_law 475 = .ok (.aload_n 0, 1) := by decide +kernel
theorem dL_law_476 : decode cL_law 476 = .ok (.iload_n 3, 1) := by decide +kernel
theorem dL_law_477 : decode cL_law 477 = .ok (.iconst 1, 1) := by decide +kernel
theorem dL_law_478 : decode cL_law 478 = .ok (.iadd, 1) := by decide +kernel
theorem dL_law_479 : decode cL_law 479 = .ok (.iaload, 1) := by decide +kernel
theorem dL_law_480 : decode cL_law 480 = .ok (.aload_n 0, 1) := by decide +kernel
theorem dL_law_481 : decode cL_law 481 = .ok (.iload_n 3, 1) := by decide +kernel
theorem dL_law_482 : decode cL_law 482 = .ok (.iconst 2, 1) := by decide +kernel
theorem dL_law_483 : decode cL_law 483 = .ok (.iadd, 1) := by decide +kernel
theorem dL_law_484 : decode cL_law 484 = .ok (.iaload, 1) := by decide +kernel
theorem dL_law_485 : decode cL_law 485 = .ok (.invokevirtual 68, 3) := by decide +kernel
theorem dL_law_488 : decode cL_law 488 = .ok (.if_icmp .eq 134, 3) := by decide +kernel
theorem dL_law_491 : decode cL_law 491 = .ok (.iconst 0, 1) := by decide +kernel
theorem dL_law_492 : decode cL_law 492 = .ok (.ireturn, 1) := by decide +kernel
theorem dL_law_493 : decode cL_law 493 = .ok (.aload_n 1, 1) := by decide +kernel
theorem dL_law_494 : decode cL_law 494 = .ok (.aload_n 0, 1) := by decide +kernel
theorem dL_law_495 : decode cL_law 495 = .ok (.iload_n 3, 1) := by decide +kernel
theorem dL_law_496 : decode cL_law 496 = .ok (.iconst 1, 1) := by decide +kernel
theorem dL_law_497 : decode cL_law 497 = .ok (.iadd, 1) := by decide +kernel
theorem dL_law_498 : decode cL_law 498 = .ok (.iaload, 1) := by decide +kernel
theorem dL_law_499 : decode cL_law 499 = .ok (.aload_n 0, 1) := by decide +kernel
theorem dL_law_500 : decode cL_law 500 = .ok (.iload_n 3, 1) := by decide +kernel
theorem dL_law_501 : decode cL_law 501 = .ok (.iconst 2, 1) := by decide +kernel
theorem dL_law_502 : decode cL_law 502 = .ok (.iadd, 1) := by decide +kernel
theorem dL_law_503 : decode cL_law 503 = .ok (.iaload, 1) := by decide +kernel
theorem dL_law_504 : decode cL_law 504 = .ok (.aload_n 0, 1) := by decide +kernel
theorem dL_law_505 : decode cL_law 505 = .ok (.iload_n 3, 1) := by decide +kernel
theorem dL_law_506 : decode cL_law 506 = .ok (.iconst 3, 1) := by decide +kernel
theorem dL_law_507 : decode cL_law 507 = .ok (.iadd, 1) := by decide +kernel
theorem dL_law_508 : decode cL_law 508 = .ok (.iaload, 1) := by decide +kernel
theorem dL_law_509 : decode cL_law 509 = .ok (.invokevirtual 69, 3) := by decide +kernel
theorem dL_law_512 : decode cL_law 512 = .ok (.aload_n 2, 1) := by decide +kernel
theorem dL_law_513 : decode cL_law 513 = .ok (.aload_n 0, 1) := by decide +kernel
theorem dL_law_514 : decode cL_law 514 = .ok (.iload_n 3, 1) := by decide +kernel
theorem dL_law_515 : decode cL_law 515 = .ok (.iconst 1, 1) := by decide +kernel
theorem dL_law_516 : decode cL_law 516 = .ok (.iadd, 1) := by decide +kernel
theorem dL_law_517 : decode cL_law 517 = .ok (.iaload, 1) := by decide +kernel
theorem dL_law_518 : decode cL_law 518 = .ok (.aload_n 0, 1) := by decide +kernel
theorem dL_law_519 : decode cL_law 519 = .ok (.iload_n 3, 1) := by decide +kernel
theorem dL_law_520 : decode cL_law 520 = .ok (.iconst 2, 1) := by decide +kernel
theorem dL_law_521 : decode cL_law 521 = .ok (.iadd, 1) := by decide +kernel
theorem dL_law_522 : decode cL_law 522 = .ok (.iaload, 1) := by decide +kernel
theorem dL_law_523 : decode cL_law 523 = .ok (.aload_n 0, 1) := by decide +kernel
theorem dL_law_524 : decode cL_law 524 = .ok (.iload_n 3, 1) := by decide +kernel
theorem dL_law_525 : decode cL_law 525 = .ok (.iconst 3, 1) := by decide +kernel
theorem dL_law_526 : decode cL_law 526 = .ok (.iadd, 1) := by decide +kernel
theorem dL_law_527 : decode cL_law 527 = .ok (.iaload, 1) := by decide +kernel
theorem dL_law_528 : decode cL_law 528 = .ok (.invokevirtual 72, 3) := by decide +kernel
theorem dL_law_531 : decode cL_law 531 = .ok (.if_icmp .eq 91, 3) := by decide +kernel
theorem dL_law_534 : decode cL_law 534 = .ok (.iconst 0, 1) := by decide +kernel
theorem dL_law_535 : decode cL_law 535 = .ok (.ireturn, 1) := by decide +kernel
theorem dL_law_536 : decode cL_law 536 = .ok (.aload_n 1, 1) := by decide +kernel
theorem dL_law_537 : decode cL_law 537 = .ok (.invokevirtual 73, 3) := by decide +kernel
theorem dL_law_540 : decode cL_law 540 = .ok (.aload_n 2, 1) := by decide +kernel
theorem dL_law_541 : decode cL_law 541 = .ok (.invokevirtual 76, 3) := by decide +kernel
theorem dL_law_544 : decode cL_law 544 = .ok (.if_icmp .eq 78, 3) := by decide +kernel
theorem dL_law_547 : decode cL_law 547 = .ok (.iconst 0, 1) := by decide +kernel
theorem dL_law_548 : decode cL_law 548 = .ok (.ireturn, 1) := by decide +kernel
theorem dL_law_549 : decode cL_law 549 = .ok (.aload_n 1, 1) := by decide +kernel
theorem dL_law_550 : decode cL_law 550 = .ok (.aload_n 0, 1) := by decide +kernel
theorem dL_law_551 : decode cL_law 551 = .ok (.iload_n 3, 1) := by decide +kernel
theorem dL_law_552 : decode cL_law 552 = .ok (.iconst 1, 1) := by decide +kernel
theorem dL_law_553 : decode cL_law 553 = .ok (.iadd, 1) := by decide +kernel
theorem dL_law_554 : decode cL_law 554 = .ok (.iaload, 1) := by decide +kernel
theorem dL_law_555 : decode cL_law 555 = .ok (.invokevirtual 77, 3) := by decide +kernel
theorem dL_law_558 : decode cL_law 558 = .ok (.aload_n 2, 1) := by decide +kernel
theorem dL_law_559 : decode cL_law 559 = .ok (.aload_n 0, 1) := by decide +kernel
theorem dL_law_560 : decode cL_law 560 = .ok (.iload_n 3, 1) := by decide +kernel
theorem dL_law_561 : decode cL_law 561 = .ok (.iconst 1, 1) := by decide +kernel
theorem dL_law_562 : decode cL_law 562 = .ok (.iadd, 1) := by decide +kernel
theorem dL_law_563 : decode cL_law 563 = .ok (.iaload, 1) := by decide +kernel
theorem dL_law_564 : decode cL_law 564 = .ok (.invokevirtual 80, 3) := by decide +kernel
theorem dL_law_567 : decode cL_law 567 = .ok (.if_icmp .eq 55, 3) := by decide +kernel
theorem dL_law_570 : decode cL_law 570 = .ok (.iconst 0, 1) := by decide +kernel
theorem dL_law_571 : decode cL_law 571 = .ok (.ireturn, 1) := by decide +kernel
theorem dL_law_572 : decode cL_law 572 = .ok (.aload_n 1, 1) := by decide +kernel
theorem dL_law_573 : decode cL_law 573 = .ok (.invokevirtual 81, 3) := by decide +kernel
theorem dL_law_576 : decode cL_law 576 = .ok (.aload_n 2, 1) := by decide +kernel
theorem dL_law_577 : decode cL_law 577 = .ok (.invokevirtual 84, 3) := by decide +kernel
theorem dL_law_580 : decode cL_law 580 = .ok (.if_icmp .eq 42, 3) := by decide +kernel
theorem dL_law_583 : decode cL_law 583 = .ok (.iconst 0, 1) := by decide +kernel
theorem dL_law_584 : decode cL_law 584 = .ok (.ireturn, 1) := by decide +kernel
theorem dL_law_585 : decode cL_law 585 = .ok (.aload_n 1, 1) := by decide +kernel
theorem dL_law_586 : decode cL_law 586 = .ok (.aload_n 0, 1) := by decide +kernel
theorem dL_law_587 : decode cL_law 587 = .ok (.iload_n 3, 1) := by decide +kernel
theorem dL_law_588 : decode cL_law 588 = .ok (.iconst 1, 1) := by decide +kernel
theorem dL_law_589 : decode cL_law 589 = .ok (.iadd, 1) := by decide +kernel
theorem dL_law_590 : decode cL_law 590 = .ok (.iaload, 1) := by decide +kernel
theorem dL_law_591 : decode cL_law 591 = .ok (.invokevirtual 85, 3) := by decide +kernel
theorem dL_law_594 : decode cL_law 594 = .ok (.aload_n 2, 1) := by decide +kernel
theorem dL_law_595 : decode cL_law 595 = .ok (.aload_n 0, 1) := by decide +kernel
theorem dL_law_596 : decode cL_law 596 = .ok (.iload_n 3, 1) := by decide +kernel
theorem dL_law_597 : decode cL_law 597 = .ok (.iconst 1, 1) := by decide +kernel
theorem dL_law_598 : decode cL_law 598 = .ok (.iadd, 1) := by decide +kernel
theorem dL_law_599 : decode cL_law 599 = .ok (.iaload, 1) := by decide +kernel
theorem dL_law_600 : decode cL_law 600 = .ok (.invokevirtual 88, 3) := by decide +kernel
theorem dL_law_603 : decode cL_law 603 = .ok (.if_icmp .eq 19, 3) := by decide +kernel
theorem dL_law_606 : decode cL_law 606 = .ok (.iconst 0, 1) := by decide +kernel
theorem dL_law_607 : decode cL_law 607 = .ok (.ireturn, 1) := by decide +kernel
theorem dL_law_608 : decode cL_law 608 = .ok (.aload_n 1, 1) := by decide +kernel
theorem dL_law_609 : decode cL_law 609 = .ok (.invokevirtual 89, 3) := by decide +kernel
theorem dL_law_612 : decode cL_law 612 = .ok (.aload_n 2, 1) := by decide +kernel
theorem dL_law_613 : decode cL_law 613 = .ok (.invokevirtual 93, 3) := by decide +kernel
theorem dL_law_616 : decode cL_law 616 = .ok (.lcmp, 1) := by decide +kernel
theorem dL_law_617 : decode cL_law 617 = .ok (.ifCond .eq 5, 3) := by decide +kernel
theorem dL_law_620 : decode cL_law 620 = .ok (.iconst 0, 1) := by decide +kernel
theorem dL_law_621 : decode cL_law 621 = .ok (.ireturn, 1) := by decide +kernel
theorem dL_law_622 : decode cL_law 622 = .ok (.iinc 3 4, 3) := by decide +kernel
theorem dL_law_625 : decode cL_law 625 = .ok (.goto (-607), 3) := by decide +kernel
theorem dL_law_628 : decode cL_law 628 = .ok (.iconst 1, 1) := by decide +kernel
theorem dL_law_629 : decode cL_law 629 = .ok (.ireturn, 1) := by decide +kernel
